/-! the law's own rows: a call that may throw with its own table, and a ghost μ that the world tells (CRel) -/
/-- a body with handlers that throws nothing itself -/
theorem ofWH {l : Launch} {y : MethodName} {ws ws' : List Cond} {rm : Room} {Pc : Array Value → State → Prop} {Qc : Array Value → State → Outcome → State → Prop} {mc ms : Nat} {free : Addr → Prop} {cc : ByteArray} {maxL : Nat} {ret : Option FieldType} {hh : List (Nat × Nat × Nat × Nat)}
    (hy : plainName y.cls = true) (hw : ws = Cond.codeWith y cc maxL ret hh :: ws')
    (body : ∀ p e s m args below meth c s₁, BodyLoose p l y (headSpec ws rm) cc maxL ret e s m args below meth c s₁ → c.maxLocals = maxL → Pc args s →
      W p l e (headSpec ws rm).room s m args below meth c s.heap [] 0 0 (MQ below Qc args s mc ms free) (entryFrame m args maxL)) : Met l y ws rm Pc Qc mc ms free := by
  refine MetFree.of_bodyS (code := cc) (maxLocals := maxL) (ret := ret) hy ?_ ?_
  · intro args s m h hn
    obtain ⟨m9, meth, c, hn9, h1, h2, h3, h4, -, h5, h6, -⟩ := Cond.codeWith_spec (atoms_spec (ws := ws) h _ (by rw [hw]; exact List.mem_cons_self))
    cases hn.symm.trans hn9
    exact ⟨meth, c, h1, h2, h3, h4, h5, h6⟩
  · intro p e s m args below meth c s₁ B hml hP _
    have hh0 : s₁.heap = s.heap := by rw [B.state]; rfl
    obtain ⟨t, a1, o, b1, b2, b3⟩ := body p e s m args below meth c s₁ B hml hP s₁ hh0 (Stand.of_body B)
    exact ⟨t, o, a1, b1, b2, b3⟩
def wG (D : va_G) (ct : Nat → ClassId) (ek ad : Nat → Nat) (X : va_W) (μ : Mem) (H : Heap) : Prop := ∃ σ, wP D ct ek ad X σ H ∧ CRel σ μ
abbrev gPc (D : va_G) (ct : Nat → ClassId) (ek ad : Nat → Nat) (N0 : Nat) (X : va_W) (F : State → Prop) (As : List Value) (μ : Mem) : Array Value → State → Prop :=
  va_Pc As (fun U => GI D ct ek ad N0 X F U ∧ wG D ct ek ad X μ U.heap)
abbrev gQi (D : va_G) (ct : Nat → ClassId) (ek ad : Nat → Nat) (N0 : Nat) (X : va_W) (post : Int32 → Mem → Prop) : Array Value → State → Outcome → State → Prop :=
  va_Qi post (fun μ t => wG D ct ek ad X μ t.heap) (fr N0)
abbrev gQl (D : va_G) (ct : Nat → ClassId) (ek ad : Nat → Nat) (N0 : Nat) (X : va_W) (post : Int64 → Mem → Prop) : Array Value → State → Outcome → State → Prop :=
  va_Ql post (fun μ t => wG D ct ek ad X μ t.heap) (fr N0)
abbrev gQd (D : va_G) (ct : Nat → ClassId) (ek ad : Nat → Nat) (N0 : Nat) (X : va_W) (post : UInt64 → Mem → Prop) : Array Value → State → Outcome → State → Prop :=
  va_Qd post (fun μ t => wG D ct ek ad X μ t.heap) (fr N0)
abbrev gQf (D : va_G) (ct : Nat → ClassId) (ek ad : Nat → Nat) (N0 : Nat) (X : va_W) (post : UInt32 → Mem → Prop) : Array Value → State → Outcome → State → Prop :=
  va_Qf post (fun μ t => wG D ct ek ad X μ t.heap) (fr N0)
/-- a contract of one of the law's own methods; w0 is the word of its code -/
abbrev MG (l : Launch) (y : MethodName) (w0 : Cond) (d k : Nat) (D : va_G) (ct : Nat → ClassId) (ek ad : Nat → Nat) (N0 : Nat) (X : va_W) (F : State → Prop) (As : List Value) (μ : Mem) (Qc : Array Value → State → Outcome → State → Prop) : Prop :=
  Met l y (w0 :: BW) (rmd d k (6 * k)) (gPc D ct ek ad N0 X F As μ) Qc k (6 * k) (fr N0)
/-- what the tables say of a static method of the law's: with handlers, and without -/
def CKH (y : MethodName) (cc : ByteArray) (n : Nat) (ret : Option FieldType) (hh : List (Nat × Nat × Nat × Nat)) (k : Nat) : Prop :=
  Cond.static y ∈ BW ∧ Cond.initialized y.cls ∈ BW ∧ Cond.codeWith y cc n ret hh ∈ BW ∧ (y.cls ≠ "java/lang/invoke/MethodHandle" ∧ y.cls ≠ "java/lang/invoke/VarHandle" ∧ (parseMethodDescriptor y.desc).map (fun d => d.parameters.length) = some k) ∧ n ≤ 13
def CKS (y : MethodName) (cc : ByteArray) (n : Nat) (ret : Option FieldType) (k : Nat) : Prop :=
  Cond.static y ∈ BW ∧ Cond.initialized y.cls ∈ BW ∧ Cond.code y cc n ret ∈ BW ∧ (y.cls ≠ "java/lang/invoke/MethodHandle" ∧ y.cls ≠ "java/lang/invoke/VarHandle" ∧ (parseMethodDescriptor y.desc).map (fun d => d.parameters.length) = some k) ∧ n ≤ 13
section GWR
variable {p : Program} {l : Launch} {e : Env} {R : Room} {s : State} {m : MethodId} {args : Array Value} {below : List Frame} {meth : Method} {c : Code} {H : Heap} {locs : List Loc} {cells slots : Nat} {Q : State → Prop}
variable {cc : ByteArray} {nL : Nat} {own : String} {pc : Nat} {ls : Array Slot} {rest : List Value}
variable {D : va_G} {ct : Nat → ClassId} {ek ad cs : Nat → Nat} {N0 : Nat} {X : va_W} {F : State → Prop} {σ μ : Mem} {c0 c1 : Nat}
theorem gPc_blind {As : List Value} : FrameBlind (gPc D ct ek ad N0 X F As μ) := by
  intro a U g mk h
  obtain ⟨h1, h2, h3⟩ := h
  refine ⟨h1, GI.go h2 ?_ ?_ ?_, h3⟩
  · exact State.WarmedH.refl U
  · exact Nat.le_refl _
  · intro q _ _; rfl
/-- a method's start -/
theorem msG {y : MethodName} {ret : Option FieldType} {d k : Nat} {As : List Value} {Qc : Array Value → State → Outcome → State → Prop} (hy : plainName y.cls = true) (ho : y.cls = own) (hlen : (lg_sl As).length ≤ nL)
    (body : ∀ p e s m args below meth c, CallFix p m c cc nL s args BW own → meth.sig.returnType = ret → meth.locks = false → GI D ct ek ad N0 X F s → wG D ct ek ad X μ s.heap → va_S (fr N0) s.heap s.heap [] → ∀ ls, lv_has ls nL (lv_args 0 As) →
      W p l e (rmd d k (6 * k)) s m args below meth c s.heap [] 0 (6 * 0) (MQ below Qc args s k (6 * k) (fr N0)) (F0 m 0 ls [])) :
    MG l y (.code y cc nL ret) d k D ct ek ad N0 X F As μ Qc := by
  refine Met.ofW (cc := cc) (maxL := nL) (ret := ret) hy rfl ?_
  intro p e s m args below meth c s₁ B hml hv
  obtain ⟨rfl, G, hP⟩ := hv
  have hts := atoms_spec (ws := Cond.code y cc nL ret :: BW) B.pre
  have hown : s.vm.findClass own = some m.cls := by rw [← ho]; exact findClass_of_methodNamed B.named
  have hl := lv_entry As (n := nL) hlen
  rw [lg_entry_eq]
  exact body p e s m _ below meth c ⟨B.exec, B.bytes, hml, hown, fun w hw => hts w (List.mem_cons_of_mem _ hw)⟩ B.returns B.notSynchronized G hP va_S.rf _ hl
theorem msH {y : MethodName} {ret : Option FieldType} {hh : List (Nat × Nat × Nat × Nat)} {d k : Nat} {As : List Value} {Qc : Array Value → State → Outcome → State → Prop} (hy : plainName y.cls = true) (ho : y.cls = own) (hlen : (lg_sl As).length ≤ nL)
    (body : ∀ p e s m args below meth c, CallFix p m c cc nL s args BW own → meth.sig.returnType = ret → meth.locks = false → c.exceptionTable.toList = tableOf hh → GI D ct ek ad N0 X F s → wG D ct ek ad X μ s.heap → va_S (fr N0) s.heap s.heap [] → ∀ ls, lv_has ls nL (lv_args 0 As) →
      W p l e (rmd d k (6 * k)) s m args below meth c s.heap [] 0 0 (MQ below Qc args s k (6 * k) (fr N0)) (F0 m 0 ls [])) :
    MG l y (.codeWith y cc nL ret hh) d k D ct ek ad N0 X F As μ Qc := by
  refine ofWH (cc := cc) (maxL := nL) (ret := ret) (hh := hh) hy rfl ?_
  intro p e s m args below meth c s₁ B hml hv
  obtain ⟨rfl, G, hP⟩ := hv
  have hts := atoms_spec (ws := Cond.codeWith y cc nL ret hh :: BW) B.pre
  have hown : s.vm.findClass own = some m.cls := by rw [← ho]; exact findClass_of_methodNamed B.named
  have hl := lv_entry As (n := nL) hlen
  rw [lg_entry_eq]
  exact body p e s m _ below meth c ⟨B.exec, B.bytes, hml, hown, fun w hw => hts w (List.mem_cons_of_mem _ hw)⟩ B.returns B.notSynchronized (vx_table (x := y) B (hts _ List.mem_cons_self)) G hP va_S.rf _ hl
/-- ends -/
theorem eGi {post : Int32 → Mem → Prop} {r : Int32} {k : Nat} (S : CallFix p m c cc nL s args BW own) (hr : meth.sig.returnType = some .int) (hlocks : meth.locks = false) (hW : wG D ct ek ad X μ H) (hS : va_S (fr N0) s.heap H locs) (hcs : cells ≤ k ∧ slots ≤ 6 * k) (hdg : decode cc pc = .ok (.ireturn, 1)) (hp : post r μ) :
    W p l e R s m args below meth c H locs cells slots (MQ below (gQi D ct ek ad N0 X post) args s k (6 * k) (fr N0)) (F0 m pc ls [.int r]) :=
  W.widen hcs.1 hcs.2 (W.iret S.1 S.2.1 hr (fun t ht hW' => ⟨⟨r, μ, rfl, hp, (congrArg (wG D ct ek ad X μ) ht).mpr hW⟩, hS.F ht⟩) hS.2.2 hdg hlocks)
theorem eGz {post : Int32 → Mem → Prop} {r : Int32} {k : Nat} {ty : FieldType} (S : CallFix p m c cc nL s args BW own) (hr : meth.sig.returnType = some ty) (hlocks : meth.locks = false) (hW : wG D ct ek ad X μ H) (hS : va_S (fr N0) s.heap H locs) (hcs : cells ≤ k ∧ slots ≤ 6 * k) (hn : narrow ty (.int r) = .int r) (hdg : decode cc pc = .ok (.ireturn, 1)) (hp : post r μ) :
    W p l e R s m args below meth c H locs cells slots (MQ below (gQi D ct ek ad N0 X post) args s k (6 * k) (fr N0)) (F0 m pc ls [.int r]) :=
  W.widen hcs.1 hcs.2 (W.zret S.1 S.2.1 hr hn (fun t ht hW' => ⟨⟨r, μ, rfl, hp, (congrArg (wG D ct ek ad X μ) ht).mpr hW⟩, hS.F ht⟩) hS.2.2 hdg hlocks)
theorem eGl {post : Int64 → Mem → Prop} {r : Int64} {k : Nat} (S : CallFix p m c cc nL s args BW own) (hr : meth.sig.returnType = some .long) (hlocks : meth.locks = false) (hW : wG D ct ek ad X μ H) (hS : va_S (fr N0) s.heap H locs) (hcs : cells ≤ k ∧ slots ≤ 6 * k) (hdg : decode cc pc = .ok (.lreturn, 1)) (hp : post r μ) :
    W p l e R s m args below meth c H locs cells slots (MQ below (gQl D ct ek ad N0 X post) args s k (6 * k) (fr N0)) (F0 m pc ls [.long r]) :=
  W.widen hcs.1 hcs.2 (W.lret S.1 S.2.1 hr (fun t ht hW' => ⟨⟨r, μ, rfl, hp, (congrArg (wG D ct ek ad X μ) ht).mpr hW⟩, hS.F ht⟩) hS.2.2 hdg hlocks)
theorem eGd {post : UInt64 → Mem → Prop} {r : UInt64} {k : Nat} (S : CallFix p m c cc nL s args BW own) (hr : meth.sig.returnType = some .double) (hlocks : meth.locks = false) (hW : wG D ct ek ad X μ H) (hS : va_S (fr N0) s.heap H locs) (hcs : cells ≤ k ∧ slots ≤ 6 * k) (hdg : decode cc pc = .ok (.dreturn, 1)) (hp : post r μ) :
    W p l e R s m args below meth c H locs cells slots (MQ below (gQd D ct ek ad N0 X post) args s k (6 * k) (fr N0)) (F0 m pc ls [.double r]) :=
  W.widen hcs.1 hcs.2 (W.dret S.1 S.2.1 hr (fun t ht hW' => ⟨⟨r, μ, rfl, hp, (congrArg (wG D ct ek ad X μ) ht).mpr hW⟩, hS.F ht⟩) hS.2.2 hdg hlocks)
theorem eGf {post : UInt32 → Mem → Prop} {r : UInt32} {k : Nat} (S : CallFix p m c cc nL s args BW own) (hr : meth.sig.returnType = some .float) (hlocks : meth.locks = false) (hW : wG D ct ek ad X μ H) (hS : va_S (fr N0) s.heap H locs) (hcs : cells ≤ k ∧ slots ≤ 6 * k) (hdg : decode cc pc = .ok (.freturn, 1)) (hp : post r μ) :
    W p l e R s m args below meth c H locs cells slots (MQ below (gQf D ct ek ad N0 X post) args s k (6 * k) (fr N0)) (F0 m pc ls [.float r]) :=
  W.widen hcs.1 hcs.2 (W.fret S.1 S.2.1 hr (fun t ht hW' => ⟨⟨r, μ, rfl, hp, (congrArg (wG D ct ek ad X μ) ht).mpr hW⟩, hS.F ht⟩) hS.2.2 hdg hlocks)
/-- caught by a row of the table; the rows ahead of it name other classes -/
theorem ctch {E : String} {ce : Cell} {q : Addr} {pre suf : List ExceptionTableEntry} {x : ExceptionTableEntry} (S : CallFix p m c cc nL s args BW own) (FZ : FY s) (hT : c.exceptionTable.toList = pre ++ x :: suf) (hpass : ∀ z ∈ pre, z.catchType ≠ 0 ∧ ∃ nm : String, (Cond.classLink own z.catchType nm) ∈ BW ∧ (E, nm) ∈ ncL) (hx : covers x pc = true) (h0 : x.catchType ≠ 0)
    (hl : (Cond.classLink own x.catchType E) ∈ BW) (hc : (Cond.castable E E) ∈ lw_tbl) (hcell : H[q]? = some ce) (hv : ce.vm = .none) (hcl : s.vm.findClass E = some ce.cls)
    (kk : W p l e R s m args below meth c H locs cells slots Q (F0 m x.handlerPc ls [.ref q])) : vx_W p l e R s m args below meth c H locs cells slots Q (F0 m pc ls rest) q :=
  vx_catch (name := E) S.2.2.2.1 pre x suf hT (fun z hz => by
    obtain ⟨h1, nm, h2, h3⟩ := hpass z hz
    exact Or.inr ⟨h1, nm, S.2.2.2.2 _ h2, FZ.2 _ h3⟩) hx h0 (S.2.2.2.2 _ hl) (va_Nw.use (xt_tab rfl) (FZ.1 _ hc rfl)) hcell hv hcl kk
/-- a call of a method of the class, what it throws to be handled -/
theorem cLi {C : String} {idx kp ci N n d d0 k k0 : Nat} {y : MethodName} {bs : ByteArray} {ret : Option FieldType} {T : u_T} {fs As st : List Value} {post : Int32 → Mem → Prop} {PX : String → Mem → Prop} (S : CallFix p m c cc nL s args BW own) (G : GI D ct ek ad N0 X F s) (b : Nat) (hM : MXi l y bs n ret d k D ct ek ad N0 X F (.ref (ad b) :: As) σ post PX) (ok : COK C y bs n ret kp) (hl : Cond.methodLink own idx y ∈ BW)
    (hb : b < 276) (he : cellF ct ek ad b (σ b) = .inr (ci, fs)) (hc : vcl[ci]? = some (C, T, N)) (hP : wP D ct ek ad X σ H) (hS : va_S (fr N0) s.heap H locs) (hls : ls.size = nL) (hR : R = rmd d0 k0 (6 * k0)) (hd : d + 1 ≤ d0) (hk : As.length = kp) (hst : st = As.reverse ++ .ref (ad b) :: rest) (hrest : (rest.map fun v => v.category).sum ≤ 8) (hcs : cells + k ≤ k0 ∧ slots + 6 * k ≤ 6 * k0) (hdg : decode cc pc = .ok (.invokevirtual idx, 3))
    (kx : ∀ (E : String) (ce : Cell) (q : Addr) (τ : Mem) (H : Heap) (locs : List Loc), PX E τ → wP D ct ek ad X τ H → va_S (fr N0) s.heap H locs → H[q]? = some ce → ce.vm = .none → s.vm.findClass E = some ce.cls → vx_W p l e R s m args below meth c H locs (cells + k) (slots + 6 * k) Q (F0 m pc ls rest) q)
    (kk : ∀ (r : Int32) (τ : Mem) (H : Heap) (locs : List Loc), post r τ → wP D ct ek ad X τ H → va_S (fr N0) s.heap H locs → W p l e R s m args below meth c H locs (cells + k) (slots + 6 * k) Q (F0 m (pc + 3) ls (.int r :: rest))) : W p l e R s m args below meth c H locs cells slots Q (F0 m pc ls st) := by
  subst hR
  subst hst
  refine vx_calli (vx_runV (As := As) (rest := rest) S hM (cwV kp S.2.2.2.2 (gBV ok hl) rfl rfl rfl ok.2.2.2.2.1 ⟨hd, ?_⟩) ⟨GI.blind, va_recv G.1 hP hc ((wl_at hb).trans (congrArg (fun z => some (ad b, z)) he)), fun U hU hW => ⟨rfl, G.at hS hU hW, by rw [hU]; exact hP⟩⟩ rfl hk hls rfl (lv_room hrest) hdg ⟨hcs.1, hcs.2⟩) hS (fun q _ h => h) (fun q h => h) (fun q _ h => h) (fun E ce q9 u t H1 locs1 ht _ _ hB hz hq hS1 hce hcv hcl => ?_) (fun r u t H1 locs1 ht _ hp hB _ _ hS1 => ?_)
  · have := ok.2.2.2.2.2
    show 8 + (n + 11) + 32 * d ≤ 32 * d0
    omega
  · exact kx E ce q9 u H1 locs1 hB.1 (by rw [← ht]; exact hB.2) hS1 hce hcv hcl
  · exact kk r u H1 locs1 hp (by rw [← ht]; exact hB) hS1
theorem cLd {C : String} {idx kp ci N n d d0 k k0 : Nat} {y : MethodName} {bs : ByteArray} {T : u_T} {fs As st : List Value} {post : UInt64 → Mem → Prop} {PX : String → Mem → Prop} (S : CallFix p m c cc nL s args BW own) (G : GI D ct ek ad N0 X F s) (b : Nat) (hM : MXd l y bs n d k D ct ek ad N0 X F (.ref (ad b) :: As) σ post PX) (ok : COK C y bs n (some .double) kp) (hl : Cond.methodLink own idx y ∈ BW)
    (hb : b < 276) (he : cellF ct ek ad b (σ b) = .inr (ci, fs)) (hc : vcl[ci]? = some (C, T, N)) (hP : wP D ct ek ad X σ H) (hS : va_S (fr N0) s.heap H locs) (hls : ls.size = nL) (hR : R = rmd d0 k0 (6 * k0)) (hd : d + 1 ≤ d0) (hk : As.length = kp) (hst : st = As.reverse ++ .ref (ad b) :: rest) (hrest : (rest.map fun v => v.category).sum ≤ 8) (hcs : cells + k ≤ k0 ∧ slots + 6 * k ≤ 6 * k0) (hdg : decode cc pc = .ok (.invokevirtual idx, 3))
    (kx : ∀ (E : String) (ce : Cell) (q : Addr) (τ : Mem) (H : Heap) (locs : List Loc), PX E τ → wP D ct ek ad X τ H → va_S (fr N0) s.heap H locs → H[q]? = some ce → ce.vm = .none → s.vm.findClass E = some ce.cls → vx_W p l e R s m args below meth c H locs (cells + k) (slots + 6 * k) Q (F0 m pc ls rest) q)
    (kk : ∀ (r : UInt64) (τ : Mem) (H : Heap) (locs : List Loc), post r τ → wP D ct ek ad X τ H → va_S (fr N0) s.heap H locs → W p l e R s m args below meth c H locs (cells + k) (slots + 6 * k) Q (F0 m (pc + 3) ls (.double r :: rest))) : W p l e R s m args below meth c H locs cells slots Q (F0 m pc ls st) := by
  subst hR
  subst hst
  refine vx_calld (vx_runV (As := As) (rest := rest) S hM (cwV kp S.2.2.2.2 (gBV ok hl) rfl rfl rfl ok.2.2.2.2.1 ⟨hd, ?_⟩) ⟨GI.blind, va_recv G.1 hP hc ((wl_at hb).trans (congrArg (fun z => some (ad b, z)) he)), fun U hU hW => ⟨rfl, G.at hS hU hW, by rw [hU]; exact hP⟩⟩ rfl hk hls rfl (lv_room hrest) hdg ⟨hcs.1, hcs.2⟩) hS (fun q _ h => h) (fun q h => h) (fun q _ h => h) (fun E ce q9 u t H1 locs1 ht _ _ hB hz hq hS1 hce hcv hcl => ?_) (fun r u t H1 locs1 ht _ hp hB _ _ hS1 => ?_)
  · have := ok.2.2.2.2.2
    show 8 + (n + 11) + 32 * d ≤ 32 * d0
    omega
  · exact kx E ce q9 u H1 locs1 hB.1 (by rw [← ht]; exact hB.2) hS1 hce hcv hcl
  · exact kk r u H1 locs1 hp (by rw [← ht]; exact hB) hS1
theorem cLf {C : String} {idx kp ci N n d d0 k k0 : Nat} {y : MethodName} {bs : ByteArray} {T : u_T} {fs As st : List Value} {post : UInt32 → Mem → Prop} {PX : String → Mem → Prop} (S : CallFix p m c cc nL s args BW own) (G : GI D ct ek ad N0 X F s) (b : Nat) (hM : MXf l y bs n d k D ct ek ad N0 X F (.ref (ad b) :: As) σ post PX) (ok : COK C y bs n (some .float) kp) (hl : Cond.methodLink own idx y ∈ BW)
    (hb : b < 276) (he : cellF ct ek ad b (σ b) = .inr (ci, fs)) (hc : vcl[ci]? = some (C, T, N)) (hP : wP D ct ek ad X σ H) (hS : va_S (fr N0) s.heap H locs) (hls : ls.size = nL) (hR : R = rmd d0 k0 (6 * k0)) (hd : d + 1 ≤ d0) (hk : As.length = kp) (hst : st = As.reverse ++ .ref (ad b) :: rest) (hrest : (rest.map fun v => v.category).sum ≤ 8) (hcs : cells + k ≤ k0 ∧ slots + 6 * k ≤ 6 * k0) (hdg : decode cc pc = .ok (.invokevirtual idx, 3))
    (kx : ∀ (E : String) (ce : Cell) (q : Addr) (τ : Mem) (H : Heap) (locs : List Loc), PX E τ → wP D ct ek ad X τ H → va_S (fr N0) s.heap H locs → H[q]? = some ce → ce.vm = .none → s.vm.findClass E = some ce.cls → vx_W p l e R s m args below meth c H locs (cells + k) (slots + 6 * k) Q (F0 m pc ls rest) q)
    (kk : ∀ (r : UInt32) (τ : Mem) (H : Heap) (locs : List Loc), post r τ → wP D ct ek ad X τ H → va_S (fr N0) s.heap H locs → W p l e R s m args below meth c H locs (cells + k) (slots + 6 * k) Q (F0 m (pc + 3) ls (.float r :: rest))) : W p l e R s m args below meth c H locs cells slots Q (F0 m pc ls st) := by
  subst hR
  subst hst
  refine vx_callf (vx_runV (As := As) (rest := rest) S hM (cwV kp S.2.2.2.2 (gBV ok hl) rfl rfl rfl ok.2.2.2.2.1 ⟨hd, ?_⟩) ⟨GI.blind, va_recv G.1 hP hc ((wl_at hb).trans (congrArg (fun z => some (ad b, z)) he)), fun U hU hW => ⟨rfl, G.at hS hU hW, by rw [hU]; exact hP⟩⟩ rfl hk hls rfl (lv_room hrest) hdg ⟨hcs.1, hcs.2⟩) hS (fun q _ h => h) (fun q h => h) (fun q _ h => h) (fun E ce q9 u t H1 locs1 ht _ _ hB hz hq hS1 hce hcv hcl => ?_) (fun r u t H1 locs1 ht _ hp hB _ _ hS1 => ?_)
  · have := ok.2.2.2.2.2
    show 8 + (n + 11) + 32 * d ≤ 32 * d0
    omega
  · exact kx E ce q9 u H1 locs1 hB.1 (by rw [← ht]; exact hB.2) hS1 hce hcv hcl
  · exact kk r u H1 locs1 hp (by rw [← ht]; exact hB) hS1
/-- the words ahead of a call -/
theorem gHh {idx n k : Nat} {y : MethodName} {bs : ByteArray} {ret : Option FieldType} {hh : List (Nat × Nat × Nat × Nat)} (ok : CKH y bs n ret hh k) (hl : Cond.methodLink own idx y ∈ BW) : GoodIn BW (va_wsS own idx y (Cond.codeWith y bs n ret hh :: BW)) := by
  intro w hw
  unfold va_wsS at hw
  simp only [List.mem_append, List.mem_cons, List.not_mem_nil, or_false] at hw
  rcases hw with (rfl | rfl | rfl) | rfl | hw
  · exact gd hl hl
  · exact gd ok.1 ok.1
  · exact gd ok.2.1 ok.2.1
  · exact gd ok.2.2.1 ok.2.2.1
  · exact gd hw hw
theorem gSs {n k : Nat} {y : MethodName} {bs : ByteArray} {ret : Option FieldType} (ok : CKS y bs n ret k) : GoodIn BW (Cond.code y bs n ret :: BW) := by
  intro w hw
  rcases List.mem_cons.mp hw with rfl | hw
  · exact gd ok.2.2.1 ok.2.2.1
  · exact gd hw hw
/-- a helper is called -/
theorem gcH {idx n kp d k : Nat} {y : MethodName} {bs : ByteArray} {ret : Option FieldType} {hh : List (Nat × Nat × Nat × Nat)} {As st : List Value} {post : Int32 → Mem → Prop} (c1 : Nat) (S : CallFix p m c cc nL s args BW own) (G : GI D ct ek ad N0 X F s) (hM : MG l y (.codeWith y bs n ret hh) d k D ct ek ad N0 X F As μ (gQi D ct ek ad N0 X post)) (ok : CKH y bs n ret hh kp) (hl : Cond.methodLink own idx y ∈ BW)
    (hW : wG D ct ek ad X μ H) (hS : va_S (fr N0) s.heap H locs) (hls : ls.size = nL) (hR : d + 1 ≤ R.frames ∧ 32 * d + 32 ≤ R.locals) (hk : As.length = kp) (hst : st = As.reverse ++ rest) (hrest : (rest.map fun v => v.category).sum ≤ 8) (hc : c0 + k ≤ c1 ∧ c1 ≤ R.cells ∧ 6 * c1 ≤ R.slots) (hdg : decode cc pc = .ok (.invokestatic idx, 3))
    (kk : ∀ (r : Int32) (ν : Mem) (H : Heap) (locs : List Loc), post r ν → wG D ct ek ad X ν H → va_S (fr N0) s.heap H locs → W p l e R s m args below meth c H locs c1 (6 * c1) Q (F0 m (pc + 3) ls (.int r :: rest))) : W p l e R s m args below meth c H locs c0 (6 * c0) Q (F0 m pc ls st) := by
  subst hst
  refine va_calli (vx_runSW (As := As) (rest := rest) S hM (vx_cwSW kp S.2.2.2.2 (gHh ok hl) rfl rfl rfl ok.2.2.2.1 ⟨hR.1, ?_⟩) ⟨gPc_blind, fun U hU hW' => ⟨rfl, G.at hS hU hW', by rw [hU]; exact hW⟩⟩ rfl hk hls rfl (lv_room hrest) hdg ⟨by omega, by omega⟩) hS (fun q _ h => h) (fun q h => h) (fun r u t H1 locs1 ht _ hp hB _ _ hS1 => ?_)
  · have := ok.2.2.2.2
    show 8 + (n + 11) + 32 * d ≤ R.locals
    omega
  · exact W.widen (k := c1) (n := 6 * c1) (by omega) (by omega) (kk r u H1 locs1 hp (by rw [← ht]; exact hB) hS1)
theorem gcHd {idx n kp d k : Nat} {y : MethodName} {bs : ByteArray} {ret : Option FieldType} {hh : List (Nat × Nat × Nat × Nat)} {As st : List Value} {post : UInt64 → Mem → Prop} (c1 : Nat) (S : CallFix p m c cc nL s args BW own) (G : GI D ct ek ad N0 X F s) (hM : MG l y (.codeWith y bs n ret hh) d k D ct ek ad N0 X F As μ (gQd D ct ek ad N0 X post)) (ok : CKH y bs n ret hh kp) (hl : Cond.methodLink own idx y ∈ BW)
    (hW : wG D ct ek ad X μ H) (hS : va_S (fr N0) s.heap H locs) (hls : ls.size = nL) (hR : d + 1 ≤ R.frames ∧ 32 * d + 32 ≤ R.locals) (hk : As.length = kp) (hst : st = As.reverse ++ rest) (hrest : (rest.map fun v => v.category).sum ≤ 8) (hc : c0 + k ≤ c1 ∧ c1 ≤ R.cells ∧ 6 * c1 ≤ R.slots) (hdg : decode cc pc = .ok (.invokestatic idx, 3))
    (kk : ∀ (r : UInt64) (ν : Mem) (H : Heap) (locs : List Loc), post r ν → wG D ct ek ad X ν H → va_S (fr N0) s.heap H locs → W p l e R s m args below meth c H locs c1 (6 * c1) Q (F0 m (pc + 3) ls (.double r :: rest))) : W p l e R s m args below meth c H locs c0 (6 * c0) Q (F0 m pc ls st) := by
  subst hst
  refine va_calld (vx_runSW (As := As) (rest := rest) S hM (vx_cwSW kp S.2.2.2.2 (gHh ok hl) rfl rfl rfl ok.2.2.2.1 ⟨hR.1, ?_⟩) ⟨gPc_blind, fun U hU hW' => ⟨rfl, G.at hS hU hW', by rw [hU]; exact hW⟩⟩ rfl hk hls rfl (lv_room hrest) hdg ⟨by omega, by omega⟩) hS (fun q _ h => h) (fun q h => h) (fun r u t H1 locs1 ht _ hp hB _ _ hS1 => ?_)
  · have := ok.2.2.2.2
    show 8 + (n + 11) + 32 * d ≤ R.locals
    omega
  · exact W.widen (k := c1) (n := 6 * c1) (by omega) (by omega) (kk r u H1 locs1 hp (by rw [← ht]; exact hB) hS1)
theorem gcHf {idx n kp d k : Nat} {y : MethodName} {bs : ByteArray} {ret : Option FieldType} {hh : List (Nat × Nat × Nat × Nat)} {As st : List Value} {post : UInt32 → Mem → Prop} (c1 : Nat) (S : CallFix p m c cc nL s args BW own) (G : GI D ct ek ad N0 X F s) (hM : MG l y (.codeWith y bs n ret hh) d k D ct ek ad N0 X F As μ (gQf D ct ek ad N0 X post)) (ok : CKH y bs n ret hh kp) (hl : Cond.methodLink own idx y ∈ BW)
    (hW : wG D ct ek ad X μ H) (hS : va_S (fr N0) s.heap H locs) (hls : ls.size = nL) (hR : d + 1 ≤ R.frames ∧ 32 * d + 32 ≤ R.locals) (hk : As.length = kp) (hst : st = As.reverse ++ rest) (hrest : (rest.map fun v => v.category).sum ≤ 8) (hc : c0 + k ≤ c1 ∧ c1 ≤ R.cells ∧ 6 * c1 ≤ R.slots) (hdg : decode cc pc = .ok (.invokestatic idx, 3))
    (kk : ∀ (r : UInt32) (ν : Mem) (H : Heap) (locs : List Loc), post r ν → wG D ct ek ad X ν H → va_S (fr N0) s.heap H locs → W p l e R s m args below meth c H locs c1 (6 * c1) Q (F0 m (pc + 3) ls (.float r :: rest))) : W p l e R s m args below meth c H locs c0 (6 * c0) Q (F0 m pc ls st) := by
  subst hst
  refine va_callf (vx_runSW (As := As) (rest := rest) S hM (vx_cwSW kp S.2.2.2.2 (gHh ok hl) rfl rfl rfl ok.2.2.2.1 ⟨hR.1, ?_⟩) ⟨gPc_blind, fun U hU hW' => ⟨rfl, G.at hS hU hW', by rw [hU]; exact hW⟩⟩ rfl hk hls rfl (lv_room hrest) hdg ⟨by omega, by omega⟩) hS (fun q _ h => h) (fun q h => h) (fun r u t H1 locs1 ht _ hp hB _ _ hS1 => ?_)
  · have := ok.2.2.2.2
    show 8 + (n + 11) + 32 * d ≤ R.locals
    omega
  · exact W.widen (k := c1) (n := 6 * c1) (by omega) (by omega) (kk r u H1 locs1 hp (by rw [← ht]; exact hB) hS1)
/-- a method of the law's without handlers is called -/
theorem gcS {idx n kp d k : Nat} {y : MethodName} {bs : ByteArray} {ret : Option FieldType} {As st : List Value} {post : Int32 → Mem → Prop} (c1 : Nat) (S : CallFix p m c cc nL s args BW own) (G : GI D ct ek ad N0 X F s) (hM : MG l y (.code y bs n ret) d k D ct ek ad N0 X F As μ (gQi D ct ek ad N0 X post)) (ok : CKS y bs n ret kp) (hl : Cond.methodLink own idx y ∈ BW)
    (hW : wG D ct ek ad X μ H) (hS : va_S (fr N0) s.heap H locs) (hls : ls.size = nL) (hR : d + 1 ≤ R.frames ∧ 32 * d + 32 ≤ R.locals) (hk : As.length = kp) (hst : st = As.reverse ++ rest) (hrest : (rest.map fun v => v.category).sum ≤ 8) (hc : c0 + k ≤ c1 ∧ c1 ≤ R.cells ∧ 6 * c1 ≤ R.slots) (hdg : decode cc pc = .ok (.invokestatic idx, 3))
    (kk : ∀ (r : Int32) (ν : Mem) (H : Heap) (locs : List Loc), post r ν → wG D ct ek ad X ν H → va_S (fr N0) s.heap H locs → W p l e R s m args below meth c H locs c1 (6 * c1) Q (F0 m (pc + 3) ls (.int r :: rest))) : W p l e R s m args below meth c H locs c0 (6 * c0) Q (F0 m pc ls st) := by
  subst hst
  refine va_calli (va_runS (As := As) (rest := rest) S hM ⟨callB_of kp S.2.2.2.2 (gSs ok) rfl rfl rfl (S.2.2.2.2 _ ok.2.1) (S.2.2.2.2 _ hl) ok.2.2.2.1 ⟨hR.1, ?_⟩, S.2.2.2.2 _ ok.1⟩ ⟨gPc_blind, fun U hU hW' => ⟨rfl, G.at hS hU hW', by rw [hU]; exact hW⟩⟩ rfl hk hls rfl (lv_room hrest) hdg ⟨by omega, by omega⟩) hS (fun q _ h => h) (fun q h => h) (fun r u t H1 locs1 ht _ hp hB _ _ hS1 => ?_)
  · have := ok.2.2.2.2
    show 8 + (n + 11) + 32 * d ≤ R.locals
    omega
  · exact W.widen (k := c1) (n := 6 * c1) (by omega) (by omega) (kk r u H1 locs1 hp (by rw [← ht]; exact hB) hS1)
theorem gcSl {idx n kp d k : Nat} {y : MethodName} {bs : ByteArray} {ret : Option FieldType} {As st : List Value} {post : Int64 → Mem → Prop} (c1 : Nat) (S : CallFix p m c cc nL s args BW own) (G : GI D ct ek ad N0 X F s) (hM : MG l y (.code y bs n ret) d k D ct ek ad N0 X F As μ (gQl D ct ek ad N0 X post)) (ok : CKS y bs n ret kp) (hl : Cond.methodLink own idx y ∈ BW)
    (hW : wG D ct ek ad X μ H) (hS : va_S (fr N0) s.heap H locs) (hls : ls.size = nL) (hR : d + 1 ≤ R.frames ∧ 32 * d + 32 ≤ R.locals) (hk : As.length = kp) (hst : st = As.reverse ++ rest) (hrest : (rest.map fun v => v.category).sum ≤ 8) (hc : c0 + k ≤ c1 ∧ c1 ≤ R.cells ∧ 6 * c1 ≤ R.slots) (hdg : decode cc pc = .ok (.invokestatic idx, 3))
    (kk : ∀ (r : Int64) (ν : Mem) (H : Heap) (locs : List Loc), post r ν → wG D ct ek ad X ν H → va_S (fr N0) s.heap H locs → W p l e R s m args below meth c H locs c1 (6 * c1) Q (F0 m (pc + 3) ls (.long r :: rest))) : W p l e R s m args below meth c H locs c0 (6 * c0) Q (F0 m pc ls st) := by
  subst hst
  refine va_calll (va_runS (As := As) (rest := rest) S hM ⟨callB_of kp S.2.2.2.2 (gSs ok) rfl rfl rfl (S.2.2.2.2 _ ok.2.1) (S.2.2.2.2 _ hl) ok.2.2.2.1 ⟨hR.1, ?_⟩, S.2.2.2.2 _ ok.1⟩ ⟨gPc_blind, fun U hU hW' => ⟨rfl, G.at hS hU hW', by rw [hU]; exact hW⟩⟩ rfl hk hls rfl (lv_room hrest) hdg ⟨by omega, by omega⟩) hS (fun q _ h => h) (fun q h => h) (fun r u t H1 locs1 ht _ hp hB _ _ hS1 => ?_)
  · have := ok.2.2.2.2
    show 8 + (n + 11) + 32 * d ≤ R.locals
    omega
  · exact W.widen (k := c1) (n := 6 * c1) (by omega) (by omega) (kk r u H1 locs1 hp (by rw [← ht]; exact hB) hS1)
/-- a method of the class that throws nothing is called by the law -/
theorem gcV {C : String} {idx kp ci N n d : Nat} {y : MethodName} {bs : ByteArray} {ret : Option FieldType} {T : u_T} {fs As st : List Value} {post : Mem → Int32 → Mem → Prop} {gp : Int32 → Mem → Prop} (S : CallFix p m c cc nL s args BW own) (G : GI D ct ek ad N0 X F s) (b : Nat) (hM : ∀ σ, CRel σ μ → MI l y bs n ret d D ct ek ad N0 X F (.ref (ad b) :: As) σ (post σ)) (hG : ∀ σ r τ, CRel σ μ → post σ r τ → ∃ ν, CRel τ ν ∧ gp r ν) (ok : COK C y bs n ret kp) (hl : Cond.methodLink own idx y ∈ BW)
    (hb : b < 276) (he : ∀ r, ∃ fs, cellF ct ek ad b r = .inr (ci, fs)) (hc : vcl[ci]? = some (C, T, N)) (hW : wG D ct ek ad X μ H) (hS : va_S (fr N0) s.heap H locs) (hls : ls.size = nL) (hR : d + 1 ≤ R.frames ∧ 32 * d + 32 ≤ R.locals) (hk : As.length = kp) (hst : st = As.reverse ++ .ref (ad b) :: rest) (hrest : (rest.map fun v => v.category).sum ≤ 8) (hcs : cells ≤ R.cells ∧ slots ≤ R.slots) (hdg : decode cc pc = .ok (.invokevirtual idx, 3))
    (kk : ∀ (r : Int32) (ν : Mem) (H : Heap) (locs : List Loc), gp r ν → wG D ct ek ad X ν H → va_S (fr N0) s.heap H locs → W p l e R s m args below meth c H locs cells slots Q (F0 m (pc + 3) ls (.int r :: rest))) : W p l e R s m args below meth c H locs cells slots Q (F0 m pc ls st) := by
  subst hst
  obtain ⟨σ, hP, hC⟩ := hW
  obtain ⟨fs, he⟩ := he (σ b)
  refine va_calli (va_runV (As := As) (rest := rest) S (hM σ hC) (cwV kp S.2.2.2.2 (gBV ok hl) rfl rfl rfl ok.2.2.2.2.1 ⟨hR.1, ?_⟩) ⟨GI.blind, va_recv G.1 hP hc ((wl_at hb).trans (congrArg (fun z => some (ad b, z)) he)), fun U hU hW => ⟨rfl, G.at hS hU hW, by rw [hU]; exact hP⟩⟩ rfl hk hls rfl (lv_room hrest) hdg ⟨hcs.1, hcs.2⟩) hS (fun q _ h => h) (fun q h => h) (fun r u t H1 locs1 ht _ hp hB _ _ hS1 => ?_)
  · have := ok.2.2.2.2.2
    show 8 + (n + 11) + 32 * d ≤ R.locals
    omega
  · obtain ⟨ν, h1, h2⟩ := hG σ r u hC hp
    exact kk r ν H1 locs1 h2 ⟨u, by rw [← ht]; exact hB, h1⟩ hS1
end GWR

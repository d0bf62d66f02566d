/-! numbers with a point: no NaN comes up -/
theorem dv_n : ∀ j, j ≤ 240 → ∀ n, n ≤ 6 → ¬ n = 0 → vf_n64 (FP.ddiv (FP.i2d (nI j - nI 120)) (FP.i2d (nI n))) := by unfold vf_n64; decide +kernel
theorem fv_n : ∀ j, j ≤ 6 → ∀ n, n ≤ 6 → ¬ n = 0 → vf_n32 (FP.fdiv (FP.i2f (nI j)) (FP.i2f (nI n))) ∧ vf_n64 (FP.f2d (FP.fdiv (FP.i2f (nI j)) (FP.i2f (nI n)))) := by unfold vf_n32 vf_n64; decide +kernel
abbrev wQd (D : va_G) (ct : Nat → ClassId) (ek ad : Nat → Nat) (N0 : Nat) (X : va_W) (post : UInt64 → Mem → Prop) : Array Value → State → Outcome → State → Prop := va_Qd post (fun σ t => wP D ct ek ad X σ t.heap) (fr N0)
abbrev wQf (D : va_G) (ct : Nat → ClassId) (ek ad : Nat → Nat) (N0 : Nat) (X : va_W) (post : UInt32 → Mem → Prop) : Array Value → State → Outcome → State → Prop := va_Qf post (fun σ t => wP D ct ek ad X σ t.heap) (fr N0)
abbrev MD (l : Launch) (y : MethodName) (cc : ByteArray) (n : Nat) (d : Nat) (D : va_G) (ct : Nat → ClassId) (ek ad : Nat → Nat) (N0 : Nat) (X : va_W) (F : State → Prop) (As : List Value) (σ : Mem) (post : UInt64 → Mem → Prop) : Prop := Met l y (wy y cc n (some .double)) (rmd d 0 0) (wPc D ct ek ad N0 X F As σ) (wQd D ct ek ad N0 X post) 0 0 (fr N0)
abbrev MF (l : Launch) (y : MethodName) (cc : ByteArray) (n : Nat) (d : Nat) (D : va_G) (ct : Nat → ClassId) (ek ad : Nat → Nat) (N0 : Nat) (X : va_W) (F : State → Prop) (As : List Value) (σ : Mem) (post : UInt32 → Mem → Prop) : Prop := Met l y (wy y cc n (some .float)) (rmd d 0 0) (wPc D ct ek ad N0 X F As σ) (wQf D ct ek ad N0 X post) 0 0 (fr N0)
abbrev MXd (l : Launch) (y : MethodName) (cc : ByteArray) (n : Nat) (d k : Nat) (D : va_G) (ct : Nat → ClassId) (ek ad : Nat → Nat) (N0 : Nat) (X : va_W) (F : State → Prop) (As : List Value) (σ : Mem) (post : UInt64 → Mem → Prop) (PX : String → Mem → Prop) : Prop := MXq l y cc n (some .double) d k D ct ek ad N0 X F As σ (wQd D ct ek ad N0 X post) PX
abbrev MXf (l : Launch) (y : MethodName) (cc : ByteArray) (n : Nat) (d k : Nat) (D : va_G) (ct : Nat → ClassId) (ek ad : Nat → Nat) (N0 : Nat) (X : va_W) (F : State → Prop) (As : List Value) (σ : Mem) (post : UInt32 → Mem → Prop) (PX : String → Mem → Prop) : Prop := MXq l y cc n (some .float) d k D ct ek ad N0 X F As σ (wQf D ct ek ad N0 X post) PX
section FPR
variable {p : Program} {l : Launch} {e : Env} {R : Room} {s : State} {m : MethodId} {args : Array Value} {below : List Frame} {meth : Method} {c : Code} {H : Heap} {locs : List Loc} {cells slots : Nat} {Q : State → Prop}
variable {cc : ByteArray} {nL : Nat} {own : String} {pc : Nat} {ls : Array Slot} {rest : List Value}
variable {D : va_G} {ct : Nat → ClassId} {ek ad cs : Nat → Nat} {N0 : Nat} {X : va_W} {F : State → Prop} {σ : Mem}
theorem eD {post : UInt64 → Mem → Prop} {r : UInt64} (S : CallFix p m c cc nL s args BW own) (hr : meth.sig.returnType = some .double) (hlocks : meth.locks = false) (hP : wP D ct ek ad X σ H) (hS : va_S (fr N0) s.heap H locs) (hdg : decode cc pc = .ok (.dreturn, 1)) (hp : post r σ) :
    W p l e R s m args below meth c H locs cells slots (MQ below (wQd D ct ek ad N0 X post) args s cells slots (fr N0)) (F0 m pc ls [.double r]) :=
  W.dret S.1 S.2.1 hr (fun t ht hW => ⟨⟨r, σ, rfl, hp, (congrArg (wP D ct ek ad X σ) ht).mpr hP⟩, hS.F ht⟩) hS.2.2 hdg hlocks
theorem eF {post : UInt32 → Mem → Prop} {r : UInt32} (S : CallFix p m c cc nL s args BW own) (hr : meth.sig.returnType = some .float) (hlocks : meth.locks = false) (hP : wP D ct ek ad X σ H) (hS : va_S (fr N0) s.heap H locs) (hdg : decode cc pc = .ok (.freturn, 1)) (hp : post r σ) :
    W p l e R s m args below meth c H locs cells slots (MQ below (wQf D ct ek ad N0 X post) args s cells slots (fr N0)) (F0 m pc ls [.float r]) :=
  W.fret S.1 S.2.1 hr (fun t ht hW => ⟨⟨r, σ, rfl, hp, (congrArg (wP D ct ek ad X σ) ht).mpr hP⟩, hS.F ht⟩) hS.2.2 hdg hlocks
theorem eDx {post : UInt64 → Mem → Prop} {PX : String → Mem → Prop} {r : UInt64} {k : Nat} (S : CallFix p m c cc nL s args BW own) (hr : meth.sig.returnType = some .double) (hlocks : meth.locks = false) (hP : wP D ct ek ad X σ H) (hS : va_S (fr N0) s.heap H locs) (hcs : cells ≤ k ∧ slots ≤ 6 * k) (hdg : decode cc pc = .ok (.dreturn, 1)) (hp : post r σ) :
    W p l e R s m args below meth c H locs cells slots (vx_MQ below (wQd D ct ek ad N0 X post) (XCm D ct ek ad N0 X PX) args s k (6 * k) (fr N0)) (F0 m pc ls [.double r]) :=
  vx_ret (W.widen hcs.1 hcs.2 (eD S hr hlocks hP hS hdg hp))
theorem eFx {post : UInt32 → Mem → Prop} {PX : String → Mem → Prop} {r : UInt32} {k : Nat} (S : CallFix p m c cc nL s args BW own) (hr : meth.sig.returnType = some .float) (hlocks : meth.locks = false) (hP : wP D ct ek ad X σ H) (hS : va_S (fr N0) s.heap H locs) (hcs : cells ≤ k ∧ slots ≤ 6 * k) (hdg : decode cc pc = .ok (.freturn, 1)) (hp : post r σ) :
    W p l e R s m args below meth c H locs cells slots (vx_MQ below (wQf D ct ek ad N0 X post) (XCm D ct ek ad N0 X PX) args s k (6 * k) (fr N0)) (F0 m pc ls [.float r]) :=
  vx_ret (W.widen hcs.1 hcs.2 (eF S hr hlocks hP hS hdg hp))
end FPR
def mtT (n : Nat) : Int32 := if n = 0 then 1 else 0
def mtV (n : Nat) (t : Int32) : UInt64 := if n = 0 then FP.i2d 0 else FP.ddiv (FP.i2d t) (FP.i2d (nI n))
def psV9 (n : Nat) (t : Int32) : UInt32 := if n = 0 then FP.i2f 0 else FP.fdiv (FP.i2f t) (FP.i2f (nI n))

/-! rows over the world: a contract's start and end, fields, arrays, calls -/
def rmd (d mc ms : Nat) : Room := { frames := d, cells := mc, slots := ms, locals := 32 * d }
abbrev wy (y : MethodName) (cc : ByteArray) (n : Nat) (ret : Option FieldType) : List Cond := .code y cc n ret :: BW
abbrev fr (N0 : Nat) : Nat → Prop := fun q => N0 ≤ q
abbrev wP (D : va_G) (ct : Nat → ClassId) (ek ad : Nat → Nat) (X : va_W) (σ : Mem) (H : Heap) : Prop := va_P D vcl (wl ct ek ad σ ++ X) H
abbrev wPc (D : va_G) (ct : Nat → ClassId) (ek ad : Nat → Nat) (N0 : Nat) (X : va_W) (F : State → Prop) (As : List Value) (σ : Mem) : Array Value → State → Prop :=
  va_Pc As (fun U => GI D ct ek ad N0 X F U ∧ wP D ct ek ad X σ U.heap)
abbrev wQi (D : va_G) (ct : Nat → ClassId) (ek ad : Nat → Nat) (N0 : Nat) (X : va_W) (post : Int32 → Mem → Prop) : Array Value → State → Outcome → State → Prop :=
  va_Qi post (fun σ t => wP D ct ek ad X σ t.heap) (fr N0)
abbrev wQv (D : va_G) (ct : Nat → ClassId) (ek ad : Nat → Nat) (N0 : Nat) (X : va_W) (post : Mem → Prop) : Array Value → State → Outcome → State → Prop :=
  va_Qv post (fun σ t => wP D ct ek ad X σ t.heap) (fr N0)
/-- a contract of a method that answers an int (a boolean, a char), makes nothing and throws nothing -/
abbrev MI (l : Launch) (y : MethodName) (cc : ByteArray) (n : Nat) (ret : Option FieldType) (d : Nat) (D : va_G) (ct : Nat → ClassId) (ek ad : Nat → Nat) (N0 : Nat) (X : va_W) (F : State → Prop) (As : List Value) (σ : Mem) (post : Int32 → Mem → Prop) : Prop :=
  Met l y (wy y cc n ret) (rmd d 0 0) (wPc D ct ek ad N0 X F As σ) (wQi D ct ek ad N0 X post) 0 0 (fr N0)
abbrev MV (l : Launch) (y : MethodName) (cc : ByteArray) (n : Nat) (d : Nat) (D : va_G) (ct : Nat → ClassId) (ek ad : Nat → Nat) (N0 : Nat) (X : va_W) (F : State → Prop) (As : List Value) (σ : Mem) (post : Mem → Prop) : Prop :=
  Met l y (wy y cc n none) (rmd d 0 0) (wPc D ct ek ad N0 X F As σ) (wQv D ct ek ad N0 X post) 0 0 (fr N0)
/-- what the tables say of a method that is called -/
def COK (C : String) (y : MethodName) (cc : ByteArray) (n : Nat) (ret : Option FieldType) (k : Nat) : Prop :=
  Cond.instanceMethod y ∈ BW ∧ Cond.selects C y y ∈ BW ∧ Cond.initialized C ∈ BW ∧ Cond.code y cc n ret ∈ BW ∧ (y.cls = C ∧ y.cls ≠ "java/lang/invoke/MethodHandle" ∧ y.cls ≠ "java/lang/invoke/VarHandle" ∧ (parseMethodDescriptor y.desc).map (fun d => d.parameters.length) = some k) ∧ n ≤ 13
def COKs (C : String) (y : MethodName) (cc : ByteArray) (n : Nat) (ret : Option FieldType) (k : Nat) : Prop :=
  Cond.static y ∈ BW ∧ Cond.initialized C ∈ BW ∧ Cond.code y cc n ret ∈ BW ∧ (y.cls = C ∧ y.cls ≠ "java/lang/invoke/MethodHandle" ∧ y.cls ≠ "java/lang/invoke/VarHandle" ∧ (parseMethodDescriptor y.desc).map (fun d => d.parameters.length) = some k) ∧ n ≤ 13
theorem gd {Ts : List Cond} {w : Cond} (hin : w ∈ Ts) (h : w ∈ BW) : w ∈ Ts ∧ ((w.onTables && w.keeps) = true ∨ ∃ ty, w = .arrayClass ty) := ⟨hin, good_of_word (bwG h)⟩
theorem gBV {own C : String} {idx : Nat} {y : MethodName} {cc : ByteArray} {n k : Nat} {ret : Option FieldType} (h : COK C y cc n ret k) (hl : Cond.methodLink own idx y ∈ BW) : GoodIn BW (wsV own idx C y (wy y cc n ret)) := by
  intro w hw
  simp only [wsV, wy, List.mem_append, List.mem_cons, List.not_mem_nil, or_false] at hw
  obtain ⟨h1, h2, h3, h4, -, -⟩ := h
  rcases hw with (rfl | rfl | rfl | rfl) | rfl | hw
  · exact gd hl hl
  · exact gd h1 h1
  · exact gd h2 h2
  · exact gd h3 h3
  · exact gd h4 h4
  · exact gd hw hw
theorem gBS {own : String} {idx : Nat} {y : MethodName} {cc : ByteArray} {n k : Nat} {ret : Option FieldType} (h : COKs own y cc n ret k) (hl : Cond.methodLink own idx y ∈ BW) : GoodIn BW (wsS own idx y (wy y cc n ret)) := by
  intro w hw
  simp only [wsS, wy, List.mem_append, List.mem_cons, List.not_mem_nil, or_false] at hw
  obtain ⟨h1, h3, h4, -, -⟩ := h
  rcases hw with (rfl | rfl | rfl) | rfl | hw
  · exact gd hl hl
  · exact gd h1 h1
  · exact gd h3 h3
  · exact gd h4 h4
  · exact gd hw hw
section WR
variable {p : Program} {l : Launch} {e : Env} {R : Room} {s : State} {m : MethodId} {args : Array Value} {below : List Frame} {meth : Method} {c : Code} {H : Heap} {locs : List Loc} {cells slots : Nat} {Q : State → Prop}
variable {cc : ByteArray} {nL : Nat} {own : String} {pc : Nat} {ls : Array Slot} {rest : List Value}
variable {D : va_G} {ct : Nat → ClassId} {ek ad : Nat → Nat} {N0 : Nat} {X : va_W} {F : State → Prop} {σ : Mem}
theorem GI.dom (G : GI D ct ek ad N0 X F s) (τ : Mem) : va_D (fr N0) (wl ct ek ad τ ++ X) := va_D.mem G.2.1
theorem GI.blind {As : List Value} : FrameBlind (wPc D ct ek ad N0 X F As σ) := by
  intro a U g mk h
  obtain ⟨h1, h2, h3⟩ := h
  refine ⟨h1, GI.go h2 ?_ ?_ ?_, h3⟩
  · exact State.WarmedH.refl U
  · exact Nat.le_refl _
  · intro q _ _; rfl
theorem GI.at (G : GI D ct ek ad N0 X F s) (hS : va_S (fr N0) s.heap H locs) {U : State} (hU : U.heap = H) (hW : s.WarmedH U.vm) : GI D ct ek ad N0 X F U :=
  GI.go G hW (by rw [hU]; exact hS.1) (fun q h1 h2 => by rw [hU]; exact hS.2.1 q h1 h2)
/-- a method's start -/
theorem ms0 {y : MethodName} {ret : Option FieldType} {d mc ms : Nat} {As : List Value} {Qc : Array Value → State → Outcome → State → Prop} (hy : plainName y.cls = true) (ho : y.cls = own) (hlen : (lg_sl As).length ≤ nL)
    (body : ∀ p e s m args below meth c, CallFix p m c cc nL s args BW own → meth.sig.returnType = ret → meth.locks = false → (y.name = meth.name) → GI D ct ek ad N0 X F s → wP D ct ek ad X σ s.heap → va_S (fr N0) s.heap s.heap [] → ∀ ls, lv_has ls nL (lv_args 0 As) →
      W p l e (rmd d mc ms) s m args below meth c s.heap [] 0 0 (MQ below Qc args s mc ms (fr N0)) (F0 m 0 ls [])) :
    Met l y (wy y cc nL ret) (rmd d mc ms) (wPc D ct ek ad N0 X F As σ) Qc mc ms (fr N0) := by
  refine Met.ofW (cc := cc) (maxL := nL) (ret := ret) hy rfl ?_
  intro p e s m args below meth c s₁ B hml hv
  obtain ⟨rfl, G, hP⟩ := hv
  have hts := atoms_spec (ws := wy y cc nL ret) B.pre
  have hown : s.vm.findClass own = some m.cls := by rw [← ho]; exact findClass_of_methodNamed B.named
  have hl := lv_entry As (n := nL) hlen
  rw [lg_entry_eq]
  exact body p e s m _ below meth c ⟨B.exec, B.bytes, hml, hown, fun w hw => hts w (List.mem_cons_of_mem _ hw)⟩ B.returns B.notSynchronized (name_of_methodNamed B.named B.method).1.symm G hP va_S.rf _ hl
/-- ends -/
theorem eI {post : Int32 → Mem → Prop} {r : Int32} (S : CallFix p m c cc nL s args BW own) (hr : meth.sig.returnType = some .int) (hlocks : meth.locks = false) (hP : wP D ct ek ad X σ H) (hS : va_S (fr N0) s.heap H locs) (hdg : decode cc pc = .ok (.ireturn, 1)) (hp : post r σ) :
    W p l e R s m args below meth c H locs cells slots (MQ below (wQi D ct ek ad N0 X post) args s cells slots (fr N0)) (F0 m pc ls [.int r]) :=
  W.iret S.1 S.2.1 hr (fun t ht hW => ⟨⟨r, σ, rfl, hp, (congrArg (wP D ct ek ad X σ) ht).mpr hP⟩, hS.F ht⟩) hS.2.2 hdg hlocks
theorem eZ {post : Int32 → Mem → Prop} {r : Int32} {ty : FieldType} (S : CallFix p m c cc nL s args BW own) (hr : meth.sig.returnType = some ty) (hlocks : meth.locks = false) (hP : wP D ct ek ad X σ H) (hS : va_S (fr N0) s.heap H locs) (hn : narrow ty (.int r) = .int r) (hdg : decode cc pc = .ok (.ireturn, 1)) (hp : post r σ) :
    W p l e R s m args below meth c H locs cells slots (MQ below (wQi D ct ek ad N0 X post) args s cells slots (fr N0)) (F0 m pc ls [.int r]) :=
  W.zret S.1 S.2.1 hr hn (fun t ht hW => ⟨⟨r, σ, rfl, hp, (congrArg (wP D ct ek ad X σ) ht).mpr hP⟩, hS.F ht⟩) hS.2.2 hdg hlocks
theorem eV {post : Mem → Prop} (S : CallFix p m c cc nL s args BW own) (hr : meth.sig.returnType = none) (hlocks : meth.locks = false) (hP : wP D ct ek ad X σ H) (hS : va_S (fr N0) s.heap H locs) (hdg : decode cc pc = .ok (.return_, 1)) (hp : post σ) :
    W p l e R s m args below meth c H locs cells slots (MQ below (wQv D ct ek ad N0 X post) args s cells slots (fr N0)) (F0 m pc ls []) :=
  W.vret S.1 S.2.1 hr (fun t ht hW => ⟨⟨σ, rfl, hp, (congrArg (wP D ct ek ad X σ) ht).mpr hP⟩, hS.F ht⟩) hS.2.2 hdg hlocks
/-- fields -/
theorem gf (S : CallFix p m c cc nL s args BW own) (G : GI D ct ek ad N0 X F s) (hP : wP D ct ek ad X σ H) (b k : Nat) {ci N idx : Nat} {C : String} {T : u_T} {fs : List Value} {v : Value} (hb : b < 276) (he : cellF ct ek ad b (σ b) = .inr (ci, fs)) (hc : vcl[ci]? = some (C, T, N)) (hin : ∀ w ∈ u_ws C T N, w ∈ BW) (hk : k < N) (hl : Cond.fieldLink own idx C (T k).2.1 (T k).2.2.1 ∈ BW) (hs : (T k).1 = C) (hv : fs[k]? = some v) (hdg : decode cc pc = .ok (.getfield idx, 3))
    (kk : W p l e R s m args below meth c H locs cells slots Q (F0 m (pc + 3) ls (v :: rest))) : W p l e R s m args below meth c H locs cells slots Q (F0 m pc ls (.ref (ad b) :: rest)) :=
  va_get (D := D) S.1 S.2.1 S.2.2.2.2 hin S.2.2.2.1 G.1 hP b ((wl_at hb).trans (congrArg (fun z => some (ad b, z)) he)) hc k hk (S.2.2.2.2 _ hl) (fun x h => hs ▸ h) hv hdg kk
theorem gfN (S : CallFix p m c cc nL s args BW own) (G : GI D ct ek ad N0 X F s) (hP : wP D ct ek ad X σ H) (b k : Nat) {ci N idx : Nat} {C host : String} {T : u_T} {fs : List Value} {v : Value} (hb : b < 276) (he : cellF ct ek ad b (σ b) = .inr (ci, fs)) (hc : vcl[ci]? = some (C, T, N)) (hin : ∀ w ∈ u_ws C T N, w ∈ BW) (hk : k < N) (hl : Cond.fieldLinkNest own idx C (T k).2.1 (T k).2.2.1 host ∈ nestL) (hs : (T k).1 = C) (hv : fs[k]? = some v) (hdg : decode cc pc = .ok (.getfield idx, 3))
    (kk : W p l e R s m args below meth c H locs cells slots Q (F0 m (pc + 3) ls (v :: rest))) : W p l e R s m args below meth c H locs cells slots Q (F0 m pc ls (.ref (ad b) :: rest)) :=
  va_getN (D := D) S.1 S.2.1 S.2.2.2.2 hin S.2.2.2.1 G.1 hP b ((wl_at hb).trans (congrArg (fun z => some (ad b, z)) he)) hc k hk (va_Nw.use rfl (G.2.2.2.1 _ hl)) (fun x h => hs ▸ h) hv hdg kk
theorem pf (S : CallFix p m c cc nL s args BW own) (G : GI D ct ek ad N0 X F s) (hP : wP D ct ek ad X σ H) (hS : va_S (fr N0) s.heap H locs) (b k : Nat) {ci N idx : Nat} {C : String} {T : u_T} {fs : List Value} {x : Int32} {v : Value} (ty0 : Nat → FieldType) (hty : ∀ k, k < N → parseFieldDescriptor (T k).2.2.1 = some (ty0 k)) (hnm : ∀ a, a < N → ∀ b, b < N → a ≠ b → (T a).2.1 ≠ (T b).2.1)
    (hb : b < 276) (he : cellF ct ek ad b (σ b) = .inr (ci, fs)) (hc : vcl[ci]? = some (C, T, N)) (hin : ∀ w ∈ u_ws C T N, w ∈ BW) (hk : k < N) (hl : Cond.fieldLink own idx C (T k).2.1 (T k).2.2.1 ∈ BW) (hs : (T k).1 = C) (hfin : (T k).2.2.2 = false) (hn : narrow (ty0 k) v = v) (hfit : fits (ty0 k) v = true) (hlen : k < fs.length) (he2 : cellF ct ek ad b (upd (σ b) k x) = .inr (ci, fs.set k v)) (hdg : decode cc pc = .ok (.putfield idx, 3))
    (kk : ∀ (H : Heap) (locs : List Loc), wP D ct ek ad X (sg σ b k x) H → va_S (fr N0) s.heap H locs → W p l e R s m args below meth c H locs cells slots Q (F0 m (pc + 3) ls rest)) : W p l e R s m args below meth c H locs cells slots Q (F0 m pc ls (v :: .ref (ad b) :: rest)) :=
  va_put (D := D) S.1 S.2.1 S.2.2.2.2 hin ty0 hty hnm S.2.2.2.1 G.1 hP (G.dom σ) hS b ((wl_at hb).trans (congrArg (fun z => some (ad b, z)) he)) hc k hk (S.2.2.2.2 _ hl) (fun x h => hs ▸ h) hfin (hty k hk) hn hfit hlen hdg
    (fun H1 locs1 h1 _ h3 => kk H1 locs1 (by rw [wl_set hb he2] at h1; exact h1) h3)
theorem pfN (S : CallFix p m c cc nL s args BW own) (G : GI D ct ek ad N0 X F s) (hP : wP D ct ek ad X σ H) (hS : va_S (fr N0) s.heap H locs) (b k : Nat) {ci N idx : Nat} {C host : String} {T : u_T} {fs : List Value} {x : Int32} {v : Value} (ty0 : Nat → FieldType) (hty : ∀ k, k < N → parseFieldDescriptor (T k).2.2.1 = some (ty0 k)) (hnm : ∀ a, a < N → ∀ b, b < N → a ≠ b → (T a).2.1 ≠ (T b).2.1)
    (hb : b < 276) (he : cellF ct ek ad b (σ b) = .inr (ci, fs)) (hc : vcl[ci]? = some (C, T, N)) (hin : ∀ w ∈ u_ws C T N, w ∈ BW) (hk : k < N) (hl : Cond.fieldLinkNest own idx C (T k).2.1 (T k).2.2.1 host ∈ nestL) (hs : (T k).1 = C) (hfin : (T k).2.2.2 = false) (hn : narrow (ty0 k) v = v) (hfit : fits (ty0 k) v = true) (hlen : k < fs.length) (he2 : cellF ct ek ad b (upd (σ b) k x) = .inr (ci, fs.set k v)) (hdg : decode cc pc = .ok (.putfield idx, 3))
    (kk : ∀ (H : Heap) (locs : List Loc), wP D ct ek ad X (sg σ b k x) H → va_S (fr N0) s.heap H locs → W p l e R s m args below meth c H locs cells slots Q (F0 m (pc + 3) ls rest)) : W p l e R s m args below meth c H locs cells slots Q (F0 m pc ls (v :: .ref (ad b) :: rest)) :=
  va_putN (D := D) S.1 S.2.1 S.2.2.2.2 hin ty0 hty hnm S.2.2.2.1 G.1 hP (G.dom σ) hS b ((wl_at hb).trans (congrArg (fun z => some (ad b, z)) he)) hc k hk (va_Nw.use rfl (G.2.2.2.1 _ hl)) (fun x h => hs ▸ h) hfin (hty k hk) hn hfit hlen hdg
    (fun H1 locs1 h1 _ h3 => kk H1 locs1 (by rw [wl_set hb he2] at h1; exact h1) h3)
/-- arrays: the index is a number j -/
theorem ix {i : Int32} {j n : Nat} (hi : i = nI j) (hj : j < n) (hn : n ≤ 1000) : vp_in i n ∧ i.toNatClampNeg = j := by
  subst hi
  exact ⟨vp_in_nI hj (by omega), nI_clamp (by omega)⟩
theorem ald (S : CallFix p m c cc nL s args BW own) (G : GI D ct ek ad N0 X F s) (hP : wP D ct ek ad X σ H) (b j : Nat) {n : Nat} {i : Int32} (hb : b < 276) (he : cellF ct ek ad b (σ b) = .inl (ct 1, n, .inl (σ b))) (hi : i = nI j) (hj : j < n) (hn : n ≤ 1000) (hdg : decode cc pc = .ok (.iaload, 1))
    (kk : W p l e R s m args below meth c H locs cells slots Q (F0 m (pc + 1) ls (.int (σ b j) :: rest))) : W p l e R s m args below meth c H locs cells slots Q (F0 m pc ls (.int i :: .ref (ad b) :: rest)) := by
  obtain ⟨h1, h2⟩ := ix hi hj hn
  refine va_iald (D := D) S.1 S.2.1 G.1 hP b 1 ((wl_at hb).trans (congrArg (fun z => some (ad b, z)) he)) rfl h1 hdg ?_
  rw [h2]; exact kk
theorem zld (S : CallFix p m c cc nL s args BW own) (G : GI D ct ek ad N0 X F s) (hP : wP D ct ek ad X σ H) (b j : Nat) {n : Nat} {i : Int32} (hb : b < 276) (he : cellF ct ek ad b (σ b) = .inl (ct 2, n, .inl (σ b))) (hi : i = nI j) (hj : j < n) (hn : n ≤ 1000) (hdg : decode cc pc = .ok (.baload, 1))
    (kk : W p l e R s m args below meth c H locs cells slots Q (F0 m (pc + 1) ls (.int (σ b j) :: rest))) : W p l e R s m args below meth c H locs cells slots Q (F0 m pc ls (.int i :: .ref (ad b) :: rest)) := by
  obtain ⟨h1, h2⟩ := ix hi hj hn
  refine va_zald (D := D) S.1 S.2.1 G.1 hP b 2 ((wl_at hb).trans (congrArg (fun z => some (ad b, z)) he)) rfl h1 hdg ?_
  rw [h2]; exact kk
theorem cld (S : CallFix p m c cc nL s args BW own) (G : GI D ct ek ad N0 X F s) (hP : wP D ct ek ad X σ H) (b j : Nat) {n : Nat} {i : Int32} (hb : b < 276) (he : cellF ct ek ad b (σ b) = .inl (ct 0, n, .inl (σ b))) (hi : i = nI j) (hj : j < n) (hn : n ≤ 1000) (hdg : decode cc pc = .ok (.caload, 1))
    (kk : W p l e R s m args below meth c H locs cells slots Q (F0 m (pc + 1) ls (.int (σ b j) :: rest))) : W p l e R s m args below meth c H locs cells slots Q (F0 m pc ls (.int i :: .ref (ad b) :: rest)) := by
  obtain ⟨h1, h2⟩ := ix hi hj hn
  refine va_cald (D := D) S.1 S.2.1 G.1 hP b 0 ((wl_at hb).trans (congrArg (fun z => some (ad b, z)) he)) rfl h1 hdg ?_
  rw [h2]; exact kk
theorem rld (S : CallFix p m c cc nL s args BW own) (G : GI D ct ek ad N0 X F s) (hP : wP D ct ek ad X σ H) (b j : Nat) {n t0 q : Nat} {C : String} {cA : ClassId} {f : Nat → Option Nat} {i : Int32} (hb : b < 276) (he : cellF ct ek ad b (σ b) = .inl (cA, n, .inr (.inr (.inr (.inr f))))) (ht : (tysF ct)[t0]? = some (cA, .object C)) (hi : i = nI j) (hj : j < n) (hn : n ≤ 1000) (hq : f j = some q) (hdg : decode cc pc = .ok (.aaload, 1))
    (kk : W p l e R s m args below meth c H locs cells slots Q (F0 m (pc + 1) ls (.ref q :: rest))) : W p l e R s m args below meth c H locs cells slots Q (F0 m pc ls (.int i :: .ref (ad b) :: rest)) := by
  obtain ⟨h1, h2⟩ := ix hi hj hn
  refine va_aldq (D := D) S.1 S.2.1 G.1 hP b t0 ((wl_at hb).trans (congrArg (fun z => some (ad b, z)) he)) ht h1 hdg ?_
  rw [h2, hq]; exact kk
theorem ast (S : CallFix p m c cc nL s args BW own) (G : GI D ct ek ad N0 X F s) (hP : wP D ct ek ad X σ H) (hS : va_S (fr N0) s.heap H locs) (b j : Nat) {n : Nat} {i x : Int32} (hb : b < 276) (he : ∀ r, cellF ct ek ad b r = .inl (ct 1, n, .inl r)) (hi : i = nI j) (hj : j < n) (hn : n ≤ 1000) (hdg : decode cc pc = .ok (.iastore, 1))
    (kk : ∀ (H : Heap) (locs : List Loc), wP D ct ek ad X (sg σ b j x) H → va_S (fr N0) s.heap H locs → W p l e R s m args below meth c H locs cells slots Q (F0 m (pc + 1) ls rest)) : W p l e R s m args below meth c H locs cells slots Q (F0 m pc ls (.int x :: .int i :: .ref (ad b) :: rest)) := by
  obtain ⟨h1, h2⟩ := ix hi hj hn
  refine va_iast (D := D) S.1 S.2.1 G.1 hP (G.dom σ) hS b 1 ((wl_at hb).trans (congrArg (fun z => some (ad b, z)) (he _))) rfl h1 hdg ?_
  rw [h2]
  intro H1 locs1 h3 _ h5
  rw [wl_set hb (he _)] at h3
  exact kk H1 locs1 h3 h5
theorem zst (S : CallFix p m c cc nL s args BW own) (G : GI D ct ek ad N0 X F s) (hP : wP D ct ek ad X σ H) (hS : va_S (fr N0) s.heap H locs) (b j : Nat) {n : Nat} {i x : Int32} (hb : b < 276) (he : ∀ r, cellF ct ek ad b r = .inl (ct 2, n, .inl r)) (hi : i = nI j) (hj : j < n) (hn : n ≤ 1000) (hx : vp_nar .boolean x = x) (hdg : decode cc pc = .ok (.bastore, 1))
    (kk : ∀ (H : Heap) (locs : List Loc), wP D ct ek ad X (sg σ b j x) H → va_S (fr N0) s.heap H locs → W p l e R s m args below meth c H locs cells slots Q (F0 m (pc + 1) ls rest)) : W p l e R s m args below meth c H locs cells slots Q (F0 m pc ls (.int x :: .int i :: .ref (ad b) :: rest)) := by
  obtain ⟨h1, h2⟩ := ix hi hj hn
  refine va_zast (D := D) S.1 S.2.1 G.1 hP (G.dom σ) hS b 2 ((wl_at hb).trans (congrArg (fun z => some (ad b, z)) (he _))) rfl h1 hdg ?_
  rw [h2, hx]
  intro H1 locs1 h3 _ h5
  rw [wl_set hb (he _)] at h3
  exact kk H1 locs1 h3 h5
theorem cst (S : CallFix p m c cc nL s args BW own) (G : GI D ct ek ad N0 X F s) (hP : wP D ct ek ad X σ H) (hS : va_S (fr N0) s.heap H locs) (b j : Nat) {n : Nat} {i x : Int32} (hb : b < 276) (he : ∀ r, cellF ct ek ad b r = .inl (ct 0, n, .inl r)) (hi : i = nI j) (hj : j < n) (hn : n ≤ 1000) (hx : vp_nar .char x = x) (hdg : decode cc pc = .ok (.castore, 1))
    (kk : ∀ (H : Heap) (locs : List Loc), wP D ct ek ad X (sg σ b j x) H → va_S (fr N0) s.heap H locs → W p l e R s m args below meth c H locs cells slots Q (F0 m (pc + 1) ls rest)) : W p l e R s m args below meth c H locs cells slots Q (F0 m pc ls (.int x :: .int i :: .ref (ad b) :: rest)) := by
  obtain ⟨h1, h2⟩ := ix hi hj hn
  refine va_cast (D := D) S.1 S.2.1 G.1 hP (G.dom σ) hS b 0 ((wl_at hb).trans (congrArg (fun z => some (ad b, z)) (he _))) rfl h1 hdg ?_
  rw [h2, hx]
  intro H1 locs1 h3 _ h5
  rw [wl_set hb (he _)] at h3
  exact kk H1 locs1 h3 h5
/-- calls -/
theorem cVi {C : String} {idx k ci N n d d0 mc ms : Nat} {y : MethodName} {bs : ByteArray} {ret : Option FieldType} {T : u_T} {fs As st : List Value} {post : Int32 → Mem → Prop} (S : CallFix p m c cc nL s args BW own) (G : GI D ct ek ad N0 X F s) (b : Nat) (hM : MI l y bs n ret d D ct ek ad N0 X F (.ref (ad b) :: As) σ post) (ok : COK C y bs n ret k) (hl : Cond.methodLink own idx y ∈ BW)
    (hb : b < 276) (he : cellF ct ek ad b (σ b) = .inr (ci, fs)) (hc : vcl[ci]? = some (C, T, N)) (hP : wP D ct ek ad X σ H) (hS : va_S (fr N0) s.heap H locs) (hls : ls.size = nL) (hR : R = rmd d0 mc ms) (hd : d + 1 ≤ d0) (hk : As.length = k) (hst : st = As.reverse ++ .ref (ad b) :: rest) (hrest : (rest.map fun v => v.category).sum ≤ 8) (hcs : cells ≤ mc ∧ slots ≤ ms) (hdg : decode cc pc = .ok (.invokevirtual idx, 3))
    (kk : ∀ (r : Int32) (τ : Mem) (H : Heap) (locs : List Loc), post r τ → wP D ct ek ad X τ H → va_S (fr N0) s.heap H locs → W p l e R s m args below meth c H locs cells slots Q (F0 m (pc + 3) ls (.int r :: rest))) : W p l e R s m args below meth c H locs cells slots Q (F0 m pc ls st) := by
  subst hR
  subst hst
  refine va_calli (va_runV (As := As) (rest := rest) S hM (cwV k S.2.2.2.2 (gBV ok hl) rfl rfl rfl ok.2.2.2.2.1 ⟨hd, ?_⟩) ⟨GI.blind, va_recv G.1 hP hc ((wl_at hb).trans (congrArg (fun z => some (ad b, z)) he)), fun U hU hW => ⟨rfl, G.at hS hU hW, by rw [hU]; exact hP⟩⟩ rfl hk hls rfl (lv_room hrest) hdg ⟨hcs.1, hcs.2⟩) hS (fun q _ h => h) (fun q h => h) (fun r u t H1 locs1 ht _ hp hB _ _ hS1 => ?_)
  · have := ok.2.2.2.2.2
    show 8 + (n + 11) + 32 * d ≤ 32 * d0
    omega
  · exact kk r u H1 locs1 hp (by rw [← ht]; exact hB) hS1
theorem cVv {C : String} {idx k ci N n d d0 mc ms : Nat} {y : MethodName} {bs : ByteArray} {T : u_T} {fs As st : List Value} {post : Mem → Prop} (S : CallFix p m c cc nL s args BW own) (G : GI D ct ek ad N0 X F s) (b : Nat) (hM : MV l y bs n d D ct ek ad N0 X F (.ref (ad b) :: As) σ post) (ok : COK C y bs n none k) (hl : Cond.methodLink own idx y ∈ BW)
    (hb : b < 276) (he : cellF ct ek ad b (σ b) = .inr (ci, fs)) (hc : vcl[ci]? = some (C, T, N)) (hP : wP D ct ek ad X σ H) (hS : va_S (fr N0) s.heap H locs) (hls : ls.size = nL) (hR : R = rmd d0 mc ms) (hd : d + 1 ≤ d0) (hk : As.length = k) (hst : st = As.reverse ++ .ref (ad b) :: rest) (hrest : (rest.map fun v => v.category).sum ≤ 8) (hcs : cells ≤ mc ∧ slots ≤ ms) (hdg : decode cc pc = .ok (.invokevirtual idx, 3))
    (kk : ∀ (τ : Mem) (H : Heap) (locs : List Loc), post τ → wP D ct ek ad X τ H → va_S (fr N0) s.heap H locs → W p l e R s m args below meth c H locs cells slots Q (F0 m (pc + 3) ls rest)) : W p l e R s m args below meth c H locs cells slots Q (F0 m pc ls st) := by
  subst hR
  subst hst
  refine va_callv (va_runV (As := As) (rest := rest) S hM (cwV k S.2.2.2.2 (gBV ok hl) rfl rfl rfl ok.2.2.2.2.1 ⟨hd, ?_⟩) ⟨GI.blind, va_recv G.1 hP hc ((wl_at hb).trans (congrArg (fun z => some (ad b, z)) he)), fun U hU hW => ⟨rfl, G.at hS hU hW, by rw [hU]; exact hP⟩⟩ rfl hk hls rfl (lv_room hrest) hdg ⟨hcs.1, hcs.2⟩) hS (fun q _ h => h) (fun q h => h) (fun u t H1 locs1 ht _ hp hB _ _ hS1 => ?_)
  · have := ok.2.2.2.2.2
    show 8 + (n + 11) + 32 * d ≤ 32 * d0
    omega
  · exact kk u H1 locs1 hp (by rw [← ht]; exact hB) hS1
theorem cSi {idx k n d d0 mc ms : Nat} {y : MethodName} {bs : ByteArray} {ret : Option FieldType} {As st : List Value} {post : Int32 → Mem → Prop} (S : CallFix p m c cc nL s args BW own) (G : GI D ct ek ad N0 X F s) (hM : MI l y bs n ret d D ct ek ad N0 X F As σ post) (ok : COKs y.cls y bs n ret k) (hl : Cond.methodLink own idx y ∈ BW)
    (hP : wP D ct ek ad X σ H) (hS : va_S (fr N0) s.heap H locs) (hls : ls.size = nL) (hR : R = rmd d0 mc ms) (hd : d + 1 ≤ d0) (hk : As.length = k) (hst : st = As.reverse ++ rest) (hrest : (rest.map fun v => v.category).sum ≤ 8) (hcs : cells ≤ mc ∧ slots ≤ ms) (hdg : decode cc pc = .ok (.invokestatic idx, 3))
    (kk : ∀ (r : Int32) (τ : Mem) (H : Heap) (locs : List Loc), post r τ → wP D ct ek ad X τ H → va_S (fr N0) s.heap H locs → W p l e R s m args below meth c H locs cells slots Q (F0 m (pc + 3) ls (.int r :: rest))) : W p l e R s m args below meth c H locs cells slots Q (F0 m pc ls st) := by
  subst hR
  subst hst
  have hG : GoodIn BW (wy y bs n ret) := by
    intro w hw
    rcases List.mem_cons.mp hw with rfl | hw
    · exact gd ok.2.2.1 ok.2.2.1
    · exact gd hw hw
  refine va_calli (va_runS (As := As) (rest := rest) S hM ⟨callB_of k S.2.2.2.2 hG rfl rfl rfl (S.2.2.2.2 _ ok.2.1) (S.2.2.2.2 _ hl) ok.2.2.2.1.2 ⟨hd, ?_⟩, S.2.2.2.2 _ ok.1⟩ ⟨GI.blind, fun U hU hW => ⟨rfl, G.at hS hU hW, by rw [hU]; exact hP⟩⟩ rfl hk hls rfl (lv_room hrest) hdg ⟨hcs.1, hcs.2⟩) hS (fun q _ h => h) (fun q h => h) (fun r u t H1 locs1 ht _ hp hB _ _ hS1 => ?_)
  · have := ok.2.2.2.2
    show 8 + (n + 11) + 32 * d ≤ 32 * d0
    omega
  · exact kk r u H1 locs1 hp (by rw [← ht]; exact hB) hS1
end WR

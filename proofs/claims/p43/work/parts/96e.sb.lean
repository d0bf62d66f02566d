/-! rows over any list of cells: texts put together by the JDK's builder -/
theorem inJ4 : ∀ w ∈ u_ws RJ4 TJ4 4, w ∈ BW := by decide +kernel
theorem inJ0 : ∀ w ∈ u_ws RJ0 TJ0 4, w ∈ BW := by decide +kernel
theorem su_RJ4 : Cond.superclass RJ4 RJ5 ∈ BW := bw 1285 (by decide +kernel) (by decide +kernel)
theorem sa_lat : Cond.sameMethod RJ5 RJ5 "isLatin1" "()Z" ∈ BW := bw 1329 (by decide +kernel) (by decide +kernel)
theorem sa_len : Cond.sameMethod RJ5 RJ5 "length" "()I" ∈ BW := bw 1427 (by decide +kernel) (by decide +kernel)
theorem sa_apS : Cond.sameMethod RJ5 RJ5 "append" "(Ljava/lang/String;)Ljava/lang/AbstractStringBuilder;" ∈ BW := bw 1516 (by decide +kernel) (by decide +kernel)
theorem sa_apI : Cond.sameMethod RJ5 RJ5 "append" "(I)Ljava/lang/AbstractStringBuilder;" ∈ BW := bw 1523 (by decide +kernel) (by decide +kernel)
theorem sl_lat : Cond.selects RJ4 yJ5_isLatin1_aae02 yJ5_isLatin1_aae02 ∈ BW := bw 1330 (by decide +kernel) (by decide +kernel)
theorem sl_val : Cond.selects RJ4 yJ5_getValue_6d5f1 yJ5_getValue_6d5f1 ∈ BW := bw 1423 (by decide +kernel) (by decide +kernel)
theorem sl_len : Cond.selects RJ4 yJ5_length_8abf5 yJ4_length_8abf5 ∈ BW := bw 1428 (by decide +kernel) (by decide +kernel)
/-- a private method of a class above is what is run -/
theorem sel_pr {C : String} {y z : MethodName} {s : State} {args : Array Value} (hz : (Cond.selects C z z).before args s = true) (hyz : y.cls = z.cls) (hy : y.cls ≠ "java/lang/invoke/MethodHandle" ∧ y.cls ≠ "java/lang/invoke/VarHandle") (hpriv : (Cond.privateMethod y).before args s = true) (hinst : (Cond.instanceMethod y).before args s = true) : (Cond.selects C y y).before args s = true := by
  obtain ⟨c, r, m2, hc, -, hn2, -, kP, hkP, hkPi⟩ := Cond.selects_spec hz
  obtain ⟨mk, methM, hnamed, hmethM, -, -⟩ := Cond.instanceMethod_spec hinst
  have hfound : s.methodFound? y.cls y.name y.desc = some mk := State.methodFound?_of_named hnamed hy
  have hcls : mk.cls = m2.cls := Option.some.inj ((findClass_of_methodNamed hnamed).symm.trans (by rw [hyz]; exact findClass_of_methodNamed hn2))
  have hsel : selectMethod {} s.vm c mk = .method mk := selectMethod_private hmethM (Cond.privateMethod_at hpriv mk methM hnamed hmethM)
  simp only [Cond.before, Cond.holds, Cond.value, hc, hfound, hnamed, hsel, hcls, hkP]
  simp; exact hkPi
/-- what more the tables say, and the digits -/
def selL : List Cond := [.selects RJ4 yJ5_ensureCapacityInternal_d00df yJ5_ensureCapacityInternal_d00df, .selects RJ4 yJ5_putStringAt_47b60 yJ5_putStringAt_47b60, .selects RJ4 yJ5_inflateIfNeededFor_a7421 yJ5_inflateIfNeededFor_a7421]
def dgO (j : Nat) : Int32 := nI (48 + j % 10)
def SBF (dg N0 : Nat) (U : State) : Prop := (∀ w ∈ selL, va_Nw w U) ∧ va_Z RJ6 "DigitOnes" "[B" (.ref dg) (fr N0) U U.heap ∧ va_T .byte dg 100 (fun j => .int (dgO j)) (fr N0) U U.heap
theorem selL_w {w : Cond} (hw : w ∈ selL) : (w.onTables && w.keeps) = true ∧ w.onTables = true := by
  simp only [selL, List.mem_cons, List.not_mem_nil, or_false] at hw
  rcases hw with rfl | rfl | rfl <;> exact ⟨rfl, rfl⟩
theorem SBF.stab (dg N0 : Nat) : Stab N0 (SBF dg N0) := by
  intro U V hW hz hq h
  have hv : U.vm.Alike V.vm := hW.alike
  have hk : ∀ a : Nat, a < U.heap.size → ¬ fr N0 a → V.heap[a]? = U.heap[a]? := hq
  exact ⟨fun w hw => word_at hW (Or.inl (selL_w hw).1) (h.1 w hw), va_Z.moved hv (h.2.1.kept hk), va_T.moved hv (h.2.2.kept hk)⟩
theorem SBF.se {dg N0 : Nat} {U : State} (h : SBF dg N0 U) {w : Cond} (hw : w ∈ selL) {A : Array Value} : w.before A U = true := va_any (selL_w hw).2 (h.1 w hw)
abbrev bPc (D : va_G) (ct : Nat → ClassId) (N0 : Nat) (F : State → Prop) (As : List Value) (ws : va_W) : Array Value → State → Prop :=
  va_Pc As (fun U => GX D ct N0 F U ∧ va_P D vcl ws U.heap ∧ va_D (fr N0) ws)
def bQ (D : va_G) (N0 : Nat) (ov : (Nat → Nat) → Option Value) (L : (Nat → Nat) → va_W) : Array Value → State → Outcome → State → Prop :=
  fun _ st oc t => (∃ f : Nat → Nat, oc = .returned (ov f) ∧ va_P D vcl (L f) t.heap ∧ va_D (fr N0) (L f)) ∧ va_F (fr N0) st t
/-- a contract over cells: from ws to L f, the answer ov f -/
abbrev MB (l : Launch) (y : MethodName) (cc : ByteArray) (n : Nat) (ret : Option FieldType) (d k : Nat) (D : va_G) (ct : Nat → ClassId) (N0 : Nat) (F : State → Prop) (As : List Value) (ws : va_W) (ov : (Nat → Nat) → Option Value) (L : (Nat → Nat) → va_W) : Prop :=
  Met l y (wy y cc n ret) (rmd d k (6 * k)) (bPc D ct N0 F As ws) (bQ D N0 ov L) k (6 * k) (fr N0)
def COB (y : MethodName) (cc : ByteArray) (n : Nat) (ret : Option FieldType) (k : Nat) : Prop :=
  Cond.initialized y.cls ∈ BW ∧ Cond.code y cc n ret ∈ BW ∧ (y.cls ≠ "java/lang/invoke/MethodHandle" ∧ y.cls ≠ "java/lang/invoke/VarHandle" ∧ (parseMethodDescriptor y.desc).map (fun d => d.parameters.length) = some k) ∧ n ≤ 13
section BRR
variable {p : Program} {l : Launch} {e : Env} {R : Room} {s : State} {m : MethodId} {args : Array Value} {below : List Frame} {meth : Method} {c : Code} {H : Heap} {locs : List Loc} {cells slots : Nat} {Q : State → Prop}
variable {cc : ByteArray} {nL : Nat} {own : String} {pc : Nat} {ls : Array Slot} {rest st : List Value}
variable {D : va_G} {ct : Nat → ClassId} {N0 : Nat} {F : State → Prop} {ws B lw : va_W}
theorem bBlind {As : List Value} : FrameBlind (bPc D ct N0 F As ws) := by
  intro a U g mk h
  obtain ⟨h1, h2, h3⟩ := h
  exact ⟨h1, GX.go h2 (State.WarmedH.refl U) (Nat.le_refl _) (fun _ _ _ => rfl), h3⟩
theorem msB {y : MethodName} {ret : Option FieldType} {d mc ms : Nat} {As : List Value} {Qc : Array Value → State → Outcome → State → Prop} (hy : plainFor y = true) (ho : y.cls = own) (hlen : (lg_sl As).length ≤ nL)
    (body : ∀ p e s m args below meth c, CallFix p m c cc nL s args BW own → meth.sig.returnType = ret → meth.locks = false → meth.name = y.name → GX D ct N0 F s → va_P D vcl ws s.heap → va_D (fr N0) ws → va_S (fr N0) s.heap s.heap [] → ∀ ls, lv_has ls nL (lv_args 0 As) →
      W p l e (rmd d mc ms) s m args below meth c s.heap [] 0 0 (MQ below Qc args s mc ms (fr N0)) (F0 m 0 ls [])) :
    Met l y (wy y cc nL ret) (rmd d mc ms) (bPc D ct N0 F As ws) Qc mc ms (fr N0) := by
  refine MetFree.of_bodySF (code := cc) (maxLocals := nL) (ret := ret) hy (fun args s m h hn => ?_) ?_
  · obtain ⟨meth, c, h1, h2, h3, h4, h5, h6, -⟩ := Cond.code_spec hn (atoms_spec (ws := wy y cc nL ret) h _ List.mem_cons_self)
    exact ⟨meth, c, h1, h2, h3, h4, h5, h6⟩
  · intro p e s m args below meth c s₁ B9 hml hv _
    obtain ⟨rfl, X0, hP, hD⟩ := hv
    have hh0 : s₁.heap = s.heap := by rw [B9.state]; rfl
    have hts := atoms_spec (ws := wy y cc nL ret) B9.pre
    have hown : s.vm.findClass own = some m.cls := by rw [← ho]; exact findClass_of_methodNamed B9.named
    have hl := lv_entry As (n := nL) hlen
    have key := body p e s m _ below meth c ⟨B9.exec, B9.bytes, hml, hown, fun w hw => hts w (List.mem_cons_of_mem _ hw)⟩ B9.returns B9.notSynchronized (name_of_methodNamed B9.named B9.method).1 X0 hP hD va_S.rf _ hl
    obtain ⟨t, a1, o, b1, b2, b3⟩ := key s₁ hh0 (Stand.of_body B9)
    rw [← lg_entry_eq] at a1
    exact ⟨t, o, a1, b1, b2, b3⟩
theorem eBv {L : (Nat → Nat) → va_W} {mc ms : Nat} (f : Nat → Nat) (S : CallFix p m c cc nL s args BW own) (hr : meth.sig.returnType = none) (hlocks : meth.locks = false) (hP : va_P D vcl (L f) H) (hD : va_D (fr N0) (L f)) (hS : va_S (fr N0) s.heap H locs) (hcs : cells ≤ mc ∧ slots ≤ ms) (hdg : decode cc pc = .ok (.return_, 1)) :
    W p l e R s m args below meth c H locs cells slots (MQ below (bQ D N0 (fun _ => none) L) args s mc ms (fr N0)) (F0 m pc ls []) :=
  W.widen hcs.1 hcs.2 (W.vret S.1 S.2.1 hr (fun t ht hW => ⟨⟨f, rfl, (congrArg (va_P D vcl (L f)) ht).mpr hP, hD⟩, hS.F ht⟩) hS.2.2 hdg hlocks)
theorem eBi {L : (Nat → Nat) → va_W} {mc ms : Nat} {r : Int32} (f : Nat → Nat) (S : CallFix p m c cc nL s args BW own) (hr : meth.sig.returnType = some .int) (hlocks : meth.locks = false) (hP : va_P D vcl (L f) H) (hD : va_D (fr N0) (L f)) (hS : va_S (fr N0) s.heap H locs) (hcs : cells ≤ mc ∧ slots ≤ ms) (hdg : decode cc pc = .ok (.ireturn, 1)) :
    W p l e R s m args below meth c H locs cells slots (MQ below (bQ D N0 (fun _ => some (.int r)) L) args s mc ms (fr N0)) (F0 m pc ls [.int r]) :=
  W.widen hcs.1 hcs.2 (W.iret S.1 S.2.1 hr (fun t ht hW => ⟨⟨f, rfl, (congrArg (va_P D vcl (L f)) ht).mpr hP, hD⟩, hS.F ht⟩) hS.2.2 hdg hlocks)
theorem eBz {L : (Nat → Nat) → va_W} {mc ms : Nat} {r : Int32} {ty : FieldType} (f : Nat → Nat) (S : CallFix p m c cc nL s args BW own) (hr : meth.sig.returnType = some ty) (hlocks : meth.locks = false) (hP : va_P D vcl (L f) H) (hD : va_D (fr N0) (L f)) (hS : va_S (fr N0) s.heap H locs) (hcs : cells ≤ mc ∧ slots ≤ ms) (hn : narrow ty (.int r) = .int r) (hdg : decode cc pc = .ok (.ireturn, 1)) :
    W p l e R s m args below meth c H locs cells slots (MQ below (bQ D N0 (fun _ => some (.int r)) L) args s mc ms (fr N0)) (F0 m pc ls [.int r]) :=
  W.widen hcs.1 hcs.2 (W.zret S.1 S.2.1 hr hn (fun t ht hW => ⟨⟨f, rfl, (congrArg (va_P D vcl (L f)) ht).mpr hP, hD⟩, hS.F ht⟩) hS.2.2 hdg hlocks)
theorem eBa {L : (Nat → Nat) → va_W} {mc ms : Nat} {a : (Nat → Nat) → Nat} {rt : FieldType} (f : Nat → Nat) (S : CallFix p m c cc nL s args BW own) (hr : meth.sig.returnType = some rt) (hrt : (∃ n, rt = .object n) ∨ ∃ t, rt = .array t) (hlocks : meth.locks = false) (hP : va_P D vcl (L f) H) (hD : va_D (fr N0) (L f)) (hS : va_S (fr N0) s.heap H locs) (hcs : cells ≤ mc ∧ slots ≤ ms) (hdg : decode cc pc = .ok (.areturn, 1)) :
    W p l e R s m args below meth c H locs cells slots (MQ below (bQ D N0 (fun f => some (.ref (a f))) L) args s mc ms (fr N0)) (F0 m pc ls [.ref (a f)]) :=
  W.widen hcs.1 hcs.2 (W.aret S.1 S.2.1 hr hrt (Or.inr ⟨_, rfl⟩) (fun t ht hW => ⟨⟨f, rfl, (congrArg (va_P D vcl (L f)) ht).mpr hP, hD⟩, hS.F ht⟩) hS.2.2 hdg hlocks)
/-- behind a call -/
theorem bcall {ov : (Nat → Nat) → Option Value} {L : (Nat → Nat) → va_W} {mc ms : Nat} {a : Array Value} {st0 : List Value} (hr : va_Run p l e R s m args below meth c H locs cells slots mc ms (F0 m pc ls st0) rest (bQ D N0 ov L a) (fr N0)) (hS : va_S (fr N0) s.heap H locs)
    (kk : ∀ (f : Nat → Nat) (H1 : Heap) (locs1 : List Loc), va_P D vcl (L f) H1 → va_D (fr N0) (L f) → va_S (fr N0) s.heap H1 locs1 → W p l e R s m args below meth c H1 locs1 (cells + mc) (slots + ms) Q (F0 m (pc + 3) ls ((ov f).toList ++ rest))) : W p l e R s m args below meth c H locs cells slots Q (F0 m pc ls st0) := by
  intro T hT X
  obtain ⟨v, st₀, t, T', L9, h0, X', hL, e1, e2, ⟨⟨f, hv, hp, hb⟩, hz, hk⟩, st⟩ := hr T hT X
  cases hv
  rw [h0] at hz hk
  obtain ⟨t2, a1, b1⟩ := kk f T'.heap (locs ++ L9) (by rw [e1]; exact hp) hb
    ⟨Nat.le_trans hS.1 (by rw [e1]; exact hz), fun q h1 h2 => by rw [e1, hk q (Nat.lt_of_lt_of_le h1 hS.1) h2]; exact hS.2.1 q h1 h2, fun q hq => by
      rcases List.mem_append.mp hq with h | h
      · exact hS.2.2 q h
      · exact hL q h⟩ T' rfl X'
  exact ⟨t2, st t2 a1, b1⟩
theorem gB1 {y : MethodName} {n k : Nat} {bs : ByteArray} {ret : Option FieldType} (ok : COB y bs n ret k) : GoodIn BW (wy y bs n ret) := by
  intro w hw
  rcases List.mem_cons.mp hw with rfl | hw
  · exact gd ok.2.1 ok.2.1
  · exact gd hw hw
theorem cwB {y : MethodName} {bs : ByteArray} {ret : Option FieldType} {n d k idx kp : Nat} (S : CallFix p m c cc nL s args BW own) (ok : COB y bs n ret kp) (hl : Cond.methodLink own idx y ∈ BW) (hR : d + 1 ≤ R.frames ∧ 32 * d + 32 ≤ R.locals) : CallB R s args own idx y bs n ret (wy y bs n ret) (rmd d k (6 * k)) k (6 * k) kp :=
  callB_of kp S.2.2.2.2 (gB1 ok) rfl rfl rfl (S.2.2.2.2 _ ok.1) (S.2.2.2.2 _ hl) ok.2.2.1 ⟨hR.1, by have := ok.2.2.2; show 8 + (n + 11) + 32 * d ≤ R.locals; omega⟩
/-- a call of an object's method -/
theorem bV {C : String} {y : MethodName} {bs : ByteArray} {ret : Option FieldType} {n d k idx kp b : Nat} {As : List Value} {ov : (Nat → Nat) → Option Value} {L : (Nat → Nat) → va_W} (S : CallFix p m c cc nL s args BW own) (X0 : GX D ct N0 F s) (hM : MB l y bs n ret d k D ct N0 F (.ref b :: As) ws ov L) (ok : COB y bs n ret kp) (hl : Cond.methodLink own idx y ∈ BW) (him : Cond.instanceMethod y ∈ BW) (hse : (Cond.selects C y y).before args s = true)
    (hrc : ∃ cell : Cell, H[b]? = some cell ∧ cell.vm.isStatics = false ∧ s.vm.findClass C = some cell.cls) (hP : va_P D vcl ws H) (hD : va_D (fr N0) ws) (hS : va_S (fr N0) s.heap H locs) (hls : ls.size = nL) (hR : d + 1 ≤ R.frames ∧ 32 * d + 32 ≤ R.locals) (hk : As.length = kp) (hst : st = As.reverse ++ .ref b :: rest) (hrest : (rest.map fun v => v.category).sum ≤ 8) (hcs : cells + k ≤ R.cells ∧ slots + 6 * k ≤ R.slots) (hdg : decode cc pc = .ok (.invokevirtual idx, 3))
    (kk : ∀ (f : Nat → Nat) (H : Heap) (locs : List Loc), va_P D vcl (L f) H → va_D (fr N0) (L f) → va_S (fr N0) s.heap H locs → W p l e R s m args below meth c H locs (cells + k) (slots + 6 * k) Q (F0 m (pc + 3) ls ((ov f).toList ++ rest))) : W p l e R s m args below meth c H locs cells slots Q (F0 m pc ls st) := by
  subst hst
  exact bcall (va_runV (As := As) (rest := rest) S hM ⟨cwB S ok hl hR, S.2.2.2.2 _ him, hse⟩ ⟨bBlind, hrc, fun U hU hW => ⟨rfl, X0.at hS hU hW, by rw [hU]; exact ⟨hP, hD⟩⟩⟩ rfl hk hls rfl (lv_room hrest) hdg ⟨hcs.1, hcs.2⟩) hS kk
/-- the same, where what the reference names is overridden -/
theorem bU {C owner : String} {x y : MethodName} {bs b0 : ByteArray} {ret r0 : Option FieldType} {n d k idx kp b m0 : Nat} {As : List Value} {ov : (Nat → Nat) → Option Value} {L : (Nat → Nat) → va_W} (S : CallFix p m c cc nL s args BW own) (X0 : GX D ct N0 F s) (hM : MB l y bs n ret d k D ct N0 F (.ref b :: As) ws ov L) (ok : COB y bs n ret kp) (hd : owner ≠ "java/lang/invoke/MethodHandle" ∧ owner ≠ "java/lang/invoke/VarHandle" ∧ (parseMethodDescriptor x.desc).map (fun d => d.parameters.length) = some kp) (hl : Cond.methodLink own idx x ∈ BW) (hsm : Cond.sameMethod x.cls owner x.name x.desc ∈ BW) (hix : Cond.instanceMethod ⟨owner, x.name, x.desc⟩ ∈ BW) (hcx : Cond.code ⟨owner, x.name, x.desc⟩ b0 m0 r0 ∈ BW) (him : Cond.instanceMethod y ∈ BW) (hse : Cond.selects C x y ∈ BW)
    (hrc : ∃ cell : Cell, H[b]? = some cell ∧ cell.vm.isStatics = false ∧ s.vm.findClass C = some cell.cls) (hP : va_P D vcl ws H) (hD : va_D (fr N0) ws) (hS : va_S (fr N0) s.heap H locs) (hls : ls.size = nL) (hR : d + 1 ≤ R.frames ∧ 32 * d + 32 ≤ R.locals) (hk : As.length = kp) (hst : st = As.reverse ++ .ref b :: rest) (hrest : (rest.map fun v => v.category).sum ≤ 8) (hcs : cells + k ≤ R.cells ∧ slots + 6 * k ≤ R.slots) (hdg : decode cc pc = .ok (.invokevirtual idx, 3))
    (kk : ∀ (f : Nat → Nat) (H : Heap) (locs : List Loc), va_P D vcl (L f) H → va_D (fr N0) (L f) → va_S (fr N0) s.heap H locs → W p l e R s m args below meth c H locs (cells + k) (slots + 6 * k) Q (F0 m (pc + 3) ls ((ov f).toList ++ rest))) : W p l e R s m args below meth c H locs cells slots Q (F0 m pc ls st) := by
  subst hst
  have hG : GoodIn BW (va_wsO own idx C owner x y (wy y bs n ret)) := by
    intro w hw
    simp only [va_wsO, List.mem_append, List.mem_cons, List.not_mem_nil, or_false] at hw
    rcases hw with (rfl | rfl | rfl | rfl | rfl | rfl) | hw
    · exact gd hl hl
    · exact gd hsm hsm
    · exact gd hix hix
    · exact gd hse hse
    · exact gd him him
    · exact gd ok.1 ok.1
    · exact gB1 ok w (List.mem_cons.mpr hw)
  exact bcall (va_runU (As := As) (rest := rest) S hM (va_cwO kp S.2.2.2.2 hG rfl rfl rfl hcx hd ⟨hR.1, by have := ok.2.2.2; show 8 + (n + 11) + 32 * d ≤ R.locals; omega⟩) ⟨bBlind, hrc, fun U hU hW => ⟨rfl, X0.at hS hU hW, by rw [hU]; exact ⟨hP, hD⟩⟩⟩ rfl hk hls rfl (lv_room hrest) hdg ⟨hcs.1, hcs.2⟩) hS kk
/-- a call of the class above -/
theorem bSU {C : String} {cC : ClassId} {y : MethodName} {bs : ByteArray} {ret : Option FieldType} {n d k idx kp b : Nat} {As : List Value} {ov : (Nat → Nat) → Option Value} {L : (Nat → Nat) → va_W} (hat : ClassAt s C cC) (S : CallFix p m c cc nL s args BW own) (X0 : GX D ct N0 F s) (hM : MB l y bs n ret d k D ct N0 F (.ref b :: As) ws ov L) (ok : COB y bs n ret kp) (hno : y.name ≠ "<init>") (hl : Cond.methodLink own idx y ∈ BW) (hsm : Cond.sameMethod y.cls y.cls y.name y.desc ∈ BW) (hsu : Cond.superclass own y.cls ∈ BW) (him : Cond.instanceMethod y ∈ BW)
    (hrc : ∃ cell : Cell, H[b]? = some cell ∧ cell.vm.isStatics = false ∧ s.vm.findClass C = some cell.cls) (hP : va_P D vcl ws H) (hD : va_D (fr N0) ws) (hS : va_S (fr N0) s.heap H locs) (hls : ls.size = nL) (hR : d + 1 ≤ R.frames ∧ 32 * d + 32 ≤ R.locals) (hk : As.length = kp) (hst : st = As.reverse ++ .ref b :: rest) (hrest : (rest.map fun v => v.category).sum ≤ 8) (hcs : cells + k ≤ R.cells ∧ slots + 6 * k ≤ R.slots) (hdg : decode cc pc = .ok (.invokespecial idx, 3))
    (kk : ∀ (f : Nat → Nat) (H : Heap) (locs : List Loc), va_P D vcl (L f) H → va_D (fr N0) (L f) → va_S (fr N0) s.heap H locs → W p l e R s m args below meth c H locs (cells + k) (slots + 6 * k) Q (F0 m (pc + 3) ls ((ov f).toList ++ rest))) : W p l e R s m args below meth c H locs cells slots Q (F0 m pc ls st) := by
  subst hst
  have hG : GoodIn BW (va_wsSU own idx y (wy y bs n ret)) := by
    intro w hw
    simp only [va_wsSU, List.mem_append, List.mem_cons, List.not_mem_nil, or_false] at hw
    rcases hw with (rfl | rfl | rfl | rfl | rfl) | hw
    · exact gd hl hl
    · exact gd hsm hsm
    · exact gd hsu hsu
    · exact gd him him
    · exact gd ok.1 ok.1
    · exact gB1 ok w (List.mem_cons.mpr hw)
  exact bcall (va_runSU (As := As) (rest := rest) hat S hM (va_cwSU kp S.2.2.2.2 hG rfl rfl rfl ⟨hno, ok.2.2.1.2.2⟩ ⟨hR.1, by have := ok.2.2.2; show 8 + (n + 11) + 32 * d ≤ R.locals; omega⟩) ⟨bBlind, hrc, fun U hU hW => ⟨rfl, X0.at hS hU hW, by rw [hU]; exact ⟨hP, hD⟩⟩⟩ rfl hk hls rfl (lv_room hrest) hdg ⟨hcs.1, hcs.2⟩) hS kk
/-- a static method, a constructor -/
theorem bS {y : MethodName} {bs : ByteArray} {ret : Option FieldType} {n d k idx kp : Nat} {As : List Value} {ov : (Nat → Nat) → Option Value} {L : (Nat → Nat) → va_W} (S : CallFix p m c cc nL s args BW own) (X0 : GX D ct N0 F s) (hM : MB l y bs n ret d k D ct N0 F As ws ov L) (ok : COB y bs n ret kp) (hl : Cond.methodLink own idx y ∈ BW) (hst0 : Cond.static y ∈ BW)
    (hP : va_P D vcl ws H) (hD : va_D (fr N0) ws) (hS : va_S (fr N0) s.heap H locs) (hls : ls.size = nL) (hR : d + 1 ≤ R.frames ∧ 32 * d + 32 ≤ R.locals) (hk : As.length = kp) (hst : st = As.reverse ++ rest) (hrest : (rest.map fun v => v.category).sum ≤ 8) (hcs : cells + k ≤ R.cells ∧ slots + 6 * k ≤ R.slots) (hdg : decode cc pc = .ok (.invokestatic idx, 3))
    (kk : ∀ (f : Nat → Nat) (H : Heap) (locs : List Loc), va_P D vcl (L f) H → va_D (fr N0) (L f) → va_S (fr N0) s.heap H locs → W p l e R s m args below meth c H locs (cells + k) (slots + 6 * k) Q (F0 m (pc + 3) ls ((ov f).toList ++ rest))) : W p l e R s m args below meth c H locs cells slots Q (F0 m pc ls st) := by
  subst hst
  exact bcall (va_runS (As := As) (rest := rest) S hM ⟨cwB S ok hl hR, S.2.2.2.2 _ hst0⟩ ⟨bBlind, fun U hU hW => ⟨rfl, X0.at hS hU hW, by rw [hU]; exact ⟨hP, hD⟩⟩⟩ rfl hk hls rfl (lv_room hrest) hdg ⟨hcs.1, hcs.2⟩) hS kk
theorem bI {y : MethodName} {bs : ByteArray} {n d k idx kp b : Nat} {As : List Value} {L : (Nat → Nat) → va_W} (S : CallFix p m c cc nL s args BW own) (X0 : GX D ct N0 F s) (hM : MB l y bs n none d k D ct N0 F (.ref b :: As) ws (fun _ => none) L) (ok : COB y bs n none kp) (hno : y.name = "<init>") (hl : Cond.methodLink own idx y ∈ BW) (him : Cond.instanceMethod y ∈ BW)
    (hP : va_P D vcl ws H) (hD : va_D (fr N0) ws) (hS : va_S (fr N0) s.heap H locs) (hls : ls.size = nL) (hR : d + 1 ≤ R.frames ∧ 32 * d + 32 ≤ R.locals) (hk : As.length = kp) (hst : st = As.reverse ++ .ref b :: rest) (hrest : (rest.map fun v => v.category).sum ≤ 8) (hcs : cells + k ≤ R.cells ∧ slots + 6 * k ≤ R.slots) (hdg : decode cc pc = .ok (.invokespecial idx, 3))
    (kk : ∀ (f : Nat → Nat) (H : Heap) (locs : List Loc), va_P D vcl (L f) H → va_D (fr N0) (L f) → va_S (fr N0) s.heap H locs → W p l e R s m args below meth c H locs (cells + k) (slots + 6 * k) Q (F0 m (pc + 3) ls rest)) : W p l e R s m args below meth c H locs cells slots Q (F0 m pc ls st) := by
  subst hst
  exact bcall (va_runI (As := As) (rest := rest) S hM ⟨cwB S ok hl hR, hno, S.2.2.2.2 _ him⟩ ⟨bBlind, fun U hU hW => ⟨rfl, X0.at hS hU hW, by rw [hU]; exact ⟨hP, hD⟩⟩⟩ rfl hk hls rfl (lv_room hrest) hdg ⟨hcs.1, hcs.2⟩) hS kk
/-- fields and rows -/
theorem bget {C : String} {T : u_T} {N ci idx : Nat} {fs : List Value} {v : Value} {a : Nat} (q0 k : Nat) (S : CallFix p m c cc nL s args BW own) (X0 : GX D ct N0 F s) (hP : va_P D vcl ws H) (hc : vcl[ci]? = some (C, T, N)) (hin : ∀ w ∈ u_ws C T N, w ∈ BW) (hl : Cond.fieldLink own idx (T k).1 (T k).2.1 (T k).2.2.1 ∈ BW) (he : ws[q0]? = some (a, .inr (ci, fs))) (hk : k < N) (hv : fs[k]? = some v) (hdg : decode cc pc = .ok (.getfield idx, 3))
    (kk : W p l e R s m args below meth c H locs cells slots Q (F0 m (pc + 3) ls (v :: rest))) : W p l e R s m args below meth c H locs cells slots Q (F0 m pc ls (.ref a :: rest)) :=
  va_get (D := D) S.1 S.2.1 S.2.2.2.2 hin S.2.2.2.1 X0.1 hP q0 he hc k hk (S.2.2.2.2 _ hl) (fun x h => h) hv hdg kk
theorem bput {ci N idx : Nat} {C : String} {T : u_T} {fs : List Value} {v : Value} {a : Nat} {lw' : va_W} (j k : Nat) (S : CallFix p m c cc nL s args BW own) (X0 : GX D ct N0 F s) (hP : va_P D vcl (B ++ lw) H) (hD : va_D (fr N0) (B ++ lw)) (hS : va_S (fr N0) s.heap H locs) (ty0 : Nat → FieldType) (hty : ∀ k, k < N → parseFieldDescriptor (T k).2.2.1 = some (ty0 k)) (hnm : ∀ a, a < N → ∀ b, b < N → a ≠ b → (T a).2.1 ≠ (T b).2.1)
    (hc : vcl[ci]? = some (C, T, N)) (hin : ∀ w ∈ u_ws C T N, w ∈ BW) (hl : Cond.fieldLink own idx (T k).1 (T k).2.1 (T k).2.2.1 ∈ BW) (he : lw[j]? = some (a, .inr (ci, fs))) (hw : lw.set j (a, .inr (ci, fs.set k v)) = lw') (hk : k < N) (hfin : (T k).2.2.2 = false) (hn : narrow (ty0 k) v = v) (hfit : fits (ty0 k) v = true) (hlen : k < fs.length) (hdg : decode cc pc = .ok (.putfield idx, 3))
    (kk : ∀ (H : Heap) (locs : List Loc), va_P D vcl (B ++ lw') H → va_D (fr N0) (B ++ lw') → va_S (fr N0) s.heap H locs → W p l e R s m args below meth c H locs cells slots Q (F0 m (pc + 3) ls rest)) : W p l e R s m args below meth c H locs cells slots Q (F0 m pc ls (v :: .ref a :: rest)) :=
  va_put (D := D) S.1 S.2.1 S.2.2.2.2 hin ty0 hty hnm S.2.2.2.1 X0.1 hP hD hS (B.length + j) (at_B he) hc k hk (S.2.2.2.2 _ hl) (fun x h => h) hfin (hty k hk) hn hfit hlen hdg (fun H1 locs1 h1 h2 h3 => kk H1 locs1 (by rw [set_B hw] at h1; exact h1) (by rw [set_B hw] at h2; exact h2) h3)
theorem balen {n a : Nat} {f : Nat → Int32} (q0 : Nat) (S : CallFix p m c cc nL s args BW own) (X0 : GX D ct N0 F s) (hP : va_P D vcl ws H) (ha : ws[q0]? = some (a, .inl (ct 7, n, .inl f))) (hdg : decode cc pc = .ok (.arraylength, 1))
    (kk : W p l e R s m args below meth c H locs cells slots Q (F0 m (pc + 1) ls (.int (nI n) :: rest))) : W p l e R s m args below meth c H locs cells slots Q (F0 m pc ls (.ref a :: rest)) :=
  va_alen (D := D) (tys := tysF ct) S.1 S.2.1 X0.1 hP q0 7 ha rfl rfl hdg kk
theorem bbld {n a i : Nat} {f : Nat → Int32} (q0 : Nat) (S : CallFix p m c cc nL s args BW own) (X0 : GX D ct N0 F s) (hP : va_P D vcl ws H) (ha : ws[q0]? = some (a, .inl (ct 7, n, .inl f))) (hi : i < n) (hn : n ≤ 1000) (hdg : decode cc pc = .ok (.baload, 1))
    (kk : W p l e R s m args below meth c H locs cells slots Q (F0 m (pc + 1) ls (.int (f i) :: rest))) : W p l e R s m args below meth c H locs cells slots Q (F0 m pc ls (.int (nI i) :: .ref a :: rest)) := by
  refine va_bald (D := D) (tys := tysF ct) S.1 S.2.1 X0.1 hP q0 7 ha rfl (vp_in_nI hi (by omega)) hdg ?_
  rw [nI_clamp (show i < 2 ^ 31 by omega)]
  exact kk
theorem bbst {n a i : Nat} {f : Nat → Int32} {x : Int32} {lw' : va_W} (j : Nat) (S : CallFix p m c cc nL s args BW own) (X0 : GX D ct N0 F s) (hP : va_P D vcl (B ++ lw) H) (hD : va_D (fr N0) (B ++ lw)) (hS : va_S (fr N0) s.heap H locs) (ha : lw[j]? = some (a, .inl (ct 7, n, .inl f))) (hi : i < n) (hn : n ≤ 1000) (hx : vp_nar .byte x = x) (hw : lw.set j (a, .inl (ct 7, n, .inl (upd f i x))) = lw') (hdg : decode cc pc = .ok (.bastore, 1))
    (kk : ∀ (H : Heap) (locs : List Loc), va_P D vcl (B ++ lw') H → va_D (fr N0) (B ++ lw') → va_S (fr N0) s.heap H locs → W p l e R s m args below meth c H locs cells slots Q (F0 m (pc + 1) ls rest)) : W p l e R s m args below meth c H locs cells slots Q (F0 m pc ls (.int x :: .int (nI i) :: .ref a :: rest)) := by
  refine va_bast (D := D) (tys := tysF ct) S.1 S.2.1 X0.1 hP hD hS (B.length + j) 7 (at_B ha) rfl (vp_in_nI hi (by omega)) hdg ?_
  rw [nI_clamp (show i < 2 ^ 31 by omega), hx, set_B hw]
  exact kk
/-- a constant text's letters are copied -/
theorem bcpK {n a b0 n0 dp k : Nat} {f g : Nat → Int32} {idx : Nat} {lw' : va_W} (j : Nat) (S : CallFix p m c cc nL s args BW own) (X0 : GX D ct N0 F s) (hls : ls.size = nL) (hR : 1 ≤ R.frames ∧ 32 ≤ R.locals) (hl : Cond.methodLink own idx arraycopyName ∈ BW) (hP : va_P D vcl (B ++ lw) H) (hD : va_D (fr N0) (B ++ lw)) (hS : va_S (fr N0) s.heap H locs) (hX : va_T .byte b0 n0 (fun j => .int (f j)) (fr N0) s s.heap) (ha : lw[j]? = some (a, .inl (ct 7, n, .inl g))) (hk : k ≤ n0 ∧ dp + k ≤ n ∧ n ≤ 1000) (hfit : ∀ i : Nat, i < k → fits .byte (.int (f i)) = true) (hw : lw.set j (a, .inl (ct 7, n, .inl (va_cpy f g 0 dp k))) = lw') (hdg : decode cc pc = .ok (.invokestatic idx, 3))
    (kk : ∀ (H : Heap) (locs : List Loc), va_P D vcl (B ++ lw') H → va_D (fr N0) (B ++ lw') → va_S (fr N0) s.heap H locs → W p l e R s m args below meth c H locs cells slots Q (F0 m (pc + 3) ls [])) : W p l e R s m args below meth c H locs cells slots Q (F0 m pc ls [.int (nI k), .int (nI dp), .ref a, .int 0, .ref b0]) := by
  have ek : (nI k).toNatClampNeg = k := nI_clamp (by omega)
  have ed : (nI dp).toNatClampNeg = dp := nI_clamp (by omega)
  have e0 : (0 : Int32).toNatClampNeg = 0 := by decide
  refine vk_copyt (D := D) (tys := tysF ct) S.1 S.2.1 (S.2.2.1.trans hls.symm) S.2.2.2.1 (S.2.2.2.2 _ hl) (S.2.2.2.2 _ na_acopy) (S.2.2.2.2 _ st_acopy) (S.2.2.2.2 _ in_RJ10) X0.1 hP hD hS hX (B.length + j) 7 (at_B ha) rfl (by decide) (nI_pos (by omega)) (nI_pos (by omega)) (by rw [ek, e0]; omega) (by rw [ek, ed]; omega) (fun i hi => by rw [e0, Nat.zero_add]; exact hfit i (by rw [← ek]; exact hi)) hR.1 (Nat.le_trans (by decide) hR.2) hdg ?_
  rw [ek, ed, e0, set_B hw]
  exact kk
/-- a row of bytes is copied -/
theorem bcpB {n n0 a a0 k : Nat} {f g : Nat → Int32} {idx : Nat} {lw' : va_W} (j0 j : Nat) (S : CallFix p m c cc nL s args BW own) (X0 : GX D ct N0 F s) (hls : ls.size = nL) (hR : 1 ≤ R.frames ∧ 32 ≤ R.locals) (hl : Cond.methodLink own idx arraycopyName ∈ BW) (hP : va_P D vcl (B ++ lw) H) (hD : va_D (fr N0) (B ++ lw)) (hS : va_S (fr N0) s.heap H locs) (ha0 : lw[j0]? = some (a0, .inl (ct 7, n0, .inl f))) (ha : lw[j]? = some (a, .inl (ct 7, n, .inl g))) (hk : k ≤ n0 ∧ k ≤ n ∧ n ≤ 1000) (hfit : ∀ i : Nat, i < k → fits .byte (.int (f i)) = true) (hw : lw.set j (a, .inl (ct 7, n, .inl (va_cpy f g 0 0 k))) = lw') (hdg : decode cc pc = .ok (.invokestatic idx, 3))
    (kk : ∀ (H : Heap) (locs : List Loc), va_P D vcl (B ++ lw') H → va_D (fr N0) (B ++ lw') → va_S (fr N0) s.heap H locs → W p l e R s m args below meth c H locs cells slots Q (F0 m (pc + 3) ls [])) : W p l e R s m args below meth c H locs cells slots Q (F0 m pc ls [.int (nI k), .int 0, .ref a, .int 0, .ref a0]) := by
  have ek : (nI k).toNatClampNeg = k := nI_clamp (by omega)
  have e0 : (0 : Int32).toNatClampNeg = 0 := by decide
  refine va_copyi (D := D) (tys := tysF ct) S.1 S.2.1 (S.2.2.1.trans hls.symm) S.2.2.2.1 (S.2.2.2.2 _ hl) (S.2.2.2.2 _ na_acopy) (S.2.2.2.2 _ st_acopy) (S.2.2.2.2 _ in_RJ10) X0.1 hP hD hS (B.length + j0) (B.length + j) 7 7 (at_B ha0) (at_B ha) rfl rfl rfl (by decide) (by decide) (nI_pos (by omega)) (by rw [ek, e0]; omega) (by rw [ek, e0]; omega) (fun i hi => by rw [e0, Nat.zero_add]; exact hfit i (by rw [← ek]; exact hi)) hR.1 (Nat.le_trans (by decide) hR.2) hdg ?_
  rw [ek, e0, set_B hw]
  exact kk
end BRR

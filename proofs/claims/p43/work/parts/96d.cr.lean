/-! making new objects: rows over any list of cells -/
def CX (ct : Nat → ClassId) (U : State) : Prop := va_AO RX3 U ∧ va_AO RX5 U ∧ (∃ kA : Class, U.vm.classes[ct 5]? = some kA ∧ kA.kind = .array (ct 1) (.array .int)) ∧ ∃ (kC : Class) (ci : ClassId), U.vm.classes[ct 1]? = some kC ∧ kC.kind = .array ci .int
theorem CX.moved {ct : Nat → ClassId} {u U : State} (hvm : u.vm.Alike U.vm) (h : CX ct u) : CX ct U := by
  obtain ⟨h1, h2, ⟨kA, h3, h4⟩, kC, ci, h5, h6⟩ := h
  obtain ⟨k', hk', he⟩ := hvm.2.2 _ _ h3
  obtain ⟨k2, hk2, he2⟩ := hvm.2.2 _ _ h5
  exact ⟨h1.moved hvm, h2.moved hvm, ⟨k', hk', by rw [he]; exact h4⟩, k2, ci, hk2, by rw [he2]; exact h6⟩
/-- what holds of a state beside the cells of the list -/
def GX (D : va_G) (ct : Nat → ClassId) (N0 : Nat) (F : State → Prop) (U : State) : Prop := va_K D vcl (tysF ct) U ∧ N0 ≤ U.heap.size ∧ (∀ w ∈ nestL, va_Nw w U) ∧ CX ct U ∧ Stab N0 F ∧ F U
theorem GX.go {D : va_G} {ct : Nat → ClassId} {N0 : Nat} {F : State → Prop} {s U : State} (h : GX D ct N0 F s) (hW : s.WarmedH U.vm) (hz : s.heap.size ≤ U.heap.size) (hq : ∀ q : Nat, q < s.heap.size → ¬ N0 ≤ q → U.heap[q]? = s.heap[q]?) : GX D ct N0 F U :=
  ⟨va_K.moved hW.alike h.1, Nat.le_trans h.2.1 hz, fun w hw => nest_warm hw hW (h.2.2.1 w hw), h.2.2.2.1.moved hW.alike, h.2.2.2.2.1, h.2.2.2.2.1 s U hW hz hq h.2.2.2.2.2⟩
abbrev wCc (D : va_G) (ct : Nat → ClassId) (N0 : Nat) (F : State → Prop) (B : va_W) (q : Nat) (c0 : va_E) : Array Value → State → Prop :=
  va_Pc [.ref q] (fun U => GX D ct N0 F U ∧ va_P D vcl (B ++ [(q, c0)]) U.heap ∧ va_D (fr N0) (B ++ [(q, c0)]))
abbrev wCq (D : va_G) (N0 : Nat) (B : va_W) (q : Nat) (L : (Nat → Nat) → va_W) : Array Value → State → Outcome → State → Prop :=
  va_Qv (fun f : Nat → Nat => f 0 = q) (fun f t => va_P D vcl (B ++ L f) t.heap ∧ va_D (fr N0) (B ++ L f)) (fr N0)
/-- a constructor's contract: from its own new cell to its cells L f, whatever (B) else there is -/
abbrev MC (l : Launch) (y : MethodName) (cc : ByteArray) (n d k ms : Nat) (D : va_G) (ct : Nat → ClassId) (N0 : Nat) (F : State → Prop) (B : va_W) (q : Nat) (c0 : va_E) (L : (Nat → Nat) → va_W) : Prop :=
  Met l y (wy y cc n none) (rmd d k ms) (wCc D ct N0 F B q c0) (wCq D N0 B q L) k ms (fr N0)
def CKI (y : MethodName) (cc : ByteArray) (n : Nat) : Prop :=
  Cond.instanceMethod y ∈ BW ∧ Cond.initialized y.cls ∈ BW ∧ Cond.code y cc n none ∈ BW ∧ (y.cls ≠ "java/lang/invoke/MethodHandle" ∧ y.cls ≠ "java/lang/invoke/VarHandle" ∧ (parseMethodDescriptor y.desc).map (fun d => d.parameters.length) = some 0) ∧ n ≤ 13 ∧ y.name = "<init>"
theorem im_obj : Cond.instanceMethod objectInit ∈ BW := bw 70 (by decide +kernel) (by decide +kernel)
theorem co_obj : Cond.code objectInit ⟨#[0xb1]⟩ 1 none ∈ BW := bw 71 (by decide +kernel) (by decide +kernel)
theorem at_B {B l : va_W} {j : Nat} {x : Nat × va_E} (h : l[j]? = some x) : (B ++ l)[B.length + j]? = some x := by
  rw [List.getElem?_append_right (by omega), Nat.add_sub_cancel_left]; exact h
theorem set_B {B l l' : va_W} {j : Nat} {x : Nat × va_E} (h : l.set j x = l') : (B ++ l).set (B.length + j) x = B ++ l' := by
  rw [List.set_append_right _ _ (by omega), Nat.add_sub_cancel_left, h]
/-- many new cells at the heap's end -/
theorem push_n {D : va_G} {cl : List vw_C} {A : Nat → Prop} {ws xs : va_W} {H H1 : Heap} (hP : va_P D cl ws H) (hD : va_D A ws) (hA : ∀ q, H.size ≤ q → A q) (hx : ∀ (k : Nat) (x : Nat × va_E), xs[k]? = some x → x.1 = H.size + k ∧ va_at D cl x H1) (ho : ∀ q : Nat, q < H.size → H1[q]? = H[q]?) : va_P D cl (ws ++ xs) H1 ∧ va_D A (ws ++ xs) := by
  have sp : ∀ (k : Nat) (x : Nat × va_E), (ws ++ xs)[k]? = some x → (k < ws.length ∧ ws[k]? = some x ∧ x.1 < H.size) ∨ (ws.length ≤ k ∧ xs[k - ws.length]? = some x ∧ x.1 = H.size + (k - ws.length)) := fun k x h => by
    by_cases c : k < ws.length
    · rw [List.getElem?_append_left c] at h; exact Or.inl ⟨c, h, at_lt (hP k x h)⟩
    · rw [List.getElem?_append_right (by omega)] at h; exact Or.inr ⟨by omega, h, (hx _ x h).1⟩
  refine ⟨fun k x h => ?_, fun i j x y hx' hy' hxy => ?_, fun k x h => ?_⟩
  · rcases sp k x h with ⟨-, a, b⟩ | ⟨-, a, -⟩
    · exact at_e (hP k x a) (ho _ b)
    · exact (hx _ x a).2
  · rcases sp i x hx' with ⟨a1, a2, a3⟩ | ⟨a1, a2, a3⟩ <;> rcases sp j y hy' with ⟨b1, b2, b3⟩ | ⟨b1, b2, b3⟩
    · exact hD.1 i j x y a2 b2 hxy
    · omega
    · omega
    · omega
  · rcases sp k x h with ⟨-, a, -⟩ | ⟨-, -, b⟩
    · exact hD.2 k x a
    · exact hA _ (by omega)
section CRR
variable {p : Program} {l : Launch} {e : Env} {R : Room} {s : State} {m : MethodId} {args : Array Value} {below : List Frame} {meth : Method} {c : Code} {H : Heap} {locs : List Loc} {cells slots : Nat} {Q : State → Prop}
variable {cc : ByteArray} {nL : Nat} {own : String} {pc : Nat} {ls : Array Slot} {rest : List Value}
variable {D : va_G} {ct : Nat → ClassId} {N0 : Nat} {F : State → Prop} {ws B lw : va_W} {q : Nat} {c0 : va_E}
theorem GX.at (X0 : GX D ct N0 F s) (hS : va_S (fr N0) s.heap H locs) {U : State} (hU : U.heap = H) (hW : s.WarmedH U.vm) : GX D ct N0 F U :=
  GX.go X0 hW (by rw [hU]; exact hS.1) (fun q h1 h2 => by rw [hU]; exact hS.2.1 q h1 h2)
theorem GX.blind : FrameBlind (wCc D ct N0 F B q c0) := by
  intro a U g mk h
  obtain ⟨h1, h2, h3⟩ := h
  exact ⟨h1, GX.go h2 (State.WarmedH.refl U) (Nat.le_refl _) (fun _ _ _ => rfl), h3⟩
theorem GX.A (X0 : GX D ct N0 F s) : ∀ q : Nat, s.heap.size ≤ q → fr N0 q := fun q h => Nat.le_trans X0.2.1 h
/-- a constructor's start -/
theorem msC {y : MethodName} {d mc ms : Nat} {Qc : Array Value → State → Outcome → State → Prop} (hy : plainName y.cls = true) (ho : y.cls = own) (hn : y.name = "<init>") (hlen : 1 ≤ nL)
    (body : ∀ p e s m args below meth c, CallFix p m c cc nL s args BW own → meth.sig.returnType = none → meth.locks = false → meth.name = "<init>" → GX D ct N0 F s → va_P D vcl (B ++ [(q, c0)]) s.heap → va_D (fr N0) (B ++ [(q, c0)]) → va_S (fr N0) s.heap s.heap [] → ∀ ls, lv_has ls nL [(0, .ref q)] →
      W p l e (rmd d mc ms) s m args below meth c s.heap [] 0 0 (MQ below Qc args s mc ms (fr N0)) (F0 m 0 ls [])) :
    Met l y (wy y cc nL none) (rmd d mc ms) (wCc D ct N0 F B q c0) Qc mc ms (fr N0) := by
  refine Met.ofW (cc := cc) (maxL := nL) (ret := none) hy rfl ?_
  intro p e s m args below meth c s₁ B9 hml hv
  obtain ⟨rfl, X0, hP, hD⟩ := hv
  have hts := atoms_spec (ws := wy y cc nL none) B9.pre
  have hown : s.vm.findClass own = some m.cls := by rw [← ho]; exact findClass_of_methodNamed B9.named
  have hl := lv_entry [.ref q] (n := nL) hlen
  rw [lg_entry_eq]
  exact body p e s m _ below meth c ⟨B9.exec, B9.bytes, hml, hown, fun w hw => hts w (List.mem_cons_of_mem _ hw)⟩ B9.returns B9.notSynchronized ((name_of_methodNamed B9.named B9.method).1.trans hn) X0 hP hD va_S.rf _ hl
/-- its end -/
theorem eC {L : (Nat → Nat) → va_W} {f : Nat → Nat} {mc ms : Nat} (S : CallFix p m c cc nL s args BW own) (hr : meth.sig.returnType = none) (hlocks : meth.locks = false) (hP : va_P D vcl (B ++ L f) H) (hD : va_D (fr N0) (B ++ L f)) (hS : va_S (fr N0) s.heap H locs) (hf : f 0 = q) (hcs : cells ≤ mc ∧ slots ≤ ms) (hdg : decode cc pc = .ok (.return_, 1)) :
    W p l e R s m args below meth c H locs cells slots (MQ below (wCq D N0 B q L) args s mc ms (fr N0)) (F0 m pc ls []) :=
  W.widen hcs.1 hcs.2 (W.vret S.1 S.2.1 hr (fun t ht hW => ⟨⟨f, rfl, hf, (congrArg (va_P D vcl (B ++ L f)) ht).mpr hP, hD⟩, hS.F ht⟩) hS.2.2 hdg hlocks)
/-- Object's own constructor -/
theorem oI {idx a : Nat} (S : CallFix p m c cc nL s args BW own) (hl : Cond.methodLink own idx objectInit ∈ BW) (hls : ls.size = nL) (hR : 1 ≤ R.frames ∧ 32 ≤ R.locals) (hdg : decode cc pc = .ok (.invokespecial idx, 3))
    (kk : W p l e R s m args below meth c H locs cells slots Q (F0 m (pc + 3) ls [])) : W p l e R s m args below meth c H locs cells slots Q (F0 m pc ls [.ref a]) :=
  W.objInit S.1 S.2.1 S.2.2.2.1 (S.2.2.2.2 _ hl) (S.2.2.2.2 _ im_obj) (S.2.2.2.2 _ co_obj) (g := F0 m pc ls [.ref a]) rfl (hls.trans S.2.2.1.symm) rfl hdg hR.1 (Nat.le_trans (Nat.add_le_add_right (lv_room (m := m) (pc := pc) (ls := ls) (rest := [.ref a]) (st := []) (Nat.zero_le _)) 12) (Nat.le_trans (by decide) hR.2)) kk
/-- a new object -/
theorem nO {C : String} {T : u_T} {N ci index : Nat} {ty : Nat → FieldType} {fs : List Value} (S : CallFix p m c cc nL s args BW own) (X0 : GX D ct N0 F s) (hP : va_P D vcl ws H) (hD : va_D (fr N0) ws) (hS : va_S (fr N0) s.heap H locs) (hin : ∀ w ∈ u_ws C T N, w ∈ BW) (hty : ∀ k, k < N → parseFieldDescriptor (T k).2.2.1 = some (ty k)) (hcl : Cond.classLink own index C ∈ BW) (hinst : Cond.instantiable C N ∈ BW) (hini : Cond.initialized C ∈ BW)
    (hc : vcl[ci]? = some (C, T, N)) (hfs : ∀ j, j < N → defaultValue (ty j) = vp_V fs j) (hcs : cells + 1 ≤ R.cells ∧ slots + N ≤ R.slots) (hdg : decode cc pc = .ok (.new index, 3))
    (kk : ∀ (q : Nat) (H : Heap), va_P D vcl (ws ++ [(q, .inr (ci, fs))]) H → va_D (fr N0) (ws ++ [(q, .inr (ci, fs))]) → va_S (fr N0) s.heap H locs → W p l e R s m args below meth c H locs (cells + 1) (slots + N) Q (F0 m (pc + 3) ls (.ref q :: rest))) : W p l e R s m args below meth c H locs cells slots Q (F0 m pc ls rest) :=
  va_new S.1 S.2.1 S.2.2.2.2 hin ty hty S.2.2.2.1 (S.2.2.2.2 _ hcl) (S.2.2.2.2 _ hinst) (S.2.2.2.2 _ hini) X0.1 hP hD hS X0.A hc hfs hcs.1 hcs.2 hdg kk
/-- a new array of numbers -/
theorem nA {atype : ArrayType} {ty : FieldType} {cK : ClassId} {a0 : vp_A} {N' : Nat} {n : Int32} (k : Nat) (S : CallFix p m c cc nL s args BW own) (X0 : GX D ct N0 F s) (hP : va_P D vcl ws H) (hD : va_D (fr N0) ws) (hS : va_S (fr N0) s.heap H locs) (hty : newarray.typeOf atype = ty) (harr : Cond.arrayClass ty ∈ BW) (hk : (tysF ct)[k]? = some (cK, ty)) (hr : ∀ (U : State) (cA : ClassId), va_RA U cA ty → U.vm.findClass ("[" ++ ty.toString) = some cA)
    (ha : ∀ cA : ClassId, vp_cell cA a0 = arrV cA N' (fun _ => defaultValue ty)) (hn : ¬ n < 0) (hN : n.toNatClampNeg = N') (hbytes : N' * componentBytes ty ≤ 536870912) (hcs : cells + 1 ≤ R.cells ∧ slots + N' ≤ R.slots) (hdg : decode cc pc = .ok (.newarray atype, 2))
    (kk : ∀ (q : Nat) (H : Heap), va_P D vcl (ws ++ [(q, .inl (cK, a0))]) H → va_D (fr N0) (ws ++ [(q, .inl (cK, a0))]) → va_S (fr N0) s.heap H locs → W p l e R s m args below meth c H locs (cells + 1) (slots + N') Q (F0 m (pc + 2) ls (.ref q :: rest))) : W p l e R s m args below meth c H locs cells slots Q (F0 m pc ls (.int n :: rest)) := by
  subst hty
  refine va_newa (D := D) (cl := vcl) (tys := tysF ct) S.1 S.2.1 (S.2.2.2.2 _ harr) rfl X0.1 hP hD hS X0.A ha hn hN hbytes hcs.1 hcs.2 hdg (fun q cA H1 hK hP hD hS => ?_)
  have e : cA = cK := Option.some.inj ((hr _ _ (hK.2 8 _ rfl).2).symm.trans (hr _ _ (X0.1.2 k _ hk).2))
  subst e
  exact kk q H1 hP hD hS
/-- a new array of references -/
theorem nQ {C : String} {cK : ClassId} {N' index : Nat} {n : Int32} (k : Nat) (S : CallFix p m c cc nL s args BW own) (X0 : GX D ct N0 F s) (hP : va_P D vcl ws H) (hD : va_D (fr N0) ws) (hS : va_S (fr N0) s.heap H locs) (hcl : Cond.classLink own index C ∈ BW) (hov : va_AO C s) (hk : (tysF ct)[k]? = some (cK, .object C))
    (hn : ¬ n < 0) (hN : n.toNatClampNeg = N') (hbytes : N' * 4 ≤ 536870912) (hcs : cells + 1 ≤ R.cells ∧ slots + N' ≤ R.slots) (hdg : decode cc pc = .ok (.anewarray index, 3))
    (kk : ∀ (q : Nat) (H : Heap), va_P D vcl (ws ++ [(q, .inl (cK, N', .inr (.inr (.inr (.inr (fun _ => none))))))]) H → va_D (fr N0) (ws ++ [(q, .inl (cK, N', .inr (.inr (.inr (.inr (fun _ => none))))))]) → va_S (fr N0) s.heap H locs → W p l e R s m args below meth c H locs (cells + 1) (slots + N') Q (F0 m (pc + 3) ls (.ref q :: rest))) : W p l e R s m args below meth c H locs cells slots Q (F0 m pc ls (.int n :: rest)) := by
  refine va_newq (D := D) (cl := vcl) (tys := tysF ct) S.1 S.2.1 S.2.2.2.1 (S.2.2.2.2 _ hcl) hov X0.1 hP hD hS X0.A hn hN hbytes hcs.1 hcs.2 hdg (fun q cA H1 hK hP hD hS => ?_)
  obtain ⟨kA, comp, -, -, -, g1⟩ := (hK.2 8 _ rfl).2
  obtain ⟨kA', comp', -, -, -, g2⟩ := (X0.1.2 k _ hk).2
  have e : cA = cK := Option.some.inj (g1.symm.trans g2)
  subst e
  exact kk q H1 hP hD hS
/-- new rows of ints -/
theorem nM {N M index : Nat} {n k : Int32} (S : CallFix p m c cc nL s args BW own) (X0 : GX D ct N0 F s) (hP : va_P D vcl ws H) (hD : va_D (fr N0) ws) (hS : va_S (fr N0) s.heap H locs) (hcl : Cond.classLink own index "[[I" ∈ BW)
    (hn : ¬ n < 0) (hk : ¬ k < 0) (hN : n.toNatClampNeg = N) (hM : k.toNatClampNeg = M) (hs : N ≤ 1000 ∧ M ≤ 1000) (hcs : cells + (1 + N) ≤ R.cells ∧ slots + (N + N * M) ≤ R.slots) (hdg : decode cc pc = .ok (.multianewarray index 2, 4))
    (kk : ∀ (h : Nat) (H : Heap) (locs : List Loc), va_P D vcl (ws ++ ((h, .inl (ct 5, N, .inr (.inr (.inr (.inr (fun i => if i < N then some (h + 1 + i) else none)))))) :: (List.range N).map (fun j => (h + 1 + j, .inl (ct 1, M, .inl (fun _ => 0)))))) H → va_D (fr N0) (ws ++ ((h, .inl (ct 5, N, .inr (.inr (.inr (.inr (fun i => if i < N then some (h + 1 + i) else none)))))) :: (List.range N).map (fun j => (h + 1 + j, .inl (ct 1, M, .inl (fun _ => 0)))))) → va_S (fr N0) s.heap H locs →
      W p l e R s m args below meth c H locs (cells + 1 + N) (slots + N + N * M) Q (F0 m (pc + 4) ls (.ref h :: rest))) : W p l e R s m args below meth c H locs cells slots Q (F0 m pc ls (.int k :: .int n :: rest)) := by
  obtain ⟨kA, a1, a2⟩ := X0.2.2.2.1.2.2.1
  obtain ⟨kC, ci, a3, a4⟩ := X0.2.2.2.1.2.2.2
  have hnm : s.vm.findClass "[[I" = some (ct 5) := (X0.1.2 5 _ rfl).2
  refine W.mana S.1 S.2.1 S.2.2.2.1 (S.2.2.2.2 _ hcl) hnm a1 a2 a3 a4 hdg hn hk hN hM hs hcs.1 hcs.2 (fun H1 z1 z2 z3 z4 => ?_)
  have hA : ∀ q, H.size ≤ q → fr N0 q := fun q h => X0.A q (Nat.le_trans hS.1 h)
  have key := push_n (H1 := H1) (xs := (H.size, .inl (ct 5, N, .inr (.inr (.inr (.inr (fun i => if i < N then some (H.size + 1 + i) else none)))))) :: (List.range N).map (fun j => (H.size + 1 + j, .inl (ct 1, M, .inl (fun _ => 0))))) hP hD hA (fun k x hx => by
    cases k with
    | zero =>
      cases hx
      refine ⟨rfl, ?_⟩
      show H1[H.size]? = some (vp_cell _ _)
      rw [z2, vp_cell_q]
      unfold ga
      congr 2
      funext i
      by_cases c : i < N
      · rw [if_pos c, if_pos c]; rfl
      · rw [if_neg c, if_neg c]; rfl
    | succ j =>
      rw [List.getElem?_cons_succ, List.getElem?_map] at hx
      have hj : j < N := by
        rcases Nat.lt_or_ge j N with h | h
        · exact h
        · rw [List.getElem?_eq_none (by rw [List.length_range]; exact h)] at hx; cases hx
      rw [List.getElem?_range hj] at hx
      cases hx
      refine ⟨by show H.size + 1 + j = H.size + (j + 1); omega, ?_⟩
      show H1[H.size + 1 + j]? = some (vp_cell _ _)
      rw [z3 j hj]; rfl) z4
  refine kk H.size H1 _ key.1 key.2 ⟨Nat.le_trans hS.1 (by omega), fun x h1 h2 => (z4 x (Nat.lt_of_lt_of_le h1 hS.1)).trans (hS.2.1 x h1 h2), fun l hl => ?_⟩
  rcases List.mem_append.mp hl with h | h
  · exact hS.2.2 l h
  · obtain ⟨j, -, rfl⟩ := List.mem_map.mp h
    exact hA _ (Nat.le_refl _)
/-- a field, in the constructor -/
theorem pC {ci N idx : Nat} {C : String} {T : u_T} {fs : List Value} {v : Value} {a : Nat} {lw' : va_W} (j k : Nat) (S : CallFix p m c cc nL s args BW own) (X0 : GX D ct N0 F s) (hP : va_P D vcl (B ++ lw) H) (hD : va_D (fr N0) (B ++ lw)) (hS : va_S (fr N0) s.heap H locs) (hmn : meth.name = "<init>") (ty0 : Nat → FieldType) (hty : ∀ k, k < N → parseFieldDescriptor (T k).2.2.1 = some (ty0 k)) (hnm : ∀ a, a < N → ∀ b, b < N → a ≠ b → (T a).2.1 ≠ (T b).2.1)
    (hc : vcl[ci]? = some (C, T, N)) (hin : ∀ w ∈ u_ws C T N, w ∈ BW) (hl : Cond.fieldLink own idx C (T k).2.1 (T k).2.2.1 ∈ BW) (he : lw[j]? = some (a, .inr (ci, fs))) (hw : lw.set j (a, .inr (ci, fs.set k v)) = lw') (hk : k < N) (hs : (T k).1 = C) (ho : C = own) (hn : narrow (ty0 k) v = v) (hfit : fits (ty0 k) v = true) (hlen : k < fs.length) (hdg : decode cc pc = .ok (.putfield idx, 3))
    (kk : ∀ (H : Heap) (locs : List Loc), va_P D vcl (B ++ lw') H → va_D (fr N0) (B ++ lw') → va_S (fr N0) s.heap H locs → W p l e R s m args below meth c H locs cells slots Q (F0 m (pc + 3) ls rest)) : W p l e R s m args below meth c H locs cells slots Q (F0 m pc ls (v :: .ref a :: rest)) := by
  by_cases hfin : (T k).2.2.2 = true
  · exact va_putF (D := D) S.1 S.2.1 S.2.2.2.2 hin ty0 hty hnm S.2.2.2.1 X0.1 hP hD hS (B.length + j) (at_B he) hc k hk (S.2.2.2.2 _ hl) (fun x h => hs ▸ h) hfin hmn (hs.trans ho) (hty k hk) hn hfit hlen hdg (fun H1 locs1 h1 h2 h3 => kk H1 locs1 (by rw [set_B hw] at h1; exact h1) (by rw [set_B hw] at h2; exact h2) h3)
  · exact va_put (D := D) S.1 S.2.1 S.2.2.2.2 hin ty0 hty hnm S.2.2.2.1 X0.1 hP hD hS (B.length + j) (at_B he) hc k hk (S.2.2.2.2 _ hl) (fun x h => hs ▸ h) (by simpa using hfin) (hty k hk) hn hfit hlen hdg (fun H1 locs1 h1 h2 h3 => kk H1 locs1 (by rw [set_B hw] at h1; exact h1) (by rw [set_B hw] at h2; exact h2) h3)
/-- a field read -/
theorem gC {ci N idx : Nat} {C : String} {T : u_T} {fs : List Value} {v : Value} {a : Nat} (j k : Nat) (S : CallFix p m c cc nL s args BW own) (X0 : GX D ct N0 F s) (hP : va_P D vcl (B ++ lw) H) (hc : vcl[ci]? = some (C, T, N)) (hin : ∀ w ∈ u_ws C T N, w ∈ BW) (hl : Cond.fieldLink own idx C (T k).2.1 (T k).2.2.1 ∈ BW) (he : lw[j]? = some (a, .inr (ci, fs))) (hk : k < N) (hs : (T k).1 = C) (hv : fs[k]? = some v) (hdg : decode cc pc = .ok (.getfield idx, 3))
    (kk : W p l e R s m args below meth c H locs cells slots Q (F0 m (pc + 3) ls (v :: rest))) : W p l e R s m args below meth c H locs cells slots Q (F0 m pc ls (.ref a :: rest)) :=
  va_get (D := D) S.1 S.2.1 S.2.2.2.2 hin S.2.2.2.1 X0.1 hP (B.length + j) (at_B he) hc k hk (S.2.2.2.2 _ hl) (fun x h => hs ▸ h) hv hdg kk
/-- a reference put into a row -/
theorem aC {ci n v a t0 jn : Nat} {cA : ClassId} {r : vw_C} {vs : List Value} {f : Nat → Option Nat} {i : Int32} {lw' : va_W} (j jv : Nat) (S : CallFix p m c cc nL s args BW own) (X0 : GX D ct N0 F s) (hP : va_P D vcl (B ++ lw) H) (hD : va_D (fr N0) (B ++ lw)) (hS : va_S (fr N0) s.heap H locs) (he : lw[j]? = some (a, .inl (cA, n, .inr (.inr (.inr (.inr f)))))) (ht : (tysF ct)[t0]? = some (cA, .object r.1)) (hv : lw[jv]? = some (v, .inr (ci, vs))) (hc : vcl[ci]? = some r) (hi : i = nI jn) (hj : jn < n) (hn : n ≤ 1000)
    (hw : lw.set j (a, .inl (cA, n, .inr (.inr (.inr (.inr (va_up f jn (some v))))))) = lw') (hdg : decode cc pc = .ok (.aastore, 1))
    (kk : ∀ (H : Heap) (locs : List Loc), va_P D vcl (B ++ lw') H → va_D (fr N0) (B ++ lw') → va_S (fr N0) s.heap H locs → W p l e R s m args below meth c H locs cells slots Q (F0 m (pc + 1) ls rest)) : W p l e R s m args below meth c H locs cells slots Q (F0 m pc ls (.ref v :: .int i :: .ref a :: rest)) := by
  obtain ⟨h1, h2⟩ := ix hi hj hn
  refine va_astq (D := D) S.1 S.2.1 X0.1 hP hD hS (B.length + j) t0 (B.length + jv) ci (at_B he) ht (at_B hv) hc h1 hdg ?_
  rw [h2]
  intro H1 locs1 g1 g2 g3
  exact kk H1 locs1 (by rw [set_B hw] at g1; exact g1) (by rw [set_B hw] at g2; exact g2) g3
/-- a constructor is called: a nest mate's private one, and an open one -/
theorem iN {y : MethodName} {bs : ByteArray} {n d k ms idx : Nat} {host : String} {L : (Nat → Nat) → va_W} (S : CallFix p m c cc nL s args BW own) (X0 : GX D ct N0 F s) (hM : MC l y bs n d k ms D ct N0 F B q c0 L) (ok : CKI y bs n) (hl : Cond.methodLinkNest own idx y host ∈ nestL) (hP : va_P D vcl (B ++ [(q, c0)]) H) (hD : va_D (fr N0) (B ++ [(q, c0)])) (hS : va_S (fr N0) s.heap H locs) (hls : ls.size = nL) (hR : d + 1 ≤ R.frames ∧ 32 * d + 32 ≤ R.locals) (hrest : (rest.map fun v => v.category).sum ≤ 8) (hcs : cells + k ≤ R.cells ∧ slots + ms ≤ R.slots) (hdg : decode cc pc = .ok (.invokespecial idx, 3))
    (kk : ∀ (f : Nat → Nat) (H : Heap) (locs : List Loc), f 0 = q → va_P D vcl (B ++ L f) H → va_D (fr N0) (B ++ L f) → va_S (fr N0) s.heap H locs → W p l e R s m args below meth c H locs (cells + k) (slots + ms) Q (F0 m (pc + 3) ls rest)) : W p l e R s m args below meth c H locs cells slots Q (F0 m pc ls (.ref q :: rest)) := by
  have hG : GoodIn BW (wy y bs n none) := by
    intro w hw
    rcases List.mem_cons.mp hw with rfl | hw
    · exact gd ok.2.2.1 ok.2.2.1
    · exact gd hw hw
  refine va_callv (va_runIN (As := []) (rest := rest) S hM ⟨va_cnB 0 S.2.2.2.2 hG rfl rfl rfl (X0.2.2.1 _ hl) (S.2.2.2.2 _ ok.2.1) ok.2.2.2.1 ⟨hR.1, ?_⟩, ok.2.2.2.2.2, S.2.2.2.2 _ ok.1⟩ ⟨GX.blind, fun U hU hW => ⟨rfl, X0.at hS hU hW, by rw [hU]; exact ⟨hP, hD⟩⟩⟩ rfl rfl hls rfl (lv_room hrest) hdg ⟨hcs.1, hcs.2⟩) hS (fun q _ h => h) (fun q h => h) (fun u t H1 locs1 ht _ hp hB _ _ hS1 => ?_)
  · have := ok.2.2.2.2.1
    show 8 + (n + 11) + 32 * d ≤ R.locals
    omega
  · exact kk u H1 locs1 hp (by rw [← ht]; exact hB.1) hB.2 hS1
theorem iP {y : MethodName} {bs : ByteArray} {n d k ms idx : Nat} {L : (Nat → Nat) → va_W} (S : CallFix p m c cc nL s args BW own) (X0 : GX D ct N0 F s) (hM : MC l y bs n d k ms D ct N0 F B q c0 L) (ok : CKI y bs n) (hl : Cond.methodLink own idx y ∈ BW) (hP : va_P D vcl (B ++ [(q, c0)]) H) (hD : va_D (fr N0) (B ++ [(q, c0)])) (hS : va_S (fr N0) s.heap H locs) (hls : ls.size = nL) (hR : d + 1 ≤ R.frames ∧ 32 * d + 32 ≤ R.locals) (hrest : (rest.map fun v => v.category).sum ≤ 8) (hcs : cells + k ≤ R.cells ∧ slots + ms ≤ R.slots) (hdg : decode cc pc = .ok (.invokespecial idx, 3))
    (kk : ∀ (f : Nat → Nat) (H : Heap) (locs : List Loc), f 0 = q → va_P D vcl (B ++ L f) H → va_D (fr N0) (B ++ L f) → va_S (fr N0) s.heap H locs → W p l e R s m args below meth c H locs (cells + k) (slots + ms) Q (F0 m (pc + 3) ls rest)) : W p l e R s m args below meth c H locs cells slots Q (F0 m pc ls (.ref q :: rest)) := by
  have hG : GoodIn BW (wy y bs n none) := by
    intro w hw
    rcases List.mem_cons.mp hw with rfl | hw
    · exact gd ok.2.2.1 ok.2.2.1
    · exact gd hw hw
  refine va_callv (va_runI (As := []) (rest := rest) S hM (cwI 0 S.2.2.2.2 hG rfl rfl rfl (S.2.2.2.2 _ ok.2.1) (S.2.2.2.2 _ hl) (S.2.2.2.2 _ ok.1) ok.2.2.2.2.2 ok.2.2.2.1 ⟨hR.1, ?_⟩) ⟨GX.blind, fun U hU hW => ⟨rfl, X0.at hS hU hW, by rw [hU]; exact ⟨hP, hD⟩⟩⟩ rfl rfl hls rfl (lv_room hrest) hdg ⟨hcs.1, hcs.2⟩) hS (fun q _ h => h) (fun q h => h) (fun u t H1 locs1 ht _ hp hB _ _ hS1 => ?_)
  · have := ok.2.2.2.2.1
    show 8 + (n + 11) + 32 * d ≤ R.locals
    omega
  · exact kk u H1 locs1 hp (by rw [← ht]; exact hB.1) hB.2 hS1
end CRR

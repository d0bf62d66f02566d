/-! the law's own arrays (long[1] and double[1]) at the world's end -/
abbrev outX (ct : Nat → ClassId) (qo qd : Nat) (v : Nat → Int64) (w : Nat → UInt64) : va_W := [(qo, .inl (ct 6, 1, .inr (.inl v))), (qd, .inl (ct 7, 1, .inr (.inr (.inr (.inl w)))))]
theorem va_D_fst {A : Nat → Prop} {ws ws' : va_W} (h : va_D A ws) (e : ws.map Prod.fst = ws'.map Prod.fst) : va_D A ws' := by
  have k : ∀ (i : Nat) (q : Nat × va_E), ws'[i]? = some q → ∃ q', ws[i]? = some q' ∧ q'.1 = q.1 := fun i q hq => by
    have h1 : (ws.map Prod.fst)[i]? = some q.1 := by rw [e, List.getElem?_map, hq]; rfl
    rw [List.getElem?_map] at h1
    cases c : ws[i]? with
    | none => rw [c] at h1; cases h1
    | some q' => rw [c] at h1; exact ⟨q', rfl, Option.some.inj h1⟩
  refine ⟨fun i j p q hp hq hpq => ?_, fun i q hq => ?_⟩
  · obtain ⟨p', p1, p2⟩ := k i p hp
    obtain ⟨q', q1, q2⟩ := k j q hq
    exact h.1 i j p' q' p1 q1 (by rw [p2, q2, hpq])
  · obtain ⟨q', q1, q2⟩ := k i q hq
    rw [← q2]; exact h.2 i q' q1
section OXR
variable {p : Program} {l : Launch} {e : Env} {R : Room} {s : State} {m : MethodId} {args : Array Value} {below : List Frame} {meth : Method} {c : Code} {H : Heap} {locs : List Loc} {cells slots : Nat} {Q : State → Prop}
variable {cc : ByteArray} {nL : Nat} {own : String} {pc : Nat} {ls : Array Slot} {rest : List Value}
variable {D : va_G} {ct : Nat → ClassId} {ek ad cs : Nat → Nat} {N0 qo qd : Nat} {F : State → Prop} {σ : Mem} {v v' : Nat → Int64} {w w' : Nat → UInt64}
theorem GI.x (h : GI D ct ek ad N0 (outX ct qo qd v w) F s) : GI D ct ek ad N0 (outX ct qo qd v' w') F s := by
  obtain ⟨h1, h2, h3⟩ := h
  exact ⟨h1, va_D_fst h2 (by rw [List.map_append, List.map_append]; rfl), h3⟩
theorem wl_o : (wl ct ek ad σ ++ outX ct qo qd v w)[286]? = some (qo, .inl (ct 6, 1, .inr (.inl v))) := by
  rw [List.getElem?_append_right (by rw [wl_len]; omega), wl_len]; rfl
theorem wl_od : (wl ct ek ad σ ++ outX ct qo qd v w)[287]? = some (qd, .inl (ct 7, 1, .inr (.inr (.inr (.inl w))))) := by
  rw [List.getElem?_append_right (by rw [wl_len]; omega), wl_len]; rfl
theorem wl_os : (wl ct ek ad σ ++ outX ct qo qd v w).set 286 (qo, .inl (ct 6, 1, .inr (.inl v'))) = wl ct ek ad σ ++ outX ct qo qd v' w := by
  rw [List.set_append_right _ _ (by rw [wl_len]; omega), wl_len]; rfl
theorem wl_ods : (wl ct ek ad σ ++ outX ct qo qd v w).set 287 (qd, .inl (ct 7, 1, .inr (.inr (.inr (.inl w'))))) = wl ct ek ad σ ++ outX ct qo qd v w' := by
  rw [List.set_append_right _ _ (by rw [wl_len]; omega), wl_len]; rfl
/-- out[0] = x, and reading it -/
theorem ost (S : CallFix p m c cc nL s args BW own) (G : GI D ct ek ad N0 (outX ct qo qd v w) F s) (hP : wP D ct ek ad (outX ct qo qd v w) σ H) (hS : va_S (fr N0) s.heap H locs) {x : Int64} (hdg : decode cc pc = .ok (.lastore, 1))
    (kk : ∀ (H : Heap) (locs : List Loc), wP D ct ek ad (outX ct qo qd (vp_updL v 0 x) w) σ H → va_S (fr N0) s.heap H locs → W p l e R s m args below meth c H locs cells slots Q (F0 m (pc + 1) ls rest)) : W p l e R s m args below meth c H locs cells slots Q (F0 m pc ls (.long x :: .int 0 :: .ref qo :: rest)) := by
  refine va_last (D := D) S.1 S.2.1 G.1 hP (G.dom σ) hS 286 6 wl_o rfl (pk_in 0 1 (by decide) nI_0.symm) hdg ?_
  intro H1 locs1 h3 _ h5
  rw [wl_os] at h3
  exact kk H1 locs1 h3 h5
theorem old (S : CallFix p m c cc nL s args BW own) (G : GI D ct ek ad N0 (outX ct qo qd v w) F s) (hP : wP D ct ek ad (outX ct qo qd v w) σ H) (hdg : decode cc pc = .ok (.laload, 1))
    (kk : W p l e R s m args below meth c H locs cells slots Q (F0 m (pc + 1) ls (.long (v 0) :: rest))) : W p l e R s m args below meth c H locs cells slots Q (F0 m pc ls (.int 0 :: .ref qo :: rest)) :=
  va_lald (D := D) S.1 S.2.1 G.1 hP 286 6 wl_o rfl (pk_in 0 1 (by decide) nI_0.symm) hdg kk
theorem odst (S : CallFix p m c cc nL s args BW own) (G : GI D ct ek ad N0 (outX ct qo qd v w) F s) (hP : wP D ct ek ad (outX ct qo qd v w) σ H) (hS : va_S (fr N0) s.heap H locs) {x : UInt64} (hdg : decode cc pc = .ok (.dastore, 1))
    (kk : ∀ (H : Heap) (locs : List Loc), wP D ct ek ad (outX ct qo qd v (vf_upd w 0 x)) σ H → va_S (fr N0) s.heap H locs → W p l e R s m args below meth c H locs cells slots Q (F0 m (pc + 1) ls rest)) : W p l e R s m args below meth c H locs cells slots Q (F0 m pc ls (.double x :: .int 0 :: .ref qd :: rest)) := by
  refine va_dast (D := D) S.1 S.2.1 G.1 hP (G.dom σ) hS 287 7 wl_od rfl (pk_in 0 1 (by decide) nI_0.symm) hdg ?_
  intro H1 locs1 h3 _ h5
  rw [show (0 : Int32).toNatClampNeg = 0 from rfl, wl_ods] at h3
  exact kk H1 locs1 h3 h5
theorem odld (S : CallFix p m c cc nL s args BW own) (G : GI D ct ek ad N0 (outX ct qo qd v w) F s) (hP : wP D ct ek ad (outX ct qo qd v w) σ H) (hdg : decode cc pc = .ok (.daload, 1))
    (kk : W p l e R s m args below meth c H locs cells slots Q (F0 m (pc + 1) ls (.double (w 0) :: rest))) : W p l e R s m args below meth c H locs cells slots Q (F0 m pc ls (.int 0 :: .ref qd :: rest)) :=
  va_dald (D := D) S.1 S.2.1 G.1 hP 287 7 wl_od rfl (pk_in 0 1 (by decide) nI_0.symm) hdg kk
end OXR
/-- a body with handlers that throws nothing itself -/
theorem ofWH {l : Launch} {y : MethodName} {ws ws' : List Cond} {rm : Room} {Pc : Array Value → State → Prop} {Qc : Array Value → State → Outcome → State → Prop} {mc ms : Nat} {free : Addr → Prop} {cc : ByteArray} {maxL : Nat} {ret : Option FieldType} {hh : List (Nat × Nat × Nat × Nat)}
    (hy : plainName y.cls = true) (hw : ws = Cond.codeWith y cc maxL ret hh :: ws')
    (body : ∀ p e s m args below meth c s₁, BodyLoose p l y (headSpec ws rm) cc maxL ret e s m args below meth c s₁ → c.maxLocals = maxL → Pc args s →
      W p l e (headSpec ws rm).room s m args below meth c s.heap [] 0 0 (MQ below Qc args s mc ms free) (entryFrame m args maxL)) : Met l y ws rm Pc Qc mc ms free := by
  refine MetFree.of_bodyS (code := cc) (maxLocals := maxL) (ret := ret) hy ?_ ?_
  · intro args s m h hn
    obtain ⟨m9, meth, c, hn9, h1, h2, h3, h4, -, h5, h6, -⟩ := Cond.codeWith_spec (atoms_spec (ws := ws) h _ (by rw [hw]; exact List.mem_cons_self))
    cases hn.symm.trans hn9
    exact ⟨meth, c, h1, h2, h3, h4, h5, h6⟩
  · intro p e s m args below meth c s₁ B hml hP _
    have hh0 : s₁.heap = s.heap := by rw [B.state]; rfl
    obtain ⟨t, a1, o, b1, b2, b3⟩ := body p e s m args below meth c s₁ B hml hP s₁ hh0 (Stand.of_body B)
    exact ⟨t, o, a1, b1, b2, b3⟩

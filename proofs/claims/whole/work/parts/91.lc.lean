/-! the law's own calls: of its helpers, and of the reference -/
def CKL (y : MethodName) (cc : ByteArray) (n : Nat) (hh : List (Nat × Nat × Nat × Nat)) (k : Nat) : Prop :=
  Cond.static y ∈ BW ∧ Cond.initialized y.cls ∈ BW ∧ Cond.codeWith y cc n (some .int) hh ∈ BW ∧ (y.cls ≠ "java/lang/invoke/MethodHandle" ∧ y.cls ≠ "java/lang/invoke/VarHandle" ∧ (parseMethodDescriptor y.desc).map (fun d => d.parameters.length) = some k) ∧ n ≤ 13
section LCR
variable {p : Program} {l : Launch} {e : Env} {R : Room} {s : State} {m : MethodId} {args : Array Value} {below : List Frame} {meth : Method} {c : Code} {H : Heap} {locs : List Loc} {cells slots : Nat} {Q : State → Prop}
variable {cc : ByteArray} {nL : Nat} {own : String} {pc : Nat} {ls : Array Slot} {rest : List Value}
variable {D : va_G} {ct : Nat → ClassId} {ek ad cs : Nat → Nat} {N0 qo qd : Nat} {F : State → Prop} {σ : Mem} {v : Nat → Int64} {w : Nat → UInt64}
/-- a helper is called -/
theorem cSL {idx n kp d k : Nat} {y : MethodName} {bs : ByteArray} {hh : List (Nat × Nat × Nat × Nat)} {As st : List Value} {post : Int32 → Mem × (Nat → Int64) × (Nat → UInt64) → Prop} (S : CallFix p m c cc nL s args BW own) (G : GI D ct ek ad N0 (outX ct qo qd v w) F s) (hM : ML l y bs n hh d k D ct ek ad N0 qo qd F As σ v w post) (ok : CKL y bs n hh kp) (hl : Cond.methodLink own idx y ∈ BW)
    (hP : wP D ct ek ad (outX ct qo qd v w) σ H) (hS : va_S (fr N0) s.heap H locs) (hls : ls.size = nL) (hR : d + 1 ≤ R.frames ∧ 32 * d + 32 ≤ R.locals) (hk : As.length = kp) (hst : st = As.reverse ++ rest) (hrest : (rest.map fun v => v.category).sum ≤ 8) (hcs : cells + k ≤ R.cells ∧ slots + 6 * k ≤ R.slots) (hdg : decode cc pc = .ok (.invokestatic idx, 3))
    (kk : ∀ (r : Int32) (τ : Mem) (v' : Nat → Int64) (w' : Nat → UInt64) (H : Heap) (locs : List Loc), post r (τ, v', w') → wP D ct ek ad (outX ct qo qd v' w') τ H → va_S (fr N0) s.heap H locs → W p l e R s m args below meth c H locs (cells + k) (slots + 6 * k) Q (F0 m (pc + 3) ls (.int r :: rest))) : W p l e R s m args below meth c H locs cells slots Q (F0 m pc ls st) := by
  subst hst
  have hG : GoodIn BW (va_wsS own idx y (Cond.codeWith y bs n (some .int) hh :: BW)) := by
    intro w hw
    unfold va_wsS at hw
    simp only [List.mem_append, List.mem_cons, List.not_mem_nil, or_false] at hw
    rcases hw with (rfl | rfl | rfl) | rfl | hw
    · exact gd hl hl
    · exact gd ok.1 ok.1
    · exact gd ok.2.1 ok.2.1
    · exact gd ok.2.2.1 ok.2.2.1
    · exact gd hw hw
  refine va_calli (vx_runSW (As := As) (rest := rest) S hM (vx_cwSW kp S.2.2.2.2 hG rfl rfl rfl ok.2.2.2.1 ⟨hR.1, ?_⟩) ⟨GI.blind, fun U hU hW => ⟨rfl, G.at hS hU hW, by rw [hU]; exact hP⟩⟩ rfl hk hls rfl (lv_room hrest) hdg hcs) hS (fun q _ h => h) (fun q h => h) (fun r u t H1 locs1 ht _ hp hB _ _ hS1 => ?_)
  · have := ok.2.2.2.2
    show 8 + (n + 11) + 32 * d ≤ R.locals
    omega
  · exact kk r u.1 u.2.1 u.2.2 H1 locs1 hp (by rw [← ht]; exact hB) hS1
end LCR
section LCR2
variable {p : Program} {l : Launch} {e : Env} {R : Room} {s : State} {m : MethodId} {args : Array Value} {below : List Frame} {meth : Method} {c : Code} {H : Heap} {locs : List Loc} {cells slots : Nat} {Q : State → Prop}
variable {cc : ByteArray} {nL : Nat} {own : String} {pc : Nat} {ls : Array Slot} {rest : List Value}
variable {D : va_G} {ct : Nat → ClassId} {ek ad cs : Nat → Nat} {N0 : Nat} {X : va_W} {F : State → Prop} {σ : Mem}
/-- a method that throws nothing is called by the law -/
theorem cVL {C : String} {idx kp ci N n d : Nat} {y : MethodName} {bs : ByteArray} {ret : Option FieldType} {T : u_T} {fs As st : List Value} {post : Int32 → Mem → Prop} (S : CallFix p m c cc nL s args BW own) (G : GI D ct ek ad N0 X F s) (b : Nat) (hM : MI l y bs n ret d D ct ek ad N0 X F (.ref (ad b) :: As) σ post) (ok : COK C y bs n ret kp) (hl : Cond.methodLink own idx y ∈ BW)
    (hb : b < 286) (he : cellF ct ek ad b (σ b) = .inr (ci, fs)) (hc : vcl[ci]? = some (C, T, N)) (hP : wP D ct ek ad X σ H) (hS : va_S (fr N0) s.heap H locs) (hls : ls.size = nL) (hR : d + 1 ≤ R.frames ∧ 32 * d + 32 ≤ R.locals) (hk : As.length = kp) (hst : st = As.reverse ++ .ref (ad b) :: rest) (hrest : (rest.map fun v => v.category).sum ≤ 8) (hcs : cells ≤ R.cells ∧ slots ≤ R.slots) (hdg : decode cc pc = .ok (.invokevirtual idx, 3))
    (kk : ∀ (r : Int32) (τ : Mem) (H : Heap) (locs : List Loc), post r τ → wP D ct ek ad X τ H → va_S (fr N0) s.heap H locs → W p l e R s m args below meth c H locs cells slots Q (F0 m (pc + 3) ls (.int r :: rest))) : W p l e R s m args below meth c H locs cells slots Q (F0 m pc ls st) := by
  subst hst
  refine va_calli (va_runV (As := As) (rest := rest) S hM (cwV kp S.2.2.2.2 (gBV ok hl) rfl rfl rfl ok.2.2.2.2.1 ⟨hR.1, ?_⟩) ⟨GI.blind, va_recv G.1 hP hc ((wl_at hb).trans (congrArg (fun z => some (ad b, z)) he)), fun U hU hW => ⟨rfl, G.at hS hU hW, by rw [hU]; exact hP⟩⟩ rfl hk hls rfl (lv_room hrest) hdg ⟨hcs.1, hcs.2⟩) hS (fun q _ h => h) (fun q h => h) (fun r u t H1 locs1 ht _ hp hB _ _ hS1 => ?_)
  · have := ok.2.2.2.2.2
    show 8 + (n + 11) + 32 * d ≤ R.locals
    omega
  · exact kk r u H1 locs1 hp (by rw [← ht]; exact hB) hS1
end LCR2

/-! the law's loop: rows that its cases share -/
abbrev lvB (b : Nat) (ad : Nat → Nat) (qo qd : Nat) (i : Nat) : List (Nat × Value) := [(5, .int (nI i)), (0, .ref b), (1, .ref (ad 0)), (2, .ref (ad 276)), (3, .ref qo), (4, .ref qd)]
/-- what holds at every turn of the loop -/
abbrev LWC (p : Program) (l : Launch) (R : Room) (s : State) (m : MethodId) (args : Array Value) (c : Code) (ek cs : Nat → Nat) (N0 : Nat) (F : State → Prop) (b L : Nat) (xs : Nat → Int32) : Prop :=
  CallFix p m c cL_law 9 s args BW RL ∧ l.stackTraces = false ∧ (∀ U, F U → FX ek cs N0 U) ∧ (∀ U, F U → FY U) ∧ va_X b L xs s s.heap ∧ b < s.heap.size ∧ ¬ fr N0 b ∧ L ≤ 2048 ∧ 40 ≤ R.frames ∧ 2000 ≤ R.locals
/-- the loop goes on behind a case -/
abbrev LWK (p : Program) (l : Launch) (e : Env) (R : Room) (s : State) (m : MethodId) (args : Array Value) (below : List Frame) (meth : Method) (c : Code) (cells slots : Nat) (Q : State → Prop) (D : va_G) (ct : Nat → ClassId) (ek ad : Nat → Nat) (N0 qo qd b i : Nat) : Prop :=
  ∀ (τ : Mem) (v' : Nat → Int64) (w' : Nat → UInt64) (H : Heap) (locs : List Loc) (ls : Array Slot), CRel τ τ → wP D ct ek ad (outX ct qo qd v' w') τ H → va_S (fr N0) s.heap H locs → lv_has ls 9 (lvB b ad qo qd i) → W p l e R s m args below meth c H locs (cells + 3) (slots + 18) Q (F0 m 2363 ls [])
section LLR
variable {p : Program} {l : Launch} {e : Env} {R : Room} {s : State} {m : MethodId} {args : Array Value} {below : List Frame} {meth : Method} {c : Code} {H : Heap} {locs : List Loc} {cells slots : Nat} {Q : State → Prop}
variable {cc : ByteArray} {nL : Nat} {own : String} {pc : Nat} {ls : Array Slot} {rest : List Value}
variable {D : va_G} {ct : Nat → ClassId} {ek ad cs : Nat → Nat} {N0 qo qd : Nat} {F : State → Prop} {σ : Mem} {v : Nat → Int64} {w : Nat → UInt64} {b L : Nat} {xs : Nat → Int32}
/-- a number of the script -/
theorem lsc {i k : Nat} {kz : Int} (S : CallFix p m c cc nL s args BW own) (hX : va_X b L xs s s.heap) (hbl : b < s.heap.size) (hbN : ¬ fr N0 b) (hS : va_S (fr N0) s.heap H locs) (hk : i + k < L) (hL : L ≤ 2048) (h0 : ls[0]? = some (.val (.ref b))) (h5 : ls[5]? = some (.val (.int (nI i)))) (hz : Int32.ofInt kz = nI k)
    (d : decode cc pc = .ok (.aload_n 0, 1) ∧ decode cc (pc + 1) = .ok (.iload 5, 2) ∧ decode cc (pc + 3) = .ok (.iconst kz, 1) ∧ decode cc (pc + 4) = .ok (.iadd, 1) ∧ decode cc (pc + 5) = .ok (.iaload, 1))
    (kk : W p l e R s m args below meth c H locs cells slots Q (F0 m (pc + 6) ls (.int (xs (i + k)) :: rest))) : W p l e R s m args below meth c H locs cells slots Q (F0 m pc ls rest) := by
  have hx := S.1
  have hb := S.2.1
  obtain ⟨d0, d1, d3, d4, d5⟩ := d
  refine lv_aload_n hx hb d0 rfl h0 ?_
  refine lv_iload hx hb d1 h5 ?_
  refine lv_iconst hx hb d3 hz ?_
  refine lv_iadd hx hb d4 ?_
  refine lv_tope (nI_add i k) ?_
  refine va_sld hx hb hX hbl hbN hS (vp_in_nI hk (by omega)) d5 ?_
  rw [nI_clamp (by omega)]
  exact kk
/-- whether a number is not 0 -/
theorem lbo {x : Int32} (S : CallFix p m c cc nL s args BW own) (d : decode cc pc = .ok (.ifCond .eq 7, 3) ∧ decode cc (pc + 3) = .ok (.iconst 1, 1) ∧ decode cc (pc + 4) = .ok (.goto 4, 3) ∧ decode cc (pc + 7) = .ok (.iconst 0, 1))
    (kk : W p l e R s m args below meth c H locs cells slots Q (F0 m (pc + 8) ls (.int (if x = 0 then 0 else 1) :: rest))) : W p l e R s m args below meth c H locs cells slots Q (F0 m pc ls (.int x :: rest)) := by
  have hx := S.1
  have hb := S.2.1
  obtain ⟨d0, d3, d4, d7⟩ := d
  refine lv_if_eq (tgt := pc + 7) hx hb d0 (by omega) (fun h => ?_) (fun h => ?_)
  · refine lv_iconst (v := 0) hx hb d7 (by decide) ?_
    rw [if_pos h] at kk; exact kk
  · refine lv_iconst (v := 1) hx hb d3 (by decide) ?_
    refine lv_goto (tgt := pc + 8) hx hb d4 (by omega) ?_
    rw [if_neg h] at kk; exact kk
/-- the end of a case: the reference's number told is the helper's, and so is the answer -/
theorem ltl {i : Nat} {r a : Int32} {g : Int} (S : CallFix p m c cc 9 s args BW RL) (G : GI D ct ek ad N0 (outX ct qo qd v w) F s) (hP : wP D ct ek ad (outX ct qo qd v w) σ H) (hS : va_S (fr N0) s.heap H locs) (hl : lv_has ls 9 ((7, .int a) :: (6, .int r) :: lvB b ad qo qd i)) (hR : 40 ≤ R.frames ∧ 2000 ≤ R.locals) (hcs : cells ≤ R.cells ∧ slots ≤ R.slots) (h1 : σ 276 20 = r) (h2 : r = 0 → v 0 = a.toInt64)
    (d : decode cc pc = .ok (.aload_n 2, 1) ∧ decode cc (pc + 1) = .ok (.invokevirtual 143, 3) ∧ decode cc (pc + 4) = .ok (.iload 6, 2) ∧ decode cc (pc + 6) = .ok (.if_icmp .eq 5, 3) ∧ decode cc (pc + 11) = .ok (.iload 6, 2) ∧ decode cc (pc + 13) = .ok (.ifCond .ne 15, 3) ∧ decode cc (pc + 16) = .ok (.aload_n 3, 1) ∧ decode cc (pc + 17) = .ok (.iconst 0, 1) ∧ decode cc (pc + 18) = .ok (.laload, 1) ∧ decode cc (pc + 19) = .ok (.iload 7, 2) ∧ decode cc (pc + 21) = .ok (.i2l, 1) ∧ decode cc (pc + 22) = .ok (.lcmp, 1) ∧ decode cc (pc + 23) = .ok (.ifCond .eq 5, 3) ∧ decode cc (pc + 28) = .ok (.goto g, 3)) (hg : ((pc + 28 : Nat) : Int) + g = (2363 : Nat))
    (kk : ∀ (H : Heap) (locs : List Loc), wP D ct ek ad (outX ct qo qd v w) σ H → va_S (fr N0) s.heap H locs → lv_has ls 9 (lvB b ad qo qd i) → W p l e R s m args below meth c H locs cells slots Q (F0 m 2363 ls [])) : W p l e R s m args below meth c H locs cells slots Q (F0 m pc ls []) := by
  have hx := S.1
  have hb := S.2.1
  obtain ⟨d0, d1, d4, d6, d11, d13, d16, d17, d18, d19, d21, d22, d23, d28⟩ := d
  refine lv_aload_n hx hb d0 rfl (lv_at hl 5 rfl) ?_
  refine cVL (As := []) S G 276 (c_X11_thrown l σ) ok_yX11_thrown ml_RL_143 (by decide) oM rfl hP hS hl.1 ⟨by omega, by omega⟩ rfl rfl (Nat.le_of_ble_eq_true rfl) hcs d1 (fun r1 τ1 H locs hp hP hS => ?_)
  obtain ⟨p1, p2⟩ := hp
  rw [p2] at hP
  refine lv_iload hx hb d4 (lv_at hl 1 rfl) ?_
  refine lv_icmp_eq (tgt := pc + 11) hx hb d6 (by omega) (fun _ => ?_) (fun h => absurd (p1.trans h1) h)
  refine lv_iload hx hb d11 (lv_at hl 1 rfl) ?_
  have hE : W p l e R s m args below meth c H locs cells slots Q (F0 m (pc + 28) ls []) := by
    refine lv_goto (tgt := 2363) hx hb d28 hg ?_
    exact kk H locs hP hS (lv_sub hl [2, 3, 4, 5, 6, 7] rfl)
  refine lv_if_ne (tgt := pc + 28) hx hb d13 (by omega) (fun _ => hE) (fun h0 => ?_)
  refine lv_aload_n hx hb d16 rfl (lv_at hl 6 rfl) ?_
  refine lv_iconst (v := 0) hx hb d17 (by decide) ?_
  refine old S (GI.x G) hP d18 ?_
  refine lv_iload hx hb d19 (lv_at hl 0 rfl) ?_
  refine lv_i2l hx hb d21 rfl ?_
  refine W.lcmp hx hb d22 ?_
  refine lv_if_eq (tgt := pc + 28) hx hb d23 (by omega) (fun _ => hE) (fun h => absurd ?_ h)
  rw [h2 h0]
  unfold lg_cmp
  simp
end LLR
/-! what a case's two calls tell -/
theorem PXd_1 {a E : String} {T : Int32} {P : Mem → Prop} {τ : Mem} (h : PXd [a] T P E τ) : E = a := by
  have := PXd_E h; simpa using this
theorem PXd_2 {a b E : String} {T : Int32} {P : Mem → Prop} {τ : Mem} (h : PXd [a, b] T P E τ) : E = a ∨ E = b := by
  have := PXd_E h; simpa using this
theorem PXd_3 {a b c E : String} {T : Int32} {P : Mem → Prop} {τ : Mem} (h : PXd [a, b, c] T P E τ) : E = a ∨ E = b ∨ E = c := by
  have := PXd_E h; simpa using this
section LLM
variable {σ τ τ2 : Mem} {v v' : Nat → Int64} {w w' : Nat → UInt64} {r T V Tm Vm : Int32} {Es : List String}
/-- a question that changes nothing -/
theorem qA (hN : Es.Nodup) (hl : Es.length ≤ 9) (h : LQ Es v w (fun a τ => τ = σ ∧ T = 0 ∧ a = V) (PXd Es T (fun τ => τ = σ)) r (τ, v', w')) : r = T ∧ τ = σ ∧ (T = 0 → v' 0 = V.toInt64) := by
  obtain ⟨h1, -, h2⟩ := LQ_q (P := fun τ => τ = σ) (P' := fun τ => τ = σ) hN hl h
  rcases h2 with ⟨a, b, c⟩ | ⟨a, b⟩
  · exact ⟨h1, b, fun _ => c⟩
  · exact ⟨h1, b, fun z => absurd z a⟩
theorem qE (C : CRel σ σ) (h1 : r = T) (h3 : T = 0 → v' 0 = V.toInt64) (q : T = Tm ∧ (T = 0 → V = Vm)) : thM σ Tm 276 20 = r ∧ (r = 0 → v' 0 = Vm.toInt64) ∧ CRel (thM σ Tm) (thM σ Tm) := by
  obtain ⟨e1, e2, e3⟩ := th_E (τ1 := σ) (T := Tm)
  refine ⟨e3.trans (q.1.symm.trans h1.symm), fun z => ?_, qc_rel C (fun _ _ => rfl) e1 e2⟩
  have z : T = 0 := h1.symm.trans z
  rw [h3 z, q.2 z]
/-- a question that looks ahead -/
theorem qF (hN : Es.Nodup) (hl : Es.length ≤ 9) {P' : Mem → Prop} (hP' : ∀ τ, P' τ → FcP τ σ) (h : LQ Es v w (fun a τ => FcP τ σ ∧ T = 0 ∧ a = V) (PXd Es T P') r (τ, v', w')) : r = T ∧ FcP τ σ ∧ (T = 0 → v' 0 = V.toInt64) := by
  obtain ⟨h1, -, h2⟩ := LQ_q (P := fun τ => FcP τ σ) (P' := P') hN hl h
  rcases h2 with ⟨a, b, c⟩ | ⟨a, b⟩
  · exact ⟨h1, b, fun _ => c⟩
  · exact ⟨h1, hP' _ b, fun z => absurd z a⟩
theorem FcP_r (h : τ = σ) : FcP τ σ := fun c _ => by rw [h]
theorem qG (C : CRel σ σ) (hF : FcP τ σ) (h1 : r = T) (h3 : T = 0 → v' 0 = V.toInt64) (q : T = Tm ∧ (T = 0 → V = Vm)) (h : QG τ2 τ Tm) : τ2 276 20 = r ∧ (r = 0 → v' 0 = Vm.toInt64) ∧ CRel τ2 τ2 := by
  obtain ⟨e1, e2, e3⟩ := QG_E h
  refine ⟨e3.trans (q.1.symm.trans h1.symm), fun z => ?_, qc_rel C (fun c hc => hF c (by omega)) e1 e2⟩
  have z : T = 0 := h1.symm.trans z
  rw [h3 z, q.2 z]
end LLM

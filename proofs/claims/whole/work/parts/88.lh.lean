/-! the law's helpers: their start, their ends, their handlers -/
abbrev wQl (D : va_G) (ct : Nat → ClassId) (ek ad : Nat → Nat) (N0 qo qd : Nat) (post : Int32 → Mem × (Nat → Int64) × (Nat → UInt64) → Prop) : Array Value → State → Outcome → State → Prop :=
  va_Qi post (fun u t => wP D ct ek ad (outX ct qo qd u.2.1 u.2.2) u.1 t.heap) (fr N0)
abbrev ML (l : Launch) (y : MethodName) (cc : ByteArray) (n : Nat) (hh : List (Nat × Nat × Nat × Nat)) (d k : Nat) (D : va_G) (ct : Nat → ClassId) (ek ad : Nat → Nat) (N0 qo qd : Nat) (F : State → Prop) (As : List Value) (σ : Mem) (v : Nat → Int64) (w : Nat → UInt64) (post : Int32 → Mem × (Nat → Int64) × (Nat → UInt64) → Prop) : Prop :=
  Met l y (Cond.codeWith y cc n (some .int) hh :: BW) (rmd d k (6 * k)) (wPc D ct ek ad N0 (outX ct qo qd v w) F As σ) (wQl D ct ek ad N0 qo qd post) k (6 * k) (fr N0)
section LHR
variable {p : Program} {l : Launch} {e : Env} {R : Room} {s : State} {m : MethodId} {args : Array Value} {below : List Frame} {meth : Method} {c : Code} {H : Heap} {locs : List Loc} {cells slots : Nat} {Q : State → Prop}
variable {cc : ByteArray} {nL : Nat} {own : String} {pc : Nat} {ls : Array Slot} {rest : List Value}
variable {D : va_G} {ct : Nat → ClassId} {ek ad cs : Nat → Nat} {N0 qo qd : Nat} {F : State → Prop} {σ : Mem} {v : Nat → Int64} {w : Nat → UInt64}
theorem ms0L {y : MethodName} {hh : List (Nat × Nat × Nat × Nat)} {d k : Nat} {As : List Value} {post : Int32 → Mem × (Nat → Int64) × (Nat → UInt64) → Prop} (hy : plainName y.cls = true) (ho : y.cls = own) (hlen : (lg_sl As).length ≤ nL)
    (body : ∀ p e s m args below meth c, CallFix p m c cc nL s args BW own → meth.sig.returnType = some .int → meth.locks = false → c.exceptionTable.toList = tableOf hh → GI D ct ek ad N0 (outX ct qo qd v w) F s → wP D ct ek ad (outX ct qo qd v w) σ s.heap → va_S (fr N0) s.heap s.heap [] → ∀ ls, lv_has ls nL (lv_args 0 As) →
      W p l e (rmd d k (6 * k)) s m args below meth c s.heap [] 0 0 (MQ below (wQl D ct ek ad N0 qo qd post) args s k (6 * k) (fr N0)) (F0 m 0 ls [])) :
    ML l y cc nL hh d k D ct ek ad N0 qo qd F As σ v w post := by
  refine ofWH (cc := cc) (maxL := nL) (ret := some .int) (hh := hh) hy rfl ?_
  intro p e s m args below meth c s₁ B hml hv
  obtain ⟨rfl, G, hP⟩ := hv
  have hts := atoms_spec (ws := Cond.codeWith y cc nL (some .int) hh :: BW) B.pre
  have hown : s.vm.findClass own = some m.cls := by rw [← ho]; exact findClass_of_methodNamed B.named
  have hl := lv_entry As (n := nL) hlen
  rw [lg_entry_eq]
  exact body p e s m _ below meth c ⟨B.exec, B.bytes, hml, hown, fun w hw => hts w (List.mem_cons_of_mem _ hw)⟩ B.returns B.notSynchronized (vx_table (x := y) B (hts _ List.mem_cons_self)) G hP va_S.rf _ hl
theorem eL {post : Int32 → Mem × (Nat → Int64) × (Nat → UInt64) → Prop} {r : Int32} {k : Nat} (S : CallFix p m c cc nL s args BW own) (hr : meth.sig.returnType = some .int) (hlocks : meth.locks = false) (hP : wP D ct ek ad (outX ct qo qd v w) σ H) (hS : va_S (fr N0) s.heap H locs) (hcs : cells ≤ k ∧ slots ≤ 6 * k) (hdg : decode cc pc = .ok (.ireturn, 1)) (hp : post r (σ, v, w)) :
    W p l e R s m args below meth c H locs cells slots (MQ below (wQl D ct ek ad N0 qo qd post) args s k (6 * k) (fr N0)) (F0 m pc ls [.int r]) :=
  W.widen hcs.1 hcs.2 (W.iret S.1 S.2.1 hr (fun t ht hW => ⟨⟨r, (σ, v, w), rfl, hp, (congrArg (wP D ct ek ad (outX ct qo qd v w) σ) ht).mpr hP⟩, hS.F ht⟩) hS.2.2 hdg hlocks)
/-- caught by a row of the table; the rows ahead of it name other classes -/
theorem ctch {E : String} {ce : Cell} {q : Addr} {pre suf : List ExceptionTableEntry} {x : ExceptionTableEntry} (S : CallFix p m c cc nL s args BW own) (FZ : FY s) (hT : c.exceptionTable.toList = pre ++ x :: suf) (hpass : ∀ z ∈ pre, z.catchType ≠ 0 ∧ ∃ nm : String, (Cond.classLink own z.catchType nm) ∈ BW ∧ (E, nm) ∈ ncL) (hx : covers x pc = true) (h0 : x.catchType ≠ 0)
    (hl : (Cond.classLink own x.catchType E) ∈ BW) (hc : (Cond.castable E E) ∈ lw_tbl) (hcell : H[q]? = some ce) (hv : ce.vm = .none) (hcl : s.vm.findClass E = some ce.cls)
    (kk : W p l e R s m args below meth c H locs cells slots Q (F0 m x.handlerPc ls [.ref q])) : vx_W p l e R s m args below meth c H locs cells slots Q (F0 m pc ls rest) q :=
  vx_catch (name := E) S.2.2.2.1 pre x suf hT (fun z hz => by
    obtain ⟨h1, nm, h2, h3⟩ := hpass z hz
    exact Or.inr ⟨h1, nm, S.2.2.2.2 _ h2, FZ.2 _ h3⟩) hx h0 (S.2.2.2.2 _ hl) (va_Nw.use (xt_tab rfl) (FZ.1 _ hc rfl)) hcell hv hcl kk
/-- what a helper with the handlers Es answers -/
def LQ (Es : List String) (v : Nat → Int64) (w : Nat → UInt64) (post : Int32 → Mem → Prop) (PX : String → Mem → Prop) (r : Int32) (u : Mem × (Nat → Int64) × (Nat → UInt64)) : Prop :=
  (r = 0 ∧ ∃ a, post a u.1 ∧ u.2 = (vp_updL v 0 a.toInt64, w)) ∨ (∃ i E, Es[i]? = some E ∧ PX E u.1 ∧ r = nI (i + 1) ∧ u.2 = (v, w))
end LHR
set_option maxHeartbeats 1000000 in
set_option maxRecDepth 100000 in
theorem c_L_person (l : Launch) {D : va_G} {ct : Nat → ClassId} {ek ad : Nat → Nat} {N0 qo qd d k : Nat} {F : State → Prop} (hY : ∀ U, F U → FY U) (σ : Mem) (v : Nat → Int64) (w : Nat → UInt64) (x y : Int32) {post : Int32 → Mem → Prop} {PX : String → Mem → Prop}
    (hM : MXi l yX10_person cX10_person 3 (some .int) d k D ct ek ad N0 (outX ct qo qd v w) F (.ref (ad 0) :: [.int x, .int y]) σ post PX) (hE : ∀ E τ, PX E τ → E = eUO) :
    ML l yL_person cL_person 5 [(0, 10, 13, 13)] (d + 1) k D ct ek ad N0 qo qd F [.ref (ad 0), .int x, .int y, .ref qo] σ v w (LQ [eUO] v w post PX) := by
  refine ms0L (own := RL) (by decide) rfl (Nat.le_of_ble_eq_true rfl) (fun p e s m args below meth c S hr hlocks hT G hP hS ls hl => ?_)
  have hx := S.1
  have hb := S.2.1
  have FZ := hY s G.2.2.2.2.2
  replace hl : lv_has ls 5 [(0, .ref (ad 0)), (1, .int x), (2, .int y), (3, .ref qo)] := hl
  refine lv_aload_n hx hb dL_person_0 rfl (lv_at hl 3 rfl) ?_
  refine lv_iconst (v := 0) hx hb dL_person_1 (by decide) ?_
  refine lv_aload_n hx hb dL_person_2 rfl (lv_at hl 0 rfl) ?_
  refine lv_iload_n hx hb dL_person_3 rfl (lv_at hl 1 rfl) ?_
  refine lv_iload_n hx hb dL_person_4 rfl (lv_at hl 2 rfl) ?_
  refine cLi (As := [.int x, .int y]) S G 0 hM ok_yX10_person ml_RL_7 (by decide) oX rfl hP hS hl.1 rfl (Nat.le_refl _) rfl rfl (Nat.le_of_ble_eq_true rfl) ⟨by omega, by omega⟩ dL_person_5 (fun E ce q τ H locs hp hP hS hce hcv hcl => ?_) (fun r τ H locs hp hP hS => ?_)
  · obtain rfl := hE E τ hp
    refine ctch (pre := []) (x := ⟨0, 10, 13, 13⟩) (suf := []) S FZ hT (fun z hz => absurd hz List.not_mem_nil) rfl (by decide) cl_RL_13 (by decide +kernel) hce hcv hcl ?_
    refine lv_astore (lv' := [(4, .ref q), (0, .ref (ad 0)), (1, .int x), (2, .int y), (3, .ref qo)]) hx hb dL_person_13 hl (by decide) rfl (fun ls hl => ?_)
    refine lv_iconst (v := 1) hx hb dL_person_15 (by decide) ?_
    exact eL S hr hlocks hP hS ⟨by omega, by omega⟩ dL_person_16 (Or.inr ⟨0, _, rfl, hp, rfl, rfl⟩)
  · refine lv_i2l hx hb dL_person_8 rfl ?_
    refine ost S G hP hS dL_person_9 (fun H locs hP hS => ?_)
    refine lv_goto (tgt := 17) hx hb dL_person_10 (by decide) ?_
    refine lv_iconst (v := 0) hx hb dL_person_17 (by decide) ?_
    exact eL S hr hlocks hP hS ⟨by omega, by omega⟩ dL_person_18 (Or.inl ⟨rfl, r, hp, rfl⟩)

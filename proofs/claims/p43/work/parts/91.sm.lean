/-! small methods of the law's, and the JDK's bits of numbers with a point (laid by wip/p43/spec_small.py) -/
/-- a body of a class that the model overrides a method of -/
theorem msGF {l : Launch} {y : MethodName} {cc : ByteArray} {nL : Nat} {own : String} {ret : Option FieldType} {d k : Nat} {D : va_G} {ct : Nat → ClassId} {ek ad : Nat → Nat} {N0 : Nat} {X : va_W} {F : State → Prop} {As : List Value} {μ : Mem} {Qc : Array Value → State → Outcome → State → Prop} (hy : plainFor y = true) (ho : y.cls = own) (hlen : (lg_sl As).length ≤ nL)
    (body : ∀ p e s m args below meth c, CallFix p m c cc nL s args BW own → meth.sig.returnType = ret → meth.locks = false → GI D ct ek ad N0 X F s → wG D ct ek ad X μ s.heap → va_S (fr N0) s.heap s.heap [] → ∀ ls, lv_has ls nL (lv_args 0 As) →
      W p l e (rmd d k (6 * k)) s m args below meth c s.heap [] 0 (6 * 0) (MQ below Qc args s k (6 * k) (fr N0)) (F0 m 0 ls [])) :
    MG l y (.code y cc nL ret) d k D ct ek ad N0 X F As μ Qc := by
  refine MetFree.of_bodySF (code := cc) (maxLocals := nL) (ret := ret) hy (fun args s m h hn => ?_) ?_
  · obtain ⟨meth, c, h1, h2, h3, h4, h5, h6, -⟩ := Cond.code_spec hn (atoms_spec (ws := Cond.code y cc nL ret :: BW) h _ List.mem_cons_self)
    exact ⟨meth, c, h1, h2, h3, h4, h5, h6⟩
  · intro p e s m args below meth c s₁ B hml hv _
    obtain ⟨rfl, G, hP⟩ := hv
    have hh0 : s₁.heap = s.heap := by rw [B.state]; rfl
    have hts := atoms_spec (ws := Cond.code y cc nL ret :: BW) B.pre
    have hown : s.vm.findClass own = some m.cls := by rw [← ho]; exact findClass_of_methodNamed B.named
    have hl := lv_entry As (n := nL) hlen
    have key := body p e s m _ below meth c ⟨B.exec, B.bytes, hml, hown, fun w hw => hts w (List.mem_cons_of_mem _ hw)⟩ B.returns B.notSynchronized G hP va_S.rf _ hl
    obtain ⟨t, a1, o, b1, b2, b3⟩ := key s₁ hh0 (Stand.of_body B)
    rw [← lg_entry_eq] at a1
    exact ⟨t, o, a1, b1, b2, b3⟩
def isnD (x : UInt64) : Int32 := if Op.cmpValue (FP.dcmp x x) .l = 0 then 0 else 1
def d2lV (x : UInt64) : Int64 := if isnD x = 0 then x.toInt64 else 9221120237041090560
def isnF (x : UInt32) : Int32 := if Op.cmpValue (FP.fcmp x x) .l = 0 then 0 else 1
def f2iV (x : UInt32) : Int32 := if isnF x = 0 then x.toInt32 else 2143289344
def atV (L : Nat) (xs : Nat → Int32) (k : Nat) : Int32 := if k < L then xs k else 0
def remV (x y : Int32) : Int32 := x - x / y * y
def smV (x y : Int32) : Int32 := if 0 ≤ remV x y then remV x y else remV x y + y
theorem smN {x : Int32} {N : Nat} (h0 : 0 < N) (h1 : N ≤ 1000) : smV x (nI N) = nI (tN (smV x (nI N))) ∧ tN (smV x (nI N)) < N := by
  have hm : (nI N).toInt = N := nI_toInt (by omega)
  have ht : (remV x (nI N)).toInt = x.toInt.tmod N := by
    unfold remV; rw [rem_toInt, hm]
  have hb := tmod_bounds (a := x.toInt) (M := (N : Int)) (by omega)
  have key : ∀ v : Int32, 0 ≤ v.toInt → v.toInt < N → v = nI (tN v) ∧ tN v < N := fun v a b => by
    have e := nI_tn (x := v) (Int32.le_iff_toInt_le.mpr (by simpa using a))
    refine ⟨e, ?_⟩
    show v.toInt.toNat < N
    omega
  unfold smV
  by_cases c : 0 ≤ remV x (nI N)
  · rw [if_pos c]
    have c1 : (0 : Int) ≤ (remV x (nI N)).toInt := by simpa using Int32.le_iff_toInt_le.mp c
    exact key _ c1 (by rw [ht]; exact hb.2)
  · rw [if_neg c]
    have c1 : (remV x (nI N)).toInt < 0 := by
      have := fun z => c (Int32.le_iff_toInt_le.mpr z)
      have h2 : ¬ (0 : Int) ≤ (remV x (nI N)).toInt := fun z => this (by simpa using z)
      omega
    have e : (remV x (nI N) + nI N).toInt = (remV x (nI N)).toInt + N := by
      rw [Int32.toInt_add, hm]
      exact bmod_s (by rw [ht]; omega) (by omega)
    exact key _ (by rw [e, ht]; omega) (by rw [e]; omega)
/-- the script, below N0 -/
def SX (b L : Nat) (xs : Nat → Int32) (N0 : Nat) (U : State) : Prop := va_X b L xs U U.heap ∧ b < U.heap.size ∧ b < N0
theorem SX.stab (b L : Nat) (xs : Nat → Int32) (N0 : Nat) : Stab N0 (SX b L xs N0) := by
  intro U V hW hz hq h
  exact ⟨va_X.moved hW.alike (h.1.kept (hq b h.2.1 (by have := h.2.2; omega))), Nat.lt_of_lt_of_le h.2.1 hz, h.2.2⟩
/-- a reason that is kept -/
def RsK (μ : Mem) (w d c : Int32) : Prop := ¬ w = 0 ∧ μ 276 16 = w ∧ μ 276 17 = d ∧ μ 276 18 = c
theorem RsK.e {μ : Mem} {w d c : Int32} (h : RsK μ w d c) : hA (reaT μ 0) (reaV μ 0) = w ∧ hA (reaT μ 1) (reaV μ 1) = d ∧ hA (reaT μ 2) (reaV μ 2) = c ∧ hA (reaT μ 3) (reaV μ 3) = -1001 := by
  obtain ⟨h0, h1, h2, h3⟩ := h
  have r0 : ¬ rngB 0 0 2 = 0 := by decide
  have r1 : ¬ rngB 1 0 2 = 0 := by decide
  have r2 : ¬ rngB 2 0 2 = 0 := by decide
  have r3 : rngB 3 0 2 = 0 := by decide
  unfold hA reaT reaV
  rw [h1, h2, h3]
  have q1 : ¬ (1 : Int32) = 0 := by decide
  have q2 : ¬ (2 : Int32) = 0 := by decide
  have q3 : ¬ (2 : Int32) = 1 := by decide
  have q4 : (-1000 - 1 : Int32) = -1001 := by decide
  simp only [r0, r1, r2, r3, h0, q1, q2, q3, q4, ↓reduceIte, if_true, if_false, and_self]
/-- the text that is told character by character -/
def txK (μ : Mem) (f : Nat → Int32) (k : Nat) : Mem := fo (fun i a => apeM a i (f i)) μ k
theorem txK_s {μ : Mem} {f : Nat → Int32} {k : Nat} : txK μ f (k + 1) = apeM (txK μ f k) k (f k) := rfl
theorem txK_L {μ : Mem} {f : Nat → Int32} (h0 : gL μ = 0) : ∀ k, k ≤ 60 → gL (txK μ f k) = k
  | 0, _ => h0
  | k + 1, hk => by
    have ih := txK_L (f := f) h0 k (by omega)
    show tN (apeM (txK μ f k) k (f k) 276 11) = k + 1
    have e : apeM (txK μ f k) k (f k) 276 11 = nI (k + 1) := by
      unfold apeM; rw [if_neg (by omega), sg_n (by decide), sg_ss]
    rw [e]; exact tN_nI (by omega)
theorem ap_tx {μ : Mem} {f : Nat → Int32} {k : Nat} (h0 : gL μ = 0) (hk : k < 60) : (apG (txK μ f k) (f k)).1 = nI (k + 1) ∧ (apG (txK μ f k) (f k)).2 = txK μ f (k + 1) := by
  have e := txK_L (f := f) h0 k (by omega)
  unfold apG
  rw [e, if_neg (by omega)]
  exact ⟨rfl, rfl⟩
section GKS
variable {p : Program} {l : Launch} {e : Env} {R : Room} {s : State} {m : MethodId} {args : Array Value} {below : List Frame} {meth : Method} {c : Code} {H : Heap} {locs : List Loc} {cells slots : Nat} {Q : State → Prop}
variable {cc : ByteArray} {nL : Nat} {own : String} {pc : Nat} {ls : Array Slot} {rest : List Value}
variable {D : va_G} {ct : Nat → ClassId} {ek ad cs : Nat → Nat} {N0 : Nat} {X : va_W} {F : State → Prop} {μ : Mem}
/-- a receiver that stays -/
def RCV (D : va_G) (ct : Nat → ClassId) (ek ad : Nat → Nat) (N0 : Nat) (X : va_W) (F : State → Prop) (q : Nat) (C : String) : Prop := ∀ (s : State) (σ : Mem) (H : Heap) (locs : List Loc), GI D ct ek ad N0 X F s → wP D ct ek ad X σ H → va_S (fr N0) s.heap H locs → ∃ cell : Cell, H[q]? = some cell ∧ cell.vm.isStatics = false ∧ s.vm.findClass C = some cell.cls
/-- a call on an object that is no part of the class's world -/
theorem gcK {C : String} {idx k n d q : Nat} {y : MethodName} {bs : ByteArray} {ret : Option FieldType} {As st : List Value} {r0 : Int32} (S : CallFix p m c cc nL s args BW own) (G : GI D ct ek ad N0 X F s) (hM : ∀ σ, MI l y bs n ret d D ct ek ad N0 X F (.ref q :: As) σ (fun r τ => r = r0 ∧ τ = σ)) (ok : COK C y bs n ret k) (hl : Cond.methodLink own idx y ∈ BW)
    (hrc : RCV D ct ek ad N0 X F q C) (hW : wG D ct ek ad X μ H) (hS : va_S (fr N0) s.heap H locs) (hls : ls.size = nL) (hR : d + 1 ≤ R.frames ∧ 32 * d + 32 ≤ R.locals) (hk : As.length = k) (hst : st = As.reverse ++ .ref q :: rest) (hrest : (rest.map fun v => v.category).sum ≤ 8) (hcs : cells ≤ R.cells ∧ slots ≤ R.slots) (hdg : decode cc pc = .ok (.invokevirtual idx, 3))
    (kk : ∀ (H : Heap) (locs : List Loc), wG D ct ek ad X μ H → va_S (fr N0) s.heap H locs → W p l e R s m args below meth c H locs cells slots Q (F0 m (pc + 3) ls (.int r0 :: rest))) : W p l e R s m args below meth c H locs cells slots Q (F0 m pc ls st) := by
  subst hst
  obtain ⟨σ, hP, hC⟩ := hW
  refine va_calli (va_runV (As := As) (rest := rest) S (hM σ) (cwV k S.2.2.2.2 (gBV ok hl) rfl rfl rfl ok.2.2.2.2.1 ⟨hR.1, ?_⟩) ⟨GI.blind, hrc s σ H locs G hP hS, fun U hU hW => ⟨rfl, G.at hS hU hW, by rw [hU]; exact hP⟩⟩ rfl hk hls rfl (lv_room hrest) hdg ⟨hcs.1, hcs.2⟩) hS (fun q _ h => h) (fun q h => h) (fun r u t H1 locs1 ht _ hp hB _ _ hS1 => ?_)
  · have := ok.2.2.2.2.2
    show 8 + (n + 11) + 32 * d ≤ R.locals
    omega
  · obtain ⟨rfl, rfl⟩ := hp
    exact kk H1 locs1 ⟨u, by rw [← ht]; exact hB, hC⟩ hS1
end GKS
theorem cks_yJxe99ae_isNaN_b9ae7 : CKS yJxe99ae_isNaN_b9ae7 cJxe99ae_isNaN_b9ae7 2 (some .boolean) 1 := ⟨sm_yJxe99ae_isNaN_b9ae7, in_RJxe99ae, co_yJxe99ae_isNaN_b9ae7, ⟨by decide +kernel, by decide +kernel, by decide +kernel⟩, by decide⟩
set_option maxHeartbeats 4000000 in
set_option maxRecDepth 100000 in
theorem k_isNaN_b9ae7 (l : Launch) {D : va_G} {ct : Nat → ClassId} {ek ad : Nat → Nat} {N0 : Nat} {X : va_W} {F : State → Prop} (cs : Nat → Nat) (hF : ∀ U, F U → FX ek cs N0 U) (hY : ∀ U, F U → FY U) (hlt : l.stackTraces = false) (μ : Mem) (x : UInt64) :
    MG l yJxe99ae_isNaN_b9ae7 (.code yJxe99ae_isNaN_b9ae7 cJxe99ae_isNaN_b9ae7 2 (some .boolean)) 1 0 D ct ek ad N0 X F [.double x] μ (gQi D ct ek ad N0 X (fun r ν => r = isnD x ∧ ν = μ)) := by
  refine msG (own := RJxe99ae) (by decide) rfl (Nat.le_of_ble_eq_true rfl) (fun p e s m args below meth c S hr hlocks G hP hS ls hl => ?_)
  have hx := S.1
  have hb := S.2.1
  replace hl : lv_has ls 2 [(0, .double x)] := hl
  refine lv_dload_n hx hb dJxe99ae_isNaN_b9ae7_0 rfl (lv_at hl 0 rfl) ?_
  refine lv_dload_n hx hb dJxe99ae_isNaN_b9ae7_1 rfl (lv_at hl 0 rfl) ?_
  refine lv_dcmp hx hb dJxe99ae_isNaN_b9ae7_2 ?_
  refine lv_if_eq (tgt := 10) hx hb dJxe99ae_isNaN_b9ae7_3 (by decide) (fun c_3 => ?_) (fun c_3 => ?_)
  · refine lv_iconst (v := 0) hx hb dJxe99ae_isNaN_b9ae7_10 (by decide) ?_
    exact eGz S hr hlocks hP hS ⟨by omega, by omega⟩ (by decide) dJxe99ae_isNaN_b9ae7_11 ⟨by unfold isnD; simp only [c_3, ↓reduceIte], rfl⟩
  · refine lv_iconst (v := 1) hx hb dJxe99ae_isNaN_b9ae7_6 (by decide) ?_
    refine lv_goto (tgt := 11) hx hb dJxe99ae_isNaN_b9ae7_7 (by decide) ?_
    exact eGz S hr hlocks hP hS ⟨by omega, by omega⟩ (by decide) dJxe99ae_isNaN_b9ae7_11 ⟨by unfold isnD; simp only [c_3, ↓reduceIte], rfl⟩

theorem cks_yJxe99ae_doubleToLongBits_ccdee : CKS yJxe99ae_doubleToLongBits_ccdee cJxe99ae_doubleToLongBits_ccdee 2 (some .long) 1 := ⟨sm_yJxe99ae_doubleToLongBits_ccdee, in_RJxe99ae, co_yJxe99ae_doubleToLongBits_ccdee, ⟨by decide +kernel, by decide +kernel, by decide +kernel⟩, by decide⟩
set_option maxHeartbeats 4000000 in
set_option maxRecDepth 100000 in
theorem k_doubleToLongBits_ccdee (l : Launch) {D : va_G} {ct : Nat → ClassId} {ek ad : Nat → Nat} {N0 : Nat} {X : va_W} {F : State → Prop} (cs : Nat → Nat) (hF : ∀ U, F U → FX ek cs N0 U) (hY : ∀ U, F U → FY U) (hlt : l.stackTraces = false) (μ : Mem) (x : UInt64) :
    MG l yJxe99ae_doubleToLongBits_ccdee (.code yJxe99ae_doubleToLongBits_ccdee cJxe99ae_doubleToLongBits_ccdee 2 (some .long)) 2 0 D ct ek ad N0 X F [.double x] μ (gQl D ct ek ad N0 X (fun r ν => r = d2lV x ∧ ν = μ)) := by
  refine msG (own := RJxe99ae) (by decide) rfl (Nat.le_of_ble_eq_true rfl) (fun p e s m args below meth c S hr hlocks G hP hS ls hl => ?_)
  have hx := S.1
  have hb := S.2.1
  replace hl : lv_has ls 2 [(0, .double x)] := hl
  refine lv_dload_n hx hb dJxe99ae_doubleToLongBits_ccdee_0 rfl (lv_at hl 0 rfl) ?_
  refine gcS (As := [.double x]) 0 S G (k_isNaN_b9ae7 l cs hF hY hlt μ x) cks_yJxe99ae_isNaN_b9ae7 ml_RJxe99ae_122 hP hS hl.1 ⟨by decide, by decide⟩ rfl (by rfl) (Nat.le_of_ble_eq_true rfl) ⟨by omega, (by show _ ≤ 0; omega), (by show _ ≤ 6 * 0; omega)⟩ dJxe99ae_doubleToLongBits_ccdee_1 (fun r_1 ν_2 H locs hq_3 hP hS => ?_)
  obtain ⟨hq_3a, hq_3b⟩ := hq_3; subst r_1; subst ν_2
  refine lv_if_ne (tgt := 12) hx hb dJxe99ae_doubleToLongBits_ccdee_4 (by decide) (fun c_4 => ?_) (fun c_4 => ?_)
  · refine lv_ldc2 (own := RJxe99ae) (v := 9221120237041090560) hx hb S.2.2.2.1 (S.2.2.2.2 _ kl_RJxe99ae_137) dJxe99ae_doubleToLongBits_ccdee_12 ?_
    exact eGl S hr hlocks hP hS ⟨by omega, by omega⟩ dJxe99ae_doubleToLongBits_ccdee_15 ⟨by unfold d2lV; simp only [c_4, ↓reduceIte], rfl⟩
  · refine lv_dload_n hx hb dJxe99ae_doubleToLongBits_ccdee_7 rfl (lv_at hl 0 rfl) ?_
    refine vn_d2l hx hb (S.2.2.1.trans hl.1.symm) S.2.2.2.1 (S.2.2.2.2 _ ml_RJxe99ae_134) (S.2.2.2.2 _ na_d2l) (S.2.2.2.2 _ sm_d2l) (S.2.2.2.2 _ in_RJxe99ae) (by decide) (by decide) dJxe99ae_doubleToLongBits_ccdee_8 ?_
    exact eGl S hr hlocks hP hS ⟨by omega, by omega⟩ dJxe99ae_doubleToLongBits_ccdee_11 ⟨by unfold d2lV; simp only [c_4, ↓reduceIte], rfl⟩

theorem cks_yJxf58ca_isNaN_12338 : CKS yJxf58ca_isNaN_12338 cJxf58ca_isNaN_12338 1 (some .boolean) 1 := ⟨sm_yJxf58ca_isNaN_12338, in_RJxf58ca, co_yJxf58ca_isNaN_12338, ⟨by decide +kernel, by decide +kernel, by decide +kernel⟩, by decide⟩
set_option maxHeartbeats 4000000 in
set_option maxRecDepth 100000 in
theorem k_isNaN_12338 (l : Launch) {D : va_G} {ct : Nat → ClassId} {ek ad : Nat → Nat} {N0 : Nat} {X : va_W} {F : State → Prop} (cs : Nat → Nat) (hF : ∀ U, F U → FX ek cs N0 U) (hY : ∀ U, F U → FY U) (hlt : l.stackTraces = false) (μ : Mem) (x : UInt32) :
    MG l yJxf58ca_isNaN_12338 (.code yJxf58ca_isNaN_12338 cJxf58ca_isNaN_12338 1 (some .boolean)) 1 0 D ct ek ad N0 X F [.float x] μ (gQi D ct ek ad N0 X (fun r ν => r = isnF x ∧ ν = μ)) := by
  refine msGF (own := RJxf58ca) (by decide +kernel) rfl (Nat.le_of_ble_eq_true rfl) (fun p e s m args below meth c S hr hlocks G hP hS ls hl => ?_)
  have hx := S.1
  have hb := S.2.1
  replace hl : lv_has ls 1 [(0, .float x)] := hl
  refine lv_fload_n hx hb dJxf58ca_isNaN_12338_0 rfl (lv_at hl 0 rfl) ?_
  refine lv_fload_n hx hb dJxf58ca_isNaN_12338_1 rfl (lv_at hl 0 rfl) ?_
  refine lv_fcmp hx hb dJxf58ca_isNaN_12338_2 ?_
  refine lv_if_eq (tgt := 10) hx hb dJxf58ca_isNaN_12338_3 (by decide) (fun c_3 => ?_) (fun c_3 => ?_)
  · refine lv_iconst (v := 0) hx hb dJxf58ca_isNaN_12338_10 (by decide) ?_
    exact eGz S hr hlocks hP hS ⟨by omega, by omega⟩ (by decide) dJxf58ca_isNaN_12338_11 ⟨by unfold isnF; simp only [c_3, ↓reduceIte], rfl⟩
  · refine lv_iconst (v := 1) hx hb dJxf58ca_isNaN_12338_6 (by decide) ?_
    refine lv_goto (tgt := 11) hx hb dJxf58ca_isNaN_12338_7 (by decide) ?_
    exact eGz S hr hlocks hP hS ⟨by omega, by omega⟩ (by decide) dJxf58ca_isNaN_12338_11 ⟨by unfold isnF; simp only [c_3, ↓reduceIte], rfl⟩

theorem cks_yJxf58ca_floatToIntBits_5c35a : CKS yJxf58ca_floatToIntBits_5c35a cJxf58ca_floatToIntBits_5c35a 1 (some .int) 1 := ⟨sm_yJxf58ca_floatToIntBits_5c35a, in_RJxf58ca, co_yJxf58ca_floatToIntBits_5c35a, ⟨by decide +kernel, by decide +kernel, by decide +kernel⟩, by decide⟩
set_option maxHeartbeats 4000000 in
set_option maxRecDepth 100000 in
theorem k_floatToIntBits_5c35a (l : Launch) {D : va_G} {ct : Nat → ClassId} {ek ad : Nat → Nat} {N0 : Nat} {X : va_W} {F : State → Prop} (cs : Nat → Nat) (hF : ∀ U, F U → FX ek cs N0 U) (hY : ∀ U, F U → FY U) (hlt : l.stackTraces = false) (μ : Mem) (x : UInt32) :
    MG l yJxf58ca_floatToIntBits_5c35a (.code yJxf58ca_floatToIntBits_5c35a cJxf58ca_floatToIntBits_5c35a 1 (some .int)) 2 0 D ct ek ad N0 X F [.float x] μ (gQi D ct ek ad N0 X (fun r ν => r = f2iV x ∧ ν = μ)) := by
  refine msGF (own := RJxf58ca) (by decide +kernel) rfl (Nat.le_of_ble_eq_true rfl) (fun p e s m args below meth c S hr hlocks G hP hS ls hl => ?_)
  have hx := S.1
  have hb := S.2.1
  replace hl : lv_has ls 1 [(0, .float x)] := hl
  refine lv_fload_n hx hb dJxf58ca_floatToIntBits_5c35a_0 rfl (lv_at hl 0 rfl) ?_
  refine gcS (As := [.float x]) 0 S G (k_isNaN_12338 l cs hF hY hlt μ x) cks_yJxf58ca_isNaN_12338 ml_RJxf58ca_59 hP hS hl.1 ⟨by decide, by decide⟩ rfl (by rfl) (Nat.le_of_ble_eq_true rfl) ⟨by omega, (by show _ ≤ 0; omega), (by show _ ≤ 6 * 0; omega)⟩ dJxf58ca_floatToIntBits_5c35a_1 (fun r_1 ν_2 H locs hq_3 hP hS => ?_)
  obtain ⟨hq_3a, hq_3b⟩ := hq_3; subst r_1; subst ν_2
  refine lv_if_ne (tgt := 12) hx hb dJxf58ca_floatToIntBits_5c35a_4 (by decide) (fun c_4 => ?_) (fun c_4 => ?_)
  · refine lv_ldc (own := RJxf58ca) (v := 2143289344) hx hb S.2.2.2.1 (S.2.2.2.2 _ kc_RJxf58ca_77) dJxf58ca_floatToIntBits_5c35a_12 ?_
    exact eGi S hr hlocks hP hS ⟨by omega, by omega⟩ dJxf58ca_floatToIntBits_5c35a_14 ⟨by unfold f2iV; simp only [c_4, ↓reduceIte], rfl⟩
  · refine lv_fload_n hx hb dJxf58ca_floatToIntBits_5c35a_7 rfl (lv_at hl 0 rfl) ?_
    refine vn_f2i hx hb (S.2.2.1.trans hl.1.symm) S.2.2.2.1 (S.2.2.2.2 _ ml_RJxf58ca_74) (S.2.2.2.2 _ na_f2i) (S.2.2.2.2 _ sm_f2i) (S.2.2.2.2 _ in_RJxf58ca) (by decide) (by decide) dJxf58ca_floatToIntBits_5c35a_8 ?_
    exact eGi S hr hlocks hP hS ⟨by omega, by omega⟩ dJxf58ca_floatToIntBits_5c35a_11 ⟨by unfold f2iV; simp only [c_4, ↓reduceIte], rfl⟩

theorem cks_yL_at : CKS yL_at cL_at 2 (some .int) 2 := ⟨sm_yL_at, in_RL, co_yL_at, ⟨by decide +kernel, by decide +kernel, by decide +kernel⟩, by decide⟩
set_option maxHeartbeats 4000000 in
set_option maxRecDepth 100000 in
theorem k_at (l : Launch) {D : va_G} {ct : Nat → ClassId} {ek ad : Nat → Nat} {N0 : Nat} {X : va_W} {F : State → Prop} (cs : Nat → Nat) (hF : ∀ U, F U → FX ek cs N0 U) (hY : ∀ U, F U → FY U) (hlt : l.stackTraces = false) (μ : Mem) (b : Nat) (LL : Nat) (xs : Nat → Int32) (hSX : ∀ U, F U → SX b LL xs N0 U) (hLL : LL ≤ 260) (kk : Nat) (hk : kk ≤ 1000) :
    MG l yL_at (.code yL_at cL_at 2 (some .int)) 1 0 D ct ek ad N0 X F [.ref b, .int (nI kk)] μ (gQi D ct ek ad N0 X (fun r ν => r = atV LL xs kk ∧ ν = μ)) := by
  refine msG (own := RL) (by decide) rfl (Nat.le_of_ble_eq_true rfl) (fun p e s m args below meth c S hr hlocks G hP hS ls hl => ?_)
  have hx := S.1
  have hb := S.2.1
  replace hl : lv_has ls 2 [(0, .ref b), (1, .int (nI kk))] := hl
  have FS := hSX s G.2.2.2.2.2
  have hbN : ¬ fr N0 b := by have := FS.2.2; show ¬ N0 ≤ b; omega
  refine lv_iload_n hx hb dL_at_0 rfl (lv_at hl 1 rfl) ?_
  refine lv_aload_n hx hb dL_at_1 rfl (lv_at hl 0 rfl) ?_
  refine va_slen (A := fr N0) hx hb FS.1 FS.2.1 hbN hS dL_at_2 ?_
  refine lv_icmp_ge (tgt := 12) hx hb dL_at_3 (by decide) (fun c_3 => ?_) (fun c_3 => ?_)
  · refine lv_iconst (v := 0) hx hb dL_at_12 (by decide) ?_
    exact eGi S hr hlocks hP hS ⟨by omega, by omega⟩ dL_at_13 ⟨(if_neg (show ¬ kk < LL from fun z => nI_ge z (by omega) c_3)).symm, rfl⟩
  · refine lv_aload_n hx hb dL_at_6 rfl (lv_at hl 0 rfl) ?_
    refine lv_iload_n hx hb dL_at_7 rfl (lv_at hl 1 rfl) ?_
    have hlt : kk < LL := by have : ¬ LL ≤ kk := fun z => c_3 (nI_le z (by omega)); omega
    refine va_sld (A := fr N0) hx hb FS.1 FS.2.1 hbN hS (vp_in_nI hlt (by omega)) dL_at_8 ?_
    rw [nI_clamp (show kk < 2 ^ 31 by omega)]
    refine lv_goto (tgt := 13) hx hb dL_at_9 (by decide) ?_
    exact eGi S hr hlocks hP hS ⟨by omega, by omega⟩ dL_at_13 ⟨(if_pos hlt).symm, rfl⟩

theorem cks_yL_some : CKS yL_some cL_some 3 (some .int) 2 := ⟨sm_yL_some, in_RL, co_yL_some, ⟨by decide +kernel, by decide +kernel, by decide +kernel⟩, by decide⟩
set_option maxHeartbeats 4000000 in
set_option maxRecDepth 100000 in
theorem k_some (l : Launch) {D : va_G} {ct : Nat → ClassId} {ek ad : Nat → Nat} {N0 : Nat} {X : va_W} {F : State → Prop} (cs : Nat → Nat) (hF : ∀ U, F U → FX ek cs N0 U) (hY : ∀ U, F U → FY U) (hlt : l.stackTraces = false) (μ : Mem) (x : Int32) (y : Int32) (hy : ¬ y = 0) :
    MG l yL_some (.code yL_some cL_some 3 (some .int)) 1 0 D ct ek ad N0 X F [.int x, .int y] μ (gQi D ct ek ad N0 X (fun r ν => r = smV x y ∧ ν = μ)) := by
  refine msG (own := RL) (by decide) rfl (Nat.le_of_ble_eq_true rfl) (fun p e s m args below meth c S hr hlocks G hP hS ls hl => ?_)
  have hx := S.1
  have hb := S.2.1
  replace hl : lv_has ls 3 [(0, .int x), (1, .int y)] := hl
  refine lv_iload_n hx hb dL_some_0 rfl (lv_at hl 0 rfl) ?_
  refine lv_iload_n hx hb dL_some_1 rfl (lv_at hl 1 rfl) ?_
  refine lv_irem hx hb dL_some_2 hy ?_
  refine lv_tope (y := remV x y) rfl ?_
  refine lv_istore_n (lv' := [(2, .int (remV x y)), (0, .int x), (1, .int y)]) hx hb dL_some_3 rfl hl (by decide) rfl (fun ls hl => ?_)
  refine lv_iload_n hx hb dL_some_4 rfl (lv_at hl 0 rfl) ?_
  refine lv_if_ge (tgt := 14) hx hb dL_some_5 (by decide) (fun c_5 => ?_) (fun c_5 => ?_)
  · refine lv_iload_n hx hb dL_some_14 rfl (lv_at hl 0 rfl) ?_
    exact eGi S hr hlocks hP hS ⟨by omega, by omega⟩ dL_some_15 ⟨by unfold smV; rw [if_pos c_5], rfl⟩
  · refine lv_iload_n hx hb dL_some_8 rfl (lv_at hl 0 rfl) ?_
    refine lv_iload_n hx hb dL_some_9 rfl (lv_at hl 2 rfl) ?_
    refine lv_iadd hx hb dL_some_10 ?_
    refine lv_goto (tgt := 15) hx hb dL_some_11 (by decide) ?_
    exact eGi S hr hlocks hP hS ⟨by omega, by omega⟩ dL_some_15 ⟨by unfold smV; rw [if_neg c_5], rfl⟩

theorem cks_yL_isAt : CKS yL_isAt cL_isAt 4 (some .boolean) 4 := ⟨sm_yL_isAt, in_RL, co_yL_isAt, ⟨by decide +kernel, by decide +kernel, by decide +kernel⟩, by decide⟩
set_option maxHeartbeats 4000000 in
set_option maxRecDepth 100000 in
theorem k_isAt (l : Launch) {D : va_G} {ct : Nat → ClassId} {ek ad : Nat → Nat} {N0 : Nat} {X : va_W} {F : State → Prop} (cs : Nat → Nat) (hF : ∀ U, F U → FX ek cs N0 U) (hY : ∀ U, F U → FY U) (hlt : l.stackTraces = false) (μ : Mem) (u : Int32) (w : Int32) (d : Int32) (hK : RsK μ w d u) :
    MG l yL_isAt (.code yL_isAt cL_isAt 4 (some .boolean)) 8 4 D ct ek ad N0 X F [.ref (ad 0), .int u, .int w, .int d] μ (gQi D ct ek ad N0 X (fun r ν => r = 1 ∧ ν = μ)) := by
  refine msG (own := RL) (by decide) rfl (Nat.le_of_ble_eq_true rfl) (fun p e s m args below meth c S hr hlocks G hP hS ls hl => ?_)
  have hx := S.1
  have hb := S.2.1
  replace hl : lv_has ls 4 [(0, .ref (ad 0)), (1, .int u), (2, .int w), (3, .int d)] := hl
  obtain ⟨k0, k1, k2, k3⟩ := hK.e
  refine lv_aload_n hx hb dL_isAt_0 rfl (lv_at hl 0 rfl) ?_
  refine lv_iconst (v := 0) hx hb dL_isAt_1 (by decide) ?_
  refine gcH (As := [.ref (ad 0), .int 0]) 1 S G (g_reason l cs hF hY hlt μ (0)) ckh_reason ml_RL_156 hP hS hl.1 ⟨by decide, by decide⟩ rfl (by rfl) (Nat.le_of_ble_eq_true rfl) ⟨by omega, (by show _ ≤ 4; omega), (by show _ ≤ 6 * 4; omega)⟩ dL_isAt_2 (fun r_1 ν_2 H locs hq_3 hP hS => ?_)
  obtain ⟨hq_3a, hq_3b⟩ := hq_3; subst r_1; subst ν_2
  refine lv_tope (y := w) k0 ?_
  refine lv_iload_n hx hb dL_isAt_5 rfl (lv_at hl 2 rfl) ?_
  refine lv_icmp_ne (tgt := 42) hx hb dL_isAt_6 (by decide) (fun c_6 => absurd rfl c_6) (fun c_6 => ?_)
  refine lv_aload_n hx hb dL_isAt_9 rfl (lv_at hl 0 rfl) ?_
  refine lv_iconst (v := 1) hx hb dL_isAt_10 (by decide) ?_
  refine gcH (As := [.ref (ad 0), .int 1]) 2 S G (g_reason l cs hF hY hlt μ (1)) ckh_reason ml_RL_156 hP hS hl.1 ⟨by decide, by decide⟩ rfl (by rfl) (Nat.le_of_ble_eq_true rfl) ⟨by omega, (by show _ ≤ 4; omega), (by show _ ≤ 6 * 4; omega)⟩ dL_isAt_11 (fun r_4 ν_5 H locs hq_6 hP hS => ?_)
  obtain ⟨hq_6a, hq_6b⟩ := hq_6; subst r_4; subst ν_5
  refine lv_tope (y := d) k1 ?_
  refine lv_iload_n hx hb dL_isAt_14 rfl (lv_at hl 3 rfl) ?_
  refine lv_icmp_ne (tgt := 42) hx hb dL_isAt_15 (by decide) (fun c_15 => absurd rfl c_15) (fun c_15 => ?_)
  refine lv_aload_n hx hb dL_isAt_18 rfl (lv_at hl 0 rfl) ?_
  refine lv_iconst (v := 2) hx hb dL_isAt_19 (by decide) ?_
  refine gcH (As := [.ref (ad 0), .int 2]) 3 S G (g_reason l cs hF hY hlt μ (2)) ckh_reason ml_RL_156 hP hS hl.1 ⟨by decide, by decide⟩ rfl (by rfl) (Nat.le_of_ble_eq_true rfl) ⟨by omega, (by show _ ≤ 4; omega), (by show _ ≤ 6 * 4; omega)⟩ dL_isAt_20 (fun r_7 ν_8 H locs hq_9 hP hS => ?_)
  obtain ⟨hq_9a, hq_9b⟩ := hq_9; subst r_7; subst ν_8
  refine lv_tope (y := u) k2 ?_
  refine lv_iload_n hx hb dL_isAt_23 rfl (lv_at hl 1 rfl) ?_
  refine lv_icmp_ne (tgt := 42) hx hb dL_isAt_24 (by decide) (fun c_24 => absurd rfl c_24) (fun c_24 => ?_)
  refine lv_aload_n hx hb dL_isAt_27 rfl (lv_at hl 0 rfl) ?_
  refine lv_iconst (v := 3) hx hb dL_isAt_28 (by decide) ?_
  refine gcH (As := [.ref (ad 0), .int 3]) 4 S G (g_reason l cs hF hY hlt μ (3)) ckh_reason ml_RL_156 hP hS hl.1 ⟨by decide, by decide⟩ rfl (by rfl) (Nat.le_of_ble_eq_true rfl) ⟨by omega, (by show _ ≤ 4; omega), (by show _ ≤ 6 * 4; omega)⟩ dL_isAt_29 (fun r_10 ν_11 H locs hq_12 hP hS => ?_)
  obtain ⟨hq_12a, hq_12b⟩ := hq_12; subst r_10; subst ν_11
  refine lv_tope (y := (-1001)) k3 ?_
  refine lv_sipush (v := (-1001)) hx hb dL_isAt_32 (by decide) ?_
  refine lv_icmp_ne (tgt := 42) hx hb dL_isAt_35 (by decide) (fun c_35 => absurd rfl c_35) (fun c_35 => ?_)
  refine lv_iconst (v := 1) hx hb dL_isAt_38 (by decide) ?_
  refine lv_goto (tgt := 43) hx hb dL_isAt_39 (by decide) ?_
  exact eGz S hr hlocks hP hS ⟨by omega, by omega⟩ (by decide) dL_isAt_43 (by first | exact ⟨rfl, rfl⟩ | (refine ⟨?_, rfl⟩; simp [c_6, c_15, c_24, c_35]; done) | (simp [c_6, c_15, c_24, c_35]; done) | (simp only [c_6, c_15, c_24, c_35, ↓reduceIte, if_true, if_false, and_self, true_and]; done) | grind [])

theorem cks_yL_is : CKS yL_is cL_is 3 (some .boolean) 3 := ⟨sm_yL_is, in_RL, co_yL_is, ⟨by decide +kernel, by decide +kernel, by decide +kernel⟩, by decide⟩
set_option maxHeartbeats 4000000 in
set_option maxRecDepth 100000 in
theorem k_is (l : Launch) {D : va_G} {ct : Nat → ClassId} {ek ad : Nat → Nat} {N0 : Nat} {X : va_W} {F : State → Prop} (cs : Nat → Nat) (hF : ∀ U, F U → FX ek cs N0 U) (hY : ∀ U, F U → FY U) (hlt : l.stackTraces = false) (μ : Mem) (w : Int32) (d : Int32) (hK : RsK μ w d 0) :
    MG l yL_is (.code yL_is cL_is 3 (some .boolean)) 9 4 D ct ek ad N0 X F [.ref (ad 0), .int w, .int d] μ (gQi D ct ek ad N0 X (fun r ν => r = 1 ∧ ν = μ)) := by
  refine msG (own := RL) (by decide) rfl (Nat.le_of_ble_eq_true rfl) (fun p e s m args below meth c S hr hlocks G hP hS ls hl => ?_)
  have hx := S.1
  have hb := S.2.1
  replace hl : lv_has ls 3 [(0, .ref (ad 0)), (1, .int w), (2, .int d)] := hl
  refine lv_aload_n hx hb dL_is_0 rfl (lv_at hl 0 rfl) ?_
  refine lv_iconst (v := 0) hx hb dL_is_1 (by decide) ?_
  refine lv_iload_n hx hb dL_is_2 rfl (lv_at hl 1 rfl) ?_
  refine lv_iload_n hx hb dL_is_3 rfl (lv_at hl 2 rfl) ?_
  refine gcS (As := [.ref (ad 0), .int 0, .int w, .int d]) 4 S G (k_isAt l cs hF hY hlt μ (0) w d (by first | assumption | omega)) cks_yL_isAt ml_RL_152 hP hS hl.1 ⟨by decide, by decide⟩ rfl (by rfl) (Nat.le_of_ble_eq_true rfl) ⟨by omega, (by show _ ≤ 4; omega), (by show _ ≤ 6 * 4; omega)⟩ dL_is_4 (fun r_1 ν_2 H locs hq_3 hP hS => ?_)
  obtain ⟨hq_3a, hq_3b⟩ := hq_3; subst r_1; subst ν_2
  exact eGz S hr hlocks hP hS ⟨by omega, by omega⟩ (by decide) dL_is_7 (by first | exact ⟨rfl, rfl⟩ | (refine ⟨?_, rfl⟩; simp []; done) | (simp []; done) | (simp only [↓reduceIte, if_true, if_false, and_self, true_and]; done) | grind [])

theorem cks_yL_runs : CKS yL_runs cL_runs 3 (some .int) 2 := ⟨sm_yL_runs, in_RL, co_yL_runs, ⟨by decide +kernel, by decide +kernel, by decide +kernel⟩, by decide⟩
set_option maxHeartbeats 4000000 in
set_option maxRecDepth 100000 in
theorem k_runs (l : Launch) {D : va_G} {ct : Nat → ClassId} {ek ad : Nat → Nat} {N0 : Nat} {X : va_W} {F : State → Prop} (cs : Nat → Nat) (hF : ∀ U, F U → FX ek cs N0 U) (hY : ∀ U, F U → FY U) (hlt : l.stackTraces = false) (μ : Mem) (q : Nat) (len : Nat) (hlen : len ≤ 60) (f : Nat → Int32) (hf : ∀ i, i < len → vp_nar .char (f i) = f i) (hRc : RCV D ct ek ad N0 X F q RJ0) (hLen : ∀ σ, MI l yJ0_length_8abf5 cJ0_length_8abf5 1 (some .int) 1 D ct ek ad N0 X F [.ref q] σ (fun r τ => r = nI len ∧ τ = σ)) (hChr : ∀ i, i < len → ∀ σ, MI l yJ0_charAt_5068e cJ0_charAt_5068e 2 (some .char) 3 D ct ek ad N0 X F [.ref q, .int (nI i)] σ (fun r τ => r = f i ∧ τ = σ)) (h0 : gL μ = 0) :
    MG l yL_runs (.code yL_runs cL_runs 3 (some .int)) 9 70 D ct ek ad N0 X F [.ref (ad 0), .ref q] μ (gQi D ct ek ad N0 X (fun r ν => r = (cmG (txK μ f len)).1 ∧ ν = (cmG (txK μ f len)).2)) := by
  refine msG (own := RL) (by decide) rfl (Nat.le_of_ble_eq_true rfl) (fun p e s m args below meth c S hr hlocks G hP hS ls hl => ?_)
  have hx := S.1
  have hb := S.2.1
  replace hl : lv_has ls 3 [(0, .ref (ad 0)), (1, .ref q)] := hl
  refine lv_iconst (v := 0) hx hb dL_runs_0 (by decide) ?_
  refine lv_istore_n (lv' := [(2, .int 0), (0, .ref (ad 0)), (1, .ref q)]) hx hb dL_runs_1 rfl hl (by decide) rfl (fun ls hl => ?_)
  have key_2 : ∀ (d k : Nat), k + d = len → ∀ (H : Heap) (locs : List Loc) (ls : Array Slot), wG D ct ek ad X (txK μ f k) H → va_S (fr N0) s.heap H locs → lv_has ls 3 [(2, .int (nI k)), (0, .ref (ad 0)), (1, .ref q)] → W p l e (rmd 9 70 (6 * 70)) s m args below meth c H locs (1 * k + 0) (6 * (1 * k + 0)) (MQ below (gQi D ct ek ad N0 X (fun r ν => r = (cmG (txK μ f len)).1 ∧ ν = (cmG (txK μ f len)).2)) args s 70 (6 * 70) (fr N0)) (F0 m 2 ls []) := by
    intro d
    induction d with
    | zero =>
      intro k9 hk
      obtain rfl : len = k9 := by omega
      intro  H locs ls hP hS hl
      refine lv_iload_n hx hb dL_runs_2 rfl (lv_at hl 0 rfl) ?_
      refine lv_aload_n hx hb dL_runs_3 rfl (lv_at hl 2 rfl) ?_
      refine gcK (As := []) S G hLen ok_yJ0_length_8abf5 ml_RL_136 hRc hP hS hl.1 ⟨by decide, by decide⟩ rfl (by rfl) (Nat.le_of_ble_eq_true rfl) ⟨(by show _ ≤ 70; omega), (by show _ ≤ 6 * 70; omega)⟩ dL_runs_4 (fun H locs hP hS => ?_)
      refine lv_icmp_ge (tgt := 35) hx hb dL_runs_7 (by decide) (fun c_7 => ?_) (fun c_7 => absurd (nI_le (by omega) (by omega)) c_7)
      refine lv_aload_n hx hb dL_runs_35 rfl (lv_at hl 1 rfl) ?_
      refine gcH (As := [.ref (ad 0)]) (1 * len + 2) S G (g_commands l cs hF hY hlt (txK μ f len)) ckh_commands ml_RL_149 hP hS hl.1 ⟨by decide, by decide⟩ rfl (by rfl) (Nat.le_of_ble_eq_true rfl) ⟨by omega, (by show _ ≤ 70; omega), (by show _ ≤ 6 * 70; omega)⟩ dL_runs_36 (fun r_4 ν_5 H locs hq_6 hP hS => ?_)
      obtain ⟨hq_6a, hq_6b⟩ := hq_6; subst r_4; subst ν_5
      exact eGi S hr hlocks hP hS ⟨by omega, by omega⟩ dL_runs_39 ⟨rfl, rfl⟩
    | succ d ih =>
      intro k hk  H locs ls hP hS hl
      have hkn : k < len := by omega
      refine lv_iload_n hx hb dL_runs_2 rfl (lv_at hl 0 rfl) ?_
      refine lv_aload_n hx hb dL_runs_3 rfl (lv_at hl 2 rfl) ?_
      refine gcK (As := []) S G hLen ok_yJ0_length_8abf5 ml_RL_136 hRc hP hS hl.1 ⟨by decide, by decide⟩ rfl (by rfl) (Nat.le_of_ble_eq_true rfl) ⟨(by show _ ≤ 70; omega), (by show _ ≤ 6 * 70; omega)⟩ dL_runs_4 (fun H locs hP hS => ?_)
      refine lv_icmp_ge (tgt := 35) hx hb dL_runs_7 (by decide) (fun c_7 => absurd c_7 (nI_ge (by omega) (by omega))) (fun c_7 => ?_)
      refine lv_aload_n hx hb dL_runs_10 rfl (lv_at hl 1 rfl) ?_
      refine lv_aload_n hx hb dL_runs_11 rfl (lv_at hl 2 rfl) ?_
      refine lv_iload_n hx hb dL_runs_12 rfl (lv_at hl 0 rfl) ?_
      refine gcK (As := [.int (nI k)]) S G (hChr k (by omega)) ok_yJ0_charAt_5068e ml_RL_141 hRc hP hS hl.1 ⟨by decide, by decide⟩ rfl (by rfl) (Nat.le_of_ble_eq_true rfl) ⟨(by show _ ≤ 70; omega), (by show _ ≤ 6 * 70; omega)⟩ dL_runs_13 (fun H locs hP hS => ?_)
      refine gcH (As := [.ref (ad 0), .int (f k)]) (1 * k + 1) S G (g_append l cs hF hY hlt (txK μ f k) (f k) (hf k (by omega))) ckh_append ml_RL_144 hP hS hl.1 ⟨by decide, by decide⟩ rfl (by rfl) (Nat.le_of_ble_eq_true rfl) ⟨by omega, (by show _ ≤ 70; omega), (by show _ ≤ 6 * 70; omega)⟩ dL_runs_16 (fun r_13 ν_14 H locs hq_15 hP hS => ?_)
      obtain ⟨hq_15a, hq_15b⟩ := hq_15; subst r_13; subst ν_14
      replace hP := wG_e hP (show _ = txK μ f (k + 1) from (ap_tx h0 (by omega)).2)
      refine lv_tope (y := nI (k + 1)) (ap_tx h0 (by omega)).1 ?_
      refine lv_iload_n hx hb dL_runs_19 rfl (lv_at hl 0 rfl) ?_
      refine lv_iconst (v := 1) hx hb dL_runs_20 (by decide) ?_
      refine nadd hx hb k 1 dL_runs_21 rfl (by decide) ?_
      refine lv_icmp_eq (tgt := 29) hx hb dL_runs_22 (by decide) (fun c_22 => ?_) (fun c_22 => absurd rfl c_22)
      refine lv_iinc (v := nI (k + 1)) (lv' := [(2, .int (nI (k + 1))), (0, .ref (ad 0)), (1, .ref q)]) hx hb dL_runs_29 hl (k := 0) rfl (nI_inc _) (by decide) rfl (fun ls hl => ?_)
      refine lv_goto (tgt := 2) hx hb dL_runs_32 (by decide) ?_
      refine W.widen (k := (1 * (k + 1) + 0)) (n := 6 * (1 * (k + 1) + 0)) (by omega) (by omega) ?_
      exact ih (k + 1) (by omega)  _ _ _ hP hS (lv_v (lv_sub (l' := [(2, .int (nI (k + 1))), (0, .ref (ad 0)), (1, .ref q)]) hl [0, 1, 2] rfl) rfl)
  refine W.widen (k := (1 * 0 + 0)) (n := 6 * (1 * 0 + 0)) (by omega) (by omega) ?_
  exact key_2 len 0 (by omega)  _ _ _ hP hS (lv_sub hl [0, 1, 2] rfl)

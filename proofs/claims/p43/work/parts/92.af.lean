/-! what the law asks: one number, out of the row alone -/
def mk (h : Nat → Int32) : Mem := fun c => if c = 277 then h else fun _ => 0
theorem mk_77 {h : Nat → Int32} : mk h 277 = h := rfl
def aMt (h : Nat → Int32) : UInt64 := mtV (tN (h 0)) (sumR (fun q => h (6 + 5 * q + 0)) 0 (tN (h 0)))
def aPs (h : Nat → Int32) : UInt32 := psV9 (tN (h 0)) (plmR (fun q => h (6 + 5 * q + 0)) (tN (h 0)))
def aAcc (h : Nat → Int32) (x : Int32) : Int32 := hA (accT x) (accV (mk h) (tN (h 0)) x)
def aOf (h : Nat → Int32) (x y : Int32) : Int32 := hA (pofT (mk h) x y) (pofV (mk h) (tN (h 0)) x y)
def aWgt (h : Nat → Int32) (x y : Int32) : Int32 := hA (wgT (mk h) x y) (wgV (mk h) x y)
def aMean (h : Nat → Int32) (x : Int32) : Int32 := hA (if one1 (mk h) x = 0 then 1 else 0) (qV (mk h) x (mnR h (tN (h 0)) (tN x)))
def aCamp (h : Nat → Int32) (x : Int32) : Int32 := hA (if one1 (mk h) x = 0 then 1 else 0) (qV (mk h) x (cmR h (tN (h 0)) (tN x)))
def aTin (h : Nat → Int32) (x y : Int32) : Int32 := hA (tinT (mk h) x y) (tinV (mk h) (tN (h 0)) (tN (h 1)) x y)
def aRan (h : Nat → Int32) (x y : Int32) : Int32 := hA (ranT h (tN (h 0)) x y) (ranV h (tN (h 0)) x y)
def aPul (h : Nat → Int32) (x : Int32) : Int32 := hA (pulT (mk h) (tN (h 0)) x) (pulV (mk h) (tN (h 0)) x)
def aFac (h : Nat → Int32) (x y : Int32) : Int32 := hA (facT (mk h) x y) (facV (mk h) x y)
def aBof (h : Nat → Int32) (x y : Int32) : Int32 := hA (bofT (mk h) x y) (bofV (mk h) x y)
def aBri (h : Nat → Int32) (x : Int32) : Int32 := hA (briT (mk h) (tN (h 0)) (tN (h 1)) x) (briV (mk h) (tN (h 0)) (tN (h 1)) x)
def aWea (h : Nat → Int32) (x : Int32) : Int32 := hA (weaT h (tN (h 1)) x) (weaV h (tN (h 1)) x)
def aRst (h : Nat → Int32) : Int32 := hA (rstiT h (tN (h 0)) (tN (h 1))) (rstiV h (tN (h 0)) (tN (h 1)))
def aGre (h : Nat → Int32) (x : Int32) : Int32 := hA (greT h (tN (h 0)) x) (greV h (tN (h 0)) x)
def aCps (h : Nat → Int32) : Int32 := cmsV h (tN (h 0)) (tN (h 0))
/-- a person's line, and the beams' -/
def lpM (h : Nat → Int32) (p : Nat) : Mem := lnK h z0 p (tN (h 0))
def lbN (h : Nat → Int32) : Mem := lbM h z0 (tN (h 1))
def aLn (h : Nat → Int32) (p : Nat) : Nat := tN (lpM h p 276 9)
def aLb (h : Nat → Int32) : Nat := tN (lbN h 276 9)
def aChr (ν : Mem) (x : Int32) : Int32 := hA (chrT ν x) (chrV ν x)
section AFS
variable {μ ν ρ : Mem} {h : Nat → Int32} {x y : Int32}
theorem vMt (e : ν 277 = h) : mtV (gn ν) (sumR (fun q => ν 277 (6 + 5 * q + 0)) 0 (gn ν)) = aMt h := by subst e; rfl
theorem vPs (e : ν 277 = h) : psV9 (gn ν) (plmR (fun q => ν 277 (6 + 5 * q + 0)) (gn ν)) = aPs h := by subst e; rfl
theorem vAcc {k : Nat} (e : ν 277 = h) (hk : k < 9) : hA (accT (nI k)) (accV ν (gn ν) (nI k)) = aAcc h (nI k) := by
  subst e
  have e9 : ¬ nI k = 9 := fun z => by have := (nI_eq (a := k) (b := 9) (by omega) (by omega)).mp z; omega
  have e10 : ¬ nI k = 10 := fun z => by have := (nI_eq (a := k) (b := 10) (by omega) (by omega)).mp z; omega
  unfold aAcc accV
  simp only [e9, e10, ↓reduceIte, mk_77]
theorem vOf (e : ν 277 = h) : hA (pofT ν x y) (pofV ν (gn ν) x y) = aOf h x y := by subst e; rfl
theorem vWgt (e : ν 277 = h) : hA (wgT ν x y) (wgV ν x y) = aWgt h x y := by subst e; rfl
theorem vMean (e : ν 277 = h) : hA (if one1 ν x = 0 then 1 else 0) (qV ν x (mnR (ν 277) (gn ν) (tN x))) = aMean h x := by subst e; rfl
theorem vCamp (e : ν 277 = h) : hA (if one1 ν x = 0 then 1 else 0) (qV ν x (cmR (ν 277) (gn ν) (tN x))) = aCamp h x := by subst e; rfl
theorem vTin (e : ν 277 = h) : hA (tinT ν x y) (tinV ν (gn ν) (gm ν) x y) = aTin h x y := by subst e; rfl
theorem vRan (e : ν 277 = h) : hA (ranT (ν 277) (gn ν) x y) (ranV (ν 277) (gn ν) x y) = aRan h x y := by subst e; rfl
theorem vPul (e : ν 277 = h) : hA (pulT ν (gn ν) x) (pulV ν (gn ν) x) = aPul h x := by subst e; rfl
theorem vFac (e : ν 277 = h) : hA (facT ν x y) (facV ν x y) = aFac h x y := by subst e; rfl
theorem vBof (e : ν 277 = h) : hA (bofT ν x y) (bofV ν x y) = aBof h x y := by subst e; rfl
theorem vBri (e : ν 277 = h) : hA (briT ν (gn ν) (gm ν) x) (briV ν (gn ν) (gm ν) x) = aBri h x := by subst e; rfl
theorem vWea (e : ν 277 = h) : hA (weaT (ν 277) (gm ν) x) (weaV (ν 277) (gm ν) x) = aWea h x := by subst e; rfl
theorem vRst (e : ν 277 = h) : hA (rstiT (ν 277) (gn ν) (gm ν)) (rstiV (ν 277) (gn ν) (gm ν)) = aRst h := by subst e; rfl
theorem vGre (e : ν 277 = h) : hA (greT (ν 277) (gn ν) x) (greV (ν 277) (gn ν) x) = aGre h x := by subst e; rfl
theorem vCps (e : ν 277 = h) : cmsV (ν 277) (gn ν) (gn ν) = aCps h := by subst e; rfl
theorem vChr : hA (chrT (lnS μ ρ) x) (chrV (lnS μ ρ) x) = aChr ρ x := by
  unfold aChr chrT chrV; rw [lnS_9, lnS_83]
theorem lnS_77 : lnS μ ρ 277 = μ 277 := lnS_c (by decide) (by decide)
/-- accounts 0 and 2 -/
theorem acc0 {n mb : Nat} (W : WF (ν 277) n mb) : hA (accT 0) (accV ν (gn ν) 0) = nI n := W.1.1
theorem acc2 {n mb : Nat} (W : WF (ν 277) n mb) : hA (accT 2) (accV ν (gn ν) 2) = nI mb := W.1.2.2.1
theorem ln_b {p : Nat} (h : Nat → Int32) (hn : tN (h 0) ≤ 6) : lpM h p 276 9 = nI (aLn h p) ∧ aLn h p ≤ 50 := by
  obtain ⟨-, -, L, h1, h2⟩ := LmP_lnK (h := h) (σ := z0) (p := p) (tN (h 0))
  have e : aLn h p = L := by show tN (lnK h z0 p (tN (h 0)) 276 9) = L; rw [h2]; exact tN_nI (by omega)
  rw [e]
  exact ⟨h2, by omega⟩
theorem lb_b {n mb : Nat} (W : WF h n mb) : lbN h 276 9 = nI (aLb h) ∧ aLb h ≤ 120 := by
  have hm : tN (h 1) = mb := W.n0.2
  have hm6 := W.1.2.2.2.1
  obtain ⟨-, -, L, h1, h2⟩ := LmP_lbM (h := h) (σ := z0) (m := tN (h 1)) (fun q hq => by
    obtain ⟨-, -, ⟨v, hv, ev⟩, -⟩ := W.2.2.2.2.2.2.2.1 q (by omega)
    rw [ev, tN_nI (by omega)]; omega) (tN (h 1)) (Nat.le_refl _)
  have e : aLb h = L := by show tN (lbM h z0 (tN (h 1)) 276 9) = L; rw [h2]; exact tN_nI (by omega)
  rw [e]
  exact ⟨h2, by omega⟩
theorem lin_1 {n mb k : Nat} (W : WF (ν 277) n mb) (e : ν 277 = h) (hk : k < n) : (linG ν (nI k)).1 = nI (aLn h k) ∧ (linG ν (nI k)).2 = lnS ν (lpM h k) := by
  subst e
  have hn6 := W.1.2.1
  have h0 : tN (ν 277 0) = n := W.n0.1
  have c1 : ¬ one1 ν (nI k) = 0 := by
    unfold one1
    rw [W.1.1, show nI n - 1 = nI (n - 1) from by rw [← nI_pred (n - 1), show n - 1 + 1 = n by omega]]
    unfold rngB
    rw [if_neg (nI_pos (by omega)), if_neg (nI_nlt (by omega) (by omega))]
    decide
  have ek : tN (nI k) = k := tN_nI (by omega)
  unfold linG
  rw [if_neg c1, ek]
  exact ⟨(ln_b (p := k) (ν 277) (by omega)).1, rfl⟩
theorem bms_1 {n mb : Nat} (W : WF (ν 277) n mb) (e : ν 277 = h) : (bmsG ν).1 = nI (aLb h) ∧ (bmsG ν).2 = lnS ν (lbN h) := by
  subst e
  exact ⟨(lb_b W).1, rfl⟩
end AFS
/-- the sums -/
def as0 (h : Nat → Int32) : Int64 := (31 : Int64) * d2lV (aMt h) + (f2iV (aPs h)).toInt64
def as1 (h : Nat → Int32) (k : Nat) : Int64 := fo (fun i a => (31 : Int64) * a + (aAcc h (nI i)).toInt64) (as0 h) k
def ip1 (h : Nat → Int32) (p : Nat) (a : Int64) (k : Nat) : Int64 := fo (fun i a => (31 : Int64) * a + (aOf h (nI p) (nI i)).toInt64) a k
def ip2 (h : Nat → Int32) (p : Nat) (a : Int64) (k : Nat) : Int64 := fo (fun q a => (31 : Int64) * a + (aWgt h (nI p) (nI q)).toInt64) a k
def ip3 (h : Nat → Int32) (p : Nat) (a : Int64) : Int64 := (31 : Int64) * ((31 : Int64) * ((31 : Int64) * ((31 : Int64) * a + (aMean h (nI p)).toInt64) + (aCamp h (nI p)).toInt64) + (aTin h (nI p) 7).toInt64) + (aRan h 1 (nI p)).toInt64
def ip4 (h : Nat → Int32) (p : Nat) (a : Int64) : Int64 := (31 : Int64) * ((31 : Int64) * a + (aPul h (nI p)).toInt64) + (aFac h (nI p) 4).toInt64
def ip5 (ν : Mem) (a : Int64) (k : Nat) : Int64 := fo (fun i a => (31 : Int64) * a + (aChr ν (nI i)).toInt64) a k
def ip9 (h : Nat → Int32) (n p : Nat) (a : Int64) : Int64 := ip5 (lpM h p) (ip4 h p (ip3 h p (ip2 h p (ip1 h p a 8) n))) (aLn h p)
def as2 (h : Nat → Int32) (n k : Nat) : Int64 := fo (ip9 h n) (as1 h 9) k
def jb1 (h : Nat → Int32) (b : Nat) (a : Int64) (k : Nat) : Int64 := fo (fun w a => (31 : Int64) * a + (aBof h (nI b) (nI w)).toInt64) a k
def jb9 (h : Nat → Int32) (b : Nat) (a : Int64) : Int64 := (31 : Int64) * ((31 : Int64) * jb1 h b a 5 + (aBri h (nI b)).toInt64) + (aWea h (nI b)).toInt64
def as3 (h : Nat → Int32) (n k : Nat) : Int64 := fo (jb9 h) (as2 h n n) k
def asA (h : Nat → Int32) : Int64 := (31 : Int64) * ((31 : Int64) * ((31 : Int64) * ip5 (lbN h) (as3 h (tN (h 0)) (tN (h 1))) (aLb h) + (aRst h).toInt64) + (aCps h).toInt64) + (aGre h 1).toInt64
theorem fo_0 {α : Type} {f : Nat → α → α} {a : α} : fo f a 0 = a := rfl
theorem as1_0 {h : Nat → Int32} : as1 h 0 = as0 h := fo_0 (a := as0 h)
theorem as2_0 {h : Nat → Int32} {n : Nat} : as2 h n 0 = as1 h 9 := fo_0 (a := as1 h 9)
theorem as2_s {h : Nat → Int32} {n k : Nat} : as2 h n (k + 1) = ip9 h n k (as2 h n k) := fo_s (f := ip9 h n) (a := as1 h 9)
theorem as3_0 {h : Nat → Int32} {n : Nat} : as3 h n 0 = as2 h n n := fo_0 (a := as2 h n n)
theorem as3_s {h : Nat → Int32} {n k : Nat} : as3 h n (k + 1) = jb9 h k (as3 h n k) := fo_s (f := jb9 h) (a := as2 h n n)
theorem ip1_0 {h : Nat → Int32} {p : Nat} {a : Int64} : ip1 h p a 0 = a := rfl
theorem ip2_0 {h : Nat → Int32} {p : Nat} {a : Int64} : ip2 h p a 0 = a := rfl
theorem ip5_0 {ν : Mem} {a : Int64} : ip5 ν a 0 = a := rfl
theorem jb1_0 {h : Nat → Int32} {p : Nat} {a : Int64} : jb1 h p a 0 = a := rfl
/-- the ghost while persons are asked -/
def lg (μ : Mem) : Nat → Mem
  | 0 => μ
  | k + 1 => lnS μ (lpM (μ 277) k)
theorem lg_77 {μ : Mem} : ∀ k, lg μ k 277 = μ 277
  | 0 => rfl
  | _ + 1 => lnS_77
theorem lg_n {μ : Mem} (k : Nat) : gn (lg μ k) = gn μ := by show tN (lg μ k 277 0) = _; rw [lg_77]
theorem lg_l {μ : Mem} {ρ : Mem} : ∀ k, lnS (lg μ k) ρ = lnS μ ρ
  | 0 => rfl
  | _ + 1 => lnS_s

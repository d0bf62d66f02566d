/-! more rows and plain functions -/
theorem st_acopy : Cond.static arraycopyName ∈ BW := bw 394 (by decide +kernel) (by decide +kernel)
theorem na_acopy : Cond.native arraycopyName ∈ BW := bw 395 (by decide +kernel) (by decide +kernel)
section WG
variable {p : Program} {l : Launch} {e : Env} {R : Room} {s : State} {m : MethodId} {args : Array Value} {below : List Frame} {meth : Method} {c : Code} {H : Heap} {locs : List Loc} {cells slots : Nat} {Q : State → Prop}
variable {cc : ByteArray} {nL : Nat} {own : String} {pc : Nat} {ls : Array Slot} {rest : List Value}
variable {D : va_G} {ct : Nat → ClassId} {ek ad : Nat → Nat} {N0 : Nat} {X : va_W} {F : State → Prop} {σ : Mem}
theorem wl_row {b : Nat} {ρ : Nat → Int32} {e : va_E} (h : b < 276) (he : cellF ct ek ad b ρ = e) : (wl ct ek ad σ ++ X).set b (ad b, e) = wl ct ek ad (sb σ b ρ) ++ X := by
  rw [List.set_append_left _ _ (by rw [wl_len]; exact h)]
  congr 1
  apply List.ext_getElem?
  intro i
  rw [List.getElem?_set]
  by_cases hi : b = i
  · subst hi
    rw [if_pos rfl, if_pos (by rw [wl_len]; exact h)]
    simp [wl, h, sb_s, he]
  · rw [if_neg hi]
    simp only [wl, List.getElem?_map]
    cases hr : (List.range 276)[i]? with
    | none => rfl
    | some j =>
      have hj : j = i := by
        have := List.getElem?_eq_some_iff.mp hr
        obtain ⟨h1, h2⟩ := this
        simpa using h2.symm
      subst hj
      simp [sb_n (Ne.symm hi)]
/-- System.arraycopy of k ints, from the first place to the first place -/
theorem rcpy {d0 mc ms idx : Nat} (S : CallFix p m c cc nL s args BW own) (G : GI D ct ek ad N0 X F s) (hP : wP D ct ek ad X σ H) (hS : va_S (fr N0) s.heap H locs) (b0 b1 k : Nat) {n0 n1 : Nat} {x y z : Int32} (hR : R = rmd d0 mc ms) (hd : 1 ≤ d0) (hls : ls.size = nL) (hl : Cond.methodLink own idx arraycopyName ∈ BW) (h0 : b0 < 276) (h1 : b1 < 276) (he0 : cellF ct ek ad b0 (σ b0) = .inl (ct 1, n0, .inl (σ b0))) (he1 : ∀ r, cellF ct ek ad b1 r = .inl (ct 1, n1, .inl r))
    (hx : x = nI 0) (hy : y = nI 0) (hz : z = nI k) (hk0 : k ≤ n0) (hk1 : k ≤ n1) (hn : k ≤ 1000) (hrest : (rest.map fun v => v.category).sum ≤ 8) (hdg : decode cc pc = .ok (.invokestatic idx, 3))
    (kk : ∀ (H : Heap) (locs : List Loc), wP D ct ek ad X (sb σ b1 (fil (σ b0) (σ b1) k)) H → va_S (fr N0) s.heap H locs → W p l e R s m args below meth c H locs cells slots Q (F0 m (pc + 3) ls rest)) : W p l e R s m args below meth c H locs cells slots Q (F0 m pc ls (.int z :: .int y :: .ref (ad b1) :: .int x :: .ref (ad b0) :: rest)) := by
  subst hR; subst hx; subst hy; subst hz
  have e0 : (nI 0).toNatClampNeg = 0 := nI_clamp (by omega)
  have ek' : (nI k).toNatClampNeg = k := nI_clamp (by omega)
  have hw : nativeFrameWords "java/lang/System" "arraycopy" 5 = 7 := by decide +kernel
  have hlo : (rest.map fun v => v.category).sum + (nativeFrameWords "java/lang/System" "arraycopy" 5 + 11) ≤ (rmd d0 mc ms).locals := by
    rw [hw]; show _ + (7 + 11) ≤ 32 * d0; omega
  refine va_copyi (D := D) (sp := nI 0) (dp := nI 0) (n := nI k) S.1 S.2.1 (S.2.2.1.trans hls.symm) S.2.2.2.1 (S.2.2.2.2 _ hl) (S.2.2.2.2 _ na_acopy) (S.2.2.2.2 _ st_acopy) (S.2.2.2.2 _ in_RJ10) G.1 hP (G.dom σ) hS b0 b1 1 1 ((wl_at h0).trans (congrArg (fun z => some (ad b0, z)) he0)) ((wl_at h1).trans (congrArg (fun z => some (ad b1, z)) (he1 _))) rfl rfl rfl (by decide) (by decide) (nI_pos (by omega)) (by rw [e0, ek']; omega) (by rw [e0, ek']; omega) (fun _ _ => rfl) hd hlo hdg ?_
  rw [e0, ek']
  intro H1 locs1 h3 _ h5
  rw [wl_row h1 (he1 _)] at h3
  have hf : va_cpy (σ b0) (σ b1) 0 0 k = fil (σ b0) (σ b1) k := by
    funext j
    by_cases hj : j < k <;> simp [va_cpy, fil, hj]
  rw [hf] at h3
  exact kk H1 locs1 h3 h5
end WG
theorem sbAp {σ : Mem} {b c j : Nat} {ρ : Nat → Int32} : sb σ b ρ c j = if c = b then ρ j else σ c j := by
  unfold sb; split <;> rfl
/-- People, on -/
def tellV (T h x : Int32) : Int32 := sgnV T 0 * mxI (abI T - forceV x h) 0
def addPV (u : Nat → Nat) (k : Nat) : Int32 := fo (fun q a => fo (fun _ b => b + 1) a (u q)) 0 k
def addSV (T : Nat → Int32) (u : Nat → Nat) (k : Nat) : Int32 := fo (fun q a => fo (fun _ b => b + T q) a (u q)) 0 k
def mAddV (T : Nat → Int32) (u : Nat → Nat) (n : Nat) : Int32 := if 1 ≤ addPV u n then addSV T u n / addPV u n else 0
def best (f : Nat → Int32) (n : Nat) : Int32 × Int32 := fo (fun q a => if f q ≤ a.1 then a else (f q, nI q)) (0, -1) n
theorem best_s {f : Nat → Int32} {k : Nat} : best f (k + 1) = if f k ≤ (best f k).1 then best f k else (f k, nI k) := rfl
def pullV (σ : Mem) (pb i q : Nat) : Int32 := σ (pb + 7 + i) q * abI (σ (pb + 1) i - σ (pb + 1) q)
def measV (σ : Mem) (pb n : Nat) (w : Int32) (i : Nat) : Int32 := if w = 0 then σ (pb + 1) i else if w = 1 then abI (σ (pb + 1) i) else if w = 2 then σ (pb + 2) i else sumR (σ (pb + 7 + i)) 0 n
def aheadB (a b x y : Int32) : Int32 := if b < a then 1 else if a = b then (if y ≤ x then 0 else 1) else 0
def cntB (f : Nat → Int32) (n : Nat) : Int32 := fo (fun q a => if f q = 0 then a else a + 1) 0 n
def srch (f : Nat → Int32) (x : Int32) : Nat → Nat → Int32
  | 0, _ => -1
  | d + 1, k => if f k = x then nI k else srch f x d (k + 1)
/-- what a copy of a People is -/
def CpP (τ σ : Mem) (pb qb k : Nat) : Prop := (∀ c, ¬ (pb ≤ c ∧ c < pb + 14) → τ c = σ c) ∧ (∀ o j, 1 ≤ o → o ≤ 5 → j < k → τ (pb + o) j = σ (qb + o) j) ∧ (∀ r j, r < k → j < 6 → τ (pb + 7 + r) j = σ (qb + 7 + r) j)
theorem CpP_0 {σ : Mem} {pb qb : Nat} : CpP σ σ pb qb 0 := ⟨fun _ _ => rfl, fun _ _ _ _ h => absurd h (Nat.not_lt_zero _), fun _ _ h => absurd h (Nat.not_lt_zero _)⟩
theorem isP_apart {pb qb : Nat} (h : isP pb) (g : isP qb) (hne : pb ≠ qb) : pb + 14 ≤ qb ∨ qb + 14 ≤ pb := by
  unfold isP isH at h g
  rcases h with h | ⟨a, h, h'⟩ <;> rcases g with g | ⟨b, g, g'⟩
  · omega
  · rcases g with g | g | g | ⟨j, g1, g2⟩ <;> omega
  · rcases h with h | h | h | ⟨j, h1, h2⟩ <;> omega
  · rcases h with h | h | h | ⟨j, h1, h2⟩ <;> rcases g with g | g | g | ⟨i, g1, g2⟩ <;> omega
theorem CpP_s {σ τ : Mem} {pb qb k : Nat} (ha : pb + 14 ≤ qb ∨ qb + 14 ≤ pb) (hk : k < 6) (h : CpP τ σ pb qb k) : CpP (sb (sg (sg (sg (sg (sg τ (pb + 1) k (τ (qb + 1) k)) (pb + 2) k (τ (qb + 2) k)) (pb + 3) k (τ (qb + 3) k)) (pb + 4) k (τ (qb + 4) k)) (pb + 5) k (τ (qb + 5) k)) (pb + 7 + k) (fil (τ (qb + 7 + k)) (τ (pb + 7 + k)) 6)) σ pb qb (k + 1) := by
  obtain ⟨h1, h2, h3⟩ := h
  refine ⟨fun c hc => ?_, fun o j ho1 ho2 hj => ?_, fun r j hr hj => ?_⟩
  · funext j
    have := congrFun (h1 c hc) j
    grind [sg_at, sbAp]
  · have e1 := h1 (qb + o) (by omega)
    have := h2 o j ho1 ho2
    grind [sg_at, sbAp]
  · have e1 := h1 (qb + 7 + r) (by omega)
    have := h3 r j
    grind [sg_at, sbAp, fil]
theorem lv_tope {p : Program} {l : Launch} {e : Env} {R : Room} {s : State} {m : MethodId} {args : Array Value} {below : List Frame} {meth : Method} {c : Code} {H : Heap} {locs : List Loc} {cells slots : Nat} {Q : State → Prop} {pc : Nat} {ls : Array Slot} {rest : List Value} {x y : Int32} (h : x = y) (k : W p l e R s m args below meth c H locs cells slots Q (F0 m pc ls (.int y :: rest))) : W p l e R s m args below meth c H locs cells slots Q (F0 m pc ls (.int x :: rest)) := by
  subst h; exact k
/-- a round of People -/
theorem moveV_c {σ τ : Mem} {pb n i : Nat} (h : ∀ c, c ≠ pb + 13 → τ c = σ c) (hi : i < 6) : moveV τ pb n i = moveV σ pb n i := by
  unfold moveV meanV wsmV
  rw [h (pb + 1) (by omega), h (pb + 2) (by omega), h (pb + 3) (by omega), h (pb + 7 + i) (by omega)]
def prM (σ : Mem) (pb n k : Nat) : Mem := sb (sb (sb (sb σ (pb + 13) (fil (moveV σ pb n) (σ (pb + 13)) n)) (pb + 1) (fil (fun p => σ (pb + 1) p + moveV σ pb n p) (σ (pb + 1)) k)) (pb + 5) (fil (fun p => σ (pb + 5) p + abI (moveV σ pb n p)) (σ (pb + 5)) k)) (pb + 2) (fil (fun p => habV (σ (pb + 2) p) (abI (moveV σ pb n p))) (σ (pb + 2)) k)
theorem prM_ap {σ : Mem} {pb n k c j : Nat} : prM σ pb n k c j = if c = pb + 2 then (if j < k then habV (σ (pb + 2) j) (abI (moveV σ pb n j)) else σ (pb + 2) j) else if c = pb + 5 then (if j < k then σ (pb + 5) j + abI (moveV σ pb n j) else σ (pb + 5) j) else if c = pb + 1 then (if j < k then σ (pb + 1) j + moveV σ pb n j else σ (pb + 1) j) else if c = pb + 13 then (if j < n then moveV σ pb n j else σ (pb + 13) j) else σ c j := by
  unfold prM fil
  simp only [sbAp]
theorem prM_s {σ : Mem} {pb n k : Nat} : sg (sg (sg (prM σ pb n k) (pb + 1) k (σ (pb + 1) k + moveV σ pb n k)) (pb + 5) k (σ (pb + 5) k + abI (moveV σ pb n k))) (pb + 2) k (habV (σ (pb + 2) k) (abI (moveV σ pb n k))) = prM σ pb n (k + 1) := by
  funext c j
  grind [sg_at, prM_ap]
theorem prM_0 {σ : Mem} {pb n : Nat} : sb σ (pb + 13) (fil (moveV σ pb n) (σ (pb + 13)) n) = prM σ pb n 0 := by
  funext c j
  grind [sbAp, prM_ap, fil]
theorem wP_e {D : va_G} {ct : Nat → ClassId} {ek ad : Nat → Nat} {X : va_W} {σ τ : Mem} {H : Heap} (h : wP D ct ek ad X σ H) (e : σ = τ) : wP D ct ek ad X τ H := e ▸ h
/-- Beams -/
def inN (x : Int32) (N : Nat) : Prop := x = nI x.toNatClampNeg ∧ x.toNatClampNeg < N
def BOK (σ : Mem) (bb m : Nat) : Prop := σ bb 4 = nI m ∧ m ≤ 6 ∧ ∀ q, q < m → inN (σ (bb + 1) q) 6 ∧ inN (σ (bb + 2) q) 6
def diffB (σ : Mem) (bb pb i : Nat) : Int32 := abI (σ (pb + 1) (σ (bb + 1) i).toNatClampNeg - σ (pb + 1) (σ (bb + 2) i).toNatClampNeg)
def overB (σ : Mem) (bb pb i : Nat) : Int32 := if diffB σ bb pb i ≤ σ (bb + 3) i then 0 else 1
theorem isPB_apart {pb bb : Nat} (h : isP pb) (g : isB bb) : pb + 14 ≤ bb ∨ bb + 5 ≤ pb := by
  unfold isP at h
  obtain ⟨b, g, rfl⟩ := g
  unfold isH at h g
  rcases h with h | ⟨a, h, h'⟩
  · rcases g with g | g | g | ⟨j, g1, g2⟩ <;> omega
  · rcases h with h | h | h | ⟨j, h1, h2⟩ <;> rcases g with g | g | g | ⟨i, g1, g2⟩ <;> omega
def crk (σ : Mem) (bb pb k : Nat) : Mem := sb σ (bb + 4) (fil (fun q => if overB σ bb pb q = 0 then σ (bb + 4) q else σ (bb + 4) q + 1) (σ (bb + 4)) k)
theorem crk_ap {σ : Mem} {bb pb k c j : Nat} : crk σ bb pb k c j = if c = bb + 4 ∧ j < k ∧ ¬ overB σ bb pb j = 0 then σ c j + 1 else σ c j := by
  unfold crk fil
  simp only [sbAp]
  grind
theorem overB_c {σ : Mem} {bb pb k i : Nat} (ha : pb + 14 ≤ bb ∨ bb + 5 ≤ pb) : overB (crk σ bb pb k) bb pb i = overB σ bb pb i := by
  have e1 : crk σ bb pb k (bb + 1) = σ (bb + 1) := by funext j; grind [crk_ap]
  have e2 : crk σ bb pb k (bb + 2) = σ (bb + 2) := by funext j; grind [crk_ap]
  have e3 : crk σ bb pb k (bb + 3) = σ (bb + 3) := by funext j; grind [crk_ap]
  have e4 : crk σ bb pb k (pb + 1) = σ (pb + 1) := by funext j; grind [crk_ap]
  unfold overB diffB
  rw [e1, e2, e3, e4]
def shB (σ : Mem) (bb i k : Nat) : Mem := fun c j => if bb + 1 ≤ c ∧ c ≤ bb + 4 ∧ i ≤ j ∧ j + 1 < k then σ c (j + 1) else σ c j
theorem shB_0 {σ : Mem} {bb i : Nat} : shB σ bb i (i + 1) = σ := by
  funext c j; grind [shB]
theorem shB_s {σ : Mem} {bb i k : Nat} (h : i + 1 ≤ k) : sg (sg (sg (sg (shB σ bb i k) (bb + 1) (k - 1) (σ (bb + 1) k)) (bb + 2) (k - 1) (σ (bb + 2) k)) (bb + 3) (k - 1) (σ (bb + 3) k)) (bb + 4) (k - 1) (σ (bb + 4) k) = shB σ bb i (k + 1) := by
  funext c j
  grind [sg_at, shB]
def takeB (σ : Mem) (bb i m : Nat) : Mem := sg (shB σ bb i m) bb 4 (nI (m - 1))
def brk (bb : Nat) : Nat → Mem → Nat → Mem × Nat
  | 0, σ, m => (σ, m)
  | k + 1, σ, m => if σ (bb + 4) k < 3 then brk bb k σ m else brk bb k (takeB σ bb k m) (m - 1)
def weakB (σ : Mem) (bb pb i j : Nat) : Int32 :=
  if σ (bb + 3) i - diffB σ bb pb i = σ (bb + 3) j - diffB σ bb pb j then (if σ (bb + 4) i = σ (bb + 4) j then (if nI j ≤ nI i then 0 else 1) else if σ (bb + 4) i ≤ σ (bb + 4) j then 0 else 1)
  else if σ (bb + 3) j - diffB σ bb pb j ≤ σ (bb + 3) i - diffB σ bb pb i then 0 else 1
def bmB (σ : Mem) (bb : Nat) (x y : Int32) (q : Nat) : Int32 := if σ (bb + 1) q = x then (if σ (bb + 2) q = y then 1 else 0) else 0
def CpB (τ σ : Mem) (bb cb : Nat) : Prop := (∀ c, ¬ (bb ≤ c ∧ c < bb + 5) → τ c = σ c) ∧ (∀ o j, 1 ≤ o → o ≤ 4 → j < 6 → τ (bb + o) j = σ (cb + o) j) ∧ τ bb 4 = σ cb 4
theorem isB_apart {bb cb : Nat} (h : isB bb) (g : isB cb) (hne : bb ≠ cb) : bb + 5 ≤ cb ∨ cb + 5 ≤ bb := by
  obtain ⟨a, h, rfl⟩ := h
  obtain ⟨b, g, rfl⟩ := g
  unfold isH at h g
  rcases h with h | h | h | ⟨j, h1, h2⟩ <;> rcases g with g | g | g | ⟨i, g1, g2⟩ <;> omega

/-! the ghost: what each call of the law's makes of it -/
abbrev gn (μ : Mem) : Nat := tN (μ 277 0)
abbrev gm (μ : Mem) : Nat := tN (μ 277 1)
abbrev gu (μ : Mem) : Nat := tN (μ 276 4)
abbrev gL (μ : Mem) : Nat := tN (μ 276 11)
def hA (T V : Int32) : Int32 := if T = 0 then V else -1000 - T
theorem exV_e {i : Nat} {V : Int32} (h : i < 3) : exV i = hA (nI (i + 1)) V := by
  unfold hA
  rw [if_neg (nI_ne0 (by omega) (by omega))]
  rcases (show i = 0 ∨ i = 1 ∨ i = 2 by omega) with rfl | rfl | rfl <;> decide
theorem WF.n0 {h : Nat → Int32} {n mb : Nat} (w : WF h n mb) : tN (h 0) = n ∧ tN (h 1) = mb := by
  have h1 := w.1.2.1
  have h2 := w.1.2.2.2.1
  exact ⟨by rw [w.1.1]; exact tN_nI (by omega), by rw [w.1.2.2.1]; exact tN_nI (by omega)⟩
section GMS
variable {σ μ τ ν ρ : Mem} {r : Int32} {E : String} {h : Nat → Int32}
theorem CRel.gw (C : CRel σ μ) : WF (μ 277) (gn μ) (gm μ) := by
  obtain ⟨⟨⟨n, mb, w⟩, g⟩, -⟩ := C
  have e := w.n0
  show WF (μ 277) (tN (μ 277 0)) (tN (μ 277 1))
  rw [e.1, e.2]; exact w
theorem CRel.gh (C : CRel σ μ) : HR σ 1 (μ 277) := C.1.2
theorem CRel.go (C : CRel σ μ) : HOK σ 1 (gn μ) (gm μ) := HR_hok C.gw C.gh C.2.1.1
theorem CRel.gj (C : CRel σ μ) : σ 77 1 = nI (tN (σ 77 1)) ∧ tN (σ 77 1) < 8 ∧ σ 77 2 = nI (gu μ) ∧ gu μ ≤ 8 ∧ μ 276 4 = nI (gu μ) := by
  obtain ⟨-, -, ⟨jn, u, a1, a2, a3, a4, a5, -⟩, -⟩ := C
  have e1 : tN (σ 77 1) = jn := by rw [a3]; exact tN_nI (by omega)
  have e2 : gu μ = u := by show tN (μ 276 4) = u; rw [a5]; exact tN_nI (by omega)
  rw [e1, e2]
  exact ⟨a3, a1, a4, a2, a5⟩
theorem CRel.gt (C : CRel σ μ) : σ 239 3 = nI (gL μ) ∧ gL μ ≤ 60 ∧ μ 276 11 = nI (gL μ) ∧ σ 240 = μ 284 ∧ ∀ j, j < 60 → vp_nar .char (μ 284 j) = μ 284 j := by
  obtain ⟨-, -, -, -, ⟨L, b1, b2, b3, b4, b5⟩, -⟩ := C
  have e1 : gL μ = L := by show tN (μ 276 11) = L; rw [b3]; exact tN_nI (by omega)
  rw [e1]
  exact ⟨b2, b1, b3, b4, b5⟩
/-- refused, with its reason -/
def gR (μ : Mem) (w d c : Int32) : Mem := sg (sg (sg μ 276 16 w) 276 17 d) 276 18 c
theorem gR_c {w d x : Int32} {c : Nat} (h : c ≠ 276) : gR μ w d x c = μ c := by unfold gR; rw [sg_n h, sg_n h, sg_n h]
theorem gR_j {w d x : Int32} {j : Nat} (h : j ≠ 16 ∧ j ≠ 17 ∧ j ≠ 18) : gR μ w d x 276 j = μ 276 j := by
  unfold gR; rw [sg_at, if_neg (by omega), sg_at, if_neg (by omega), sg_at, if_neg (by omega)]
theorem gR_w {w d x : Int32} : gR μ w d x 276 16 = w ∧ gR μ w d x 276 17 = d ∧ gR μ w d x 276 18 = x := by
  unfold gR; simp [sg_at]
theorem gR_r {w d x w' d' x' : Int32} : gR (gR μ w d x) w' d' x' = gR μ w' d' x' := by
  funext c j
  unfold gR
  simp only [sg_at]
  grind
/-- done: the row h, and what was before among the rows kept -/
def gK (μ : Mem) (h : Nat → Int32) : Mem := sg (sb (sb μ 277 h) 280 (fun q => if q < 96 * kpU (gu μ) then (if gu μ = 8 then μ 280 (96 + q) else μ 280 q) else μ 277 (q - 96 * kpU (gu μ)))) 276 4 (nI (kpU (gu μ) + 1))
theorem gK_c {c : Nat} (h1 : c ≠ 276) (h2 : c ≠ 277) (h3 : c ≠ 280) : gK μ h c = μ c := by unfold gK; rw [sg_n h1, sb_n h3, sb_n h2]
theorem gK_j {j : Nat} (h1 : j ≠ 4) : gK μ h 276 j = μ 276 j := by unfold gK; rw [sg_at, if_neg (by omega), sb_n (by decide), sb_n (by decide)]
theorem gK_77 : gK μ h 277 = h := by unfold gK; rw [sg_n (by decide), sb_n (by decide), sb_s]
theorem gK_80 : gK μ h 280 = fun q => if q < 96 * kpU (gu μ) then (if gu μ = 8 then μ 280 (96 + q) else μ 280 q) else μ 277 (q - 96 * kpU (gu μ)) := by unfold gK; rw [sg_n (by decide), sb_s]
theorem gK_4 : gK μ h 276 4 = nI (kpU (gu μ) + 1) := by unfold gK; rw [sg_ss]
theorem gK_md (h : Nat → Int32) : MdOK (gK μ h) μ h ∧ MdT (gK μ h) μ ∧ MdR (gK μ h) μ := by
  refine ⟨⟨fun j _ => by rw [gK_77], gK_c (by decide) (by decide) (by decide), gK_c (by decide) (by decide) (by decide), gK_j (by decide), gK_j (by decide), fun u hu8 hu => ?_⟩, ⟨⟨gK_j (by decide), gK_c (by decide) (by decide) (by decide)⟩, gK_j (by decide)⟩, gK_j (by decide), gK_j (by decide), gK_j (by decide)⟩
  have e : gu μ = u := by show tN (μ 276 4) = u; rw [hu]; exact tN_nI (by omega)
  refine ⟨by rw [gK_4, e], fun i hi j hj => ?_, fun j hj => ?_⟩
  · unfold rowK
    rw [gK_80, e]
    show (if 96 * i + j < 96 * kpU u then _ else _) = _
    rw [if_pos (by omega)]
    by_cases c : u = 8
    · rw [if_pos c, if_pos c]
      show μ 280 (96 + (96 * i + j)) = μ 280 (96 * (i + 1) + j)
      exact congrArg _ (by omega)
    · rw [if_neg c, if_neg c]
  · unfold rowK
    rw [gK_80, e]
    show (if 96 * kpU u + j < 96 * kpU u then _ else μ 277 (96 * kpU u + j - 96 * kpU u)) = _
    rw [if_neg (by omega)]
    exact congrArg _ (by omega)
theorem MdOK.b (m : MdOK ν ρ h) (e7 : ρ 277 = μ 277) (e0 : ρ 280 = μ 280) (e1 : ρ 281 = μ 281) (e3 : ρ 283 = μ 283) (f6 : ρ 276 6 = μ 276 6) (f9 : ρ 276 9 = μ 276 9) (f4 : ρ 276 4 = μ 276 4) : MdOK ν μ h := by
  have er : ∀ i, rowK ρ i = rowK μ i := fun i => by unfold rowK; rw [e0]
  obtain ⟨m1, m2, m3, m4, m5, m6⟩ := m
  refine ⟨m1, m2.trans e1, m3.trans e3, m4.trans f6, m5.trans f9, fun u hu8 hu => ?_⟩
  obtain ⟨a, b, c⟩ := m6 u hu8 (f4.trans hu)
  exact ⟨a, fun i hi j hj => by rw [b i hi j hj, er], fun j hj => by rw [c j hj, e7]⟩
/-- a change -/
def chG (μ : Mem) (i : Nat) (x y z : Int32) : Int32 × Mem :=
  if (stp (μ 277) i x y z).1 = 0 then (-1001, gR μ (stp (μ 277) i x y z).2.2.2.1 (stp (μ 277) i x y z).2.2.2.2 0) else ((stp (μ 277) i x y z).2.2.1, gK μ (stp (μ 277) i x y z).2.1)
theorem ch_q {i : Nat} {x y z : Int32} (C : CRel σ μ) (hi : i < 8) (h : CcR τ (askM σ 273 i x y z) (gn μ) (gm μ) i (tN (σ 77 1)) (gu μ) r) : ∃ ν, CRel τ ν ∧ (r = (chG μ i x y z).1 ∧ ν = (chG μ i x y z).2) := by
  obtain ⟨a1, a2, a3, a4, -⟩ := C.gj
  obtain ⟨k1, k2, -, k4⟩ := chg_ok C C.gw hi a1 a2 a3 a4 h
  have h0 : ¬ (stp (μ 277) i x y z).1 = 0 := by rw [k1]; decide
  obtain ⟨m1, m2, m3⟩ := gK_md (μ := μ) (stp (μ 277) i x y z).2.1
  refine ⟨_, k4 _ m1 m2 m3, ?_, ?_⟩
  · unfold chG; rw [if_neg h0]; exact k2
  · unfold chG; rw [if_neg h0]
theorem ch_e {i : Nat} {x y z : Int32} (C : CRel σ μ) (hi : i < 8) (h : E = "java/lang/UnsupportedOperationException" ∧ CcX τ (askM σ 273 i x y z) (gn μ) (gm μ) i) : ∃ k, ([eUO] : List String)[k]? = some E ∧ ∃ ν, CRel τ ν ∧ (exV k = (chG μ i x y z).1 ∧ ν = (chG μ i x y z).2) := by
  obtain ⟨h1, h2⟩ := h
  obtain ⟨k1, -, k4⟩ := chg_no C C.gw hi h2
  refine ⟨0, by rw [h1]; rfl, gR μ (stp (μ 277) i x y z).2.2.2.1 (stp (μ 277) i x y z).2.2.2.2 0, k4 _ ⟨fun j _ => by rw [gR_c (by decide)], ⟨gR_j (by decide), gR_c (by decide)⟩, ⟨gR_j (by decide), gR_c (by decide)⟩, ⟨gR_j (by decide), gR_c (by decide)⟩, ⟨gR_j (by decide), gR_c (by decide)⟩, gR_j (by decide)⟩ ⟨gR_w.1, gR_w.2.1, gR_w.2.2⟩, ?_, ?_⟩
  · unfold chG; rw [if_pos k1]; rfl
  · unfold chG; rw [if_pos k1]
/-- a question -/
theorem qQ {P : Mem → Prop} {T V Tg Vg : Int32} (hP : P τ → CRel τ μ) (hT : T = Tg) (hV : T = 0 → V = Vg) (h : P τ ∧ T = 0 ∧ r = V) : ∃ ν, CRel τ ν ∧ (r = hA Tg Vg ∧ ν = μ) := by
  obtain ⟨h1, h2, h3⟩ := h
  refine ⟨μ, hP h1, ?_, rfl⟩
  unfold hA
  rw [if_pos (hT.symm.trans h2), h3]
  exact hV h2
theorem qE {Es : List String} {P : Mem → Prop} {T Tg Vg : Int32} (hl : Es.length ≤ 3) (hP : P τ → CRel τ μ) (hT : T = Tg) (h : PXd Es T P E τ) : ∃ i, Es[i]? = some E ∧ ∃ ν, CRel τ ν ∧ (exV i = hA Tg Vg ∧ ν = μ) := by
  obtain ⟨h1, i, h2, h3⟩ := h
  have hi := (List.getElem?_eq_some_iff.mp h2).1
  refine ⟨i, h2, μ, hP h1, ?_, rfl⟩
  rw [← hT, h3]
  exact exV_e (by omega)
theorem eqC (C : CRel σ μ) (h : τ = σ) : CRel τ μ := h ▸ C
theorem fcC (C : CRel σ μ) (h : FcP τ σ) : CRel τ μ := C.irr (fun c _ hc => h c (by omega))
theorem npE (C : CRel σ μ) {x : Int32} : npT σ x = (if one1 μ x = 0 then 1 else 0) := q_np C.gw C.gh
/-- meanAgain's own numbers -/
theorem aga_h {n mb : Nat} {x : Int32} (W : WF (μ 277) n mb) (g : HR σ 1 (μ 277)) (hp : tN x < n) : (∀ q, q < n → (if q = tN x then σ (1 + 1 + 2) (tN x) + 1 else σ (1 + 1 + 7 + tN x) q) = nI (tN (if q = tN x then σ (1 + 1 + 2) (tN x) + 1 else σ (1 + 1 + 7 + tN x) q))) ∧ (∀ q, q < n → tN (if q = tN x then σ (1 + 1 + 2) (tN x) + 1 else σ (1 + 1 + 7 + tN x) q) ≤ 10) := by
  have hn := W.1.2.1
  have k : ∀ q, q < n → ∃ a, a ≤ 10 ∧ (if q = tN x then σ (1 + 1 + 2) (tN x) + 1 else σ (1 + 1 + 7 + tN x) q) = nI a := fun q hq => by
    by_cases c : q = tN x
    · rw [if_pos c, show σ (1 + 1 + 2) (tN x) = _ from (g.1.2 (tN x) (by omega)).2.1]
      obtain ⟨a, ha, ea⟩ := W.1.2.2.2.2.1 (tN x) (by omega)
      exact ⟨a + 1, by omega, by rw [ea]; exact nI_1 a⟩
    · rw [if_neg c, show σ (1 + 1 + 7 + tN x) q = _ from (g.1.2 (tN x) (by omega)).2.2.2 q (by omega)]
      obtain ⟨a, ha, ea⟩ := W.1.2.2.2.2.2.1 (tN x) q (by omega) (by omega)
      exact ⟨a, by omega, ea⟩
  refine ⟨fun q hq => ?_, fun q hq => ?_⟩
  · obtain ⟨a, ha, ea⟩ := k q hq
    rw [ea, tN_nI (by omega)]
  · obtain ⟨a, ha, ea⟩ := k q hq
    rw [ea, tN_nI (by omega)]; exact ha
theorem hB_p {n mb : Nat} {x : Int32} (W : WF (μ 277) n mb) (g : HR σ 1 (μ 277)) (h : ¬ hB σ x = 0) : tN x < n := (q_p W (by rw [← q_hold W g]; exact h)).1
theorem aga_e {n mb : Nat} {x : Int32} (W : WF (μ 277) n mb) (g : HR σ 1 (μ 277)) (hp : tN x < n) : mAddV (σ (1 + 1 + 1)) (fun q => tN (if q = tN x then σ (1 + 1 + 2) (tN x) + 1 else σ (1 + 1 + 7 + tN x) q)) n = mnR (μ 277) n (tN x) := by
  have hn := W.1.2.1
  refine q_aga W hp (fun q hq => (g.1.2 q (by omega)).1) (fun q hq => ?_)
  have := (aga_h W g hp).1 q hq
  rw [← this]
  by_cases c : q = tN x
  · rw [if_pos c, if_pos c, show σ (1 + 1 + 2) (tN x) = _ from (g.1.2 (tN x) (by omega)).2.1]
  · rw [if_neg c, if_neg c, show σ (1 + 1 + 7 + tN x) q = _ from (g.1.2 (tN x) (by omega)).2.2.2 q (by omega)]
/-- accounts -/
theorem accE (C : CRel σ μ) {x : Int32} (h : accT x = 0) : accX σ (gn μ) x = accV μ (gn μ) x := by
  rcases q_acc (x := x) C C.gw with h1 | h1
  · exact h1
  · exact absurd h h1
/-- lines -/
def z0 : Mem := fun _ _ => 0
def lnS (μ ν : Mem) : Mem := sg (sb μ 283 (ν 283)) 276 9 (ν 276 9)
theorem lnS_c {c : Nat} (h1 : c ≠ 276) (h2 : c ≠ 283) : lnS μ ν c = μ c := by unfold lnS; rw [sg_n h1, sb_n h2]
theorem lnS_j {j : Nat} (h : j ≠ 9) : lnS μ ν 276 j = μ 276 j := by unfold lnS; rw [sg_at, if_neg (by omega), sb_n (by decide)]
theorem lnS_9 : lnS μ ν 276 9 = ν 276 9 := by unfold lnS; rw [sg_ss]
theorem lnS_83 : lnS μ ν 283 = ν 283 := by unfold lnS; rw [sg_n (by decide), sb_s]
theorem lnS_s : lnS (lnS μ ρ) ν = lnS μ ν := by
  funext c j
  unfold lnS
  simp only [sg_at, sbAp]
  grind
theorem lnS_rel (C : CRel σ μ) (F : ∀ c, c ≠ 274 → c ≠ 275 → τ c = σ c) (hl : LnR τ ν) : CRel τ (lnS μ ν) :=
  ln_rel C F (fun c h1 h2 => lnS_c h1 h2) (fun j h1 _ => lnS_j h1) (by unfold LnR; rw [lnS_9, lnS_83]; exact hl)
theorem z0_n : ∀ j, j < 120 → narrow .char (.int (z0 283 j)) = .int (z0 283 j) := fun j _ => (show narrow .char (.int 0) = .int 0 by decide)
theorem CRel.gc (C : CRel σ μ) : ∀ j, j < 64 → narrow .char (.int (σ 275 j)) = .int (σ 275 j) := by
  obtain ⟨-, -, -, -, -, ⟨L, -, -, -, -, h, -⟩, -⟩ := C
  exact h
def linG (μ : Mem) (x : Int32) : Int32 × Mem := if one1 μ x = 0 then (-1001, μ) else (lnK (μ 277) z0 (tN x) (gn μ) 276 9, lnS μ (lnK (μ 277) z0 (tN x) (gn μ)))
theorem lin_q {x : Int32} (C : CRel σ μ) (h : τ = wpM σ (1 + 1) (gn μ) (tN x) ∧ npT σ x = 0 ∧ r = wpM σ (1 + 1) (gn μ) (tN x) 274 1) : ∃ ν, CRel τ ν ∧ (r = (linG μ x).1 ∧ ν = (linG μ x).2) := by
  obtain ⟨rfl, h2, rfl⟩ := h
  rw [npE C] at h2
  have c1 : ¬ one1 μ x = 0 := fun z => by rw [if_pos z] at h2; exact absurd h2 (by decide)
  have L := wp_ll (ν := z0) C.gw C.gh (q_p C.gw c1).2 C.gc z0_n
  refine ⟨_, lnS_rel C (fun c h1 h2 => (LnP_wpM (gn μ)).1 c h1 h2) (L.ln (by omega)), ?_, ?_⟩
  · unfold linG; rw [if_neg c1]; exact L.eq
  · unfold linG; rw [if_neg c1]
theorem lin_e {x : Int32} (C : CRel σ μ) (h : PXd ["java/lang/IndexOutOfBoundsException"] (npT σ x) (fun τ => τ = σ) E τ) : ∃ i, ([eIB] : List String)[i]? = some E ∧ ∃ ν, CRel τ ν ∧ (exV i = (linG μ x).1 ∧ ν = (linG μ x).2) := by
  obtain ⟨h1, i, h2, h3⟩ := h
  have hi := (List.getElem?_eq_some_iff.mp h2).1
  have i0 : i = 0 := by
    have : i < 1 := hi
    omega
  subst i0
  rw [npE C] at h3
  have c1 : one1 μ x = 0 := by
    by_cases z : one1 μ x = 0
    · exact z
    · rw [if_neg z] at h3; exact absurd h3 (by decide)
  refine ⟨0, h2, μ, eqC C h1, ?_, ?_⟩
  · unfold linG; rw [if_pos c1]; rfl
  · unfold linG; rw [if_pos c1]
def bmsG (μ : Mem) : Int32 × Mem := (lbM (μ 277) z0 (gm μ) 276 9, lnS μ (lbM (μ 277) z0 (gm μ)))
theorem bms_q (C : CRel σ μ) (h : r = wbM σ (1 + 15) (gm μ) 274 1 ∧ τ = wbM σ (1 + 15) (gm μ)) : ∃ ν, CRel τ ν ∧ (r = (bmsG μ).1 ∧ ν = (bmsG μ).2) := by
  obtain ⟨rfl, rfl⟩ := h
  have L := wb_ll (ν := z0) C.gw C.gh C.gc z0_n
  exact ⟨_, lnS_rel C (fun c h1 h2 => (LnP_wbM (gm μ)).1 c h1 h2) (L.ln (by omega)), L.eq, rfl⟩
theorem bm_hk (C : CRel σ μ) : ∀ q, q < gm μ → σ (1 + 15 + 4) q = nI (tN (σ (1 + 15 + 4) q)) ∧ tN (σ (1 + 15 + 4) q) ≤ 9 := fun q hq => by
  obtain ⟨-, -, ⟨b, hb, eb⟩, -⟩ := C.gw.2.2.2.2.2.2.2.1 q hq
  rw [(bm_e C.gw C.gh hq).2.2.2, eb, tN_nI (by omega)]
  exact ⟨rfl, by omega⟩
/-- append -/
def apG (μ : Mem) (ch : Int32) : Int32 × Mem := if gL μ = 60 then (-1001, μ) else (nI (gL μ + 1), apeM μ (gL μ) ch)
theorem ap_q {ch : Int32} (hc : vp_nar .char ch = ch) (C : CRel σ μ) (h : τ = sg (sg σ 240 (gL μ) ch) 239 3 (nI (gL μ + 1)) ∧ apeXT (gL μ) = 0 ∧ r = nI (gL μ + 1)) : ∃ ν, CRel τ ν ∧ (r = (apG μ ch).1 ∧ ν = (apG μ ch).2) := by
  obtain ⟨rfl, h2, rfl⟩ := h
  have l6 : gL μ < 60 := by
    unfold apeXT at h2
    by_cases q : gL μ < 60
    · exact q
    · rw [if_neg q] at h2; exact absurd h2 (by decide)
  refine ⟨_, (ape_rel hc C C.gt.1 l6).2, ?_, ?_⟩
  · unfold apG; rw [if_neg (by omega)]
  · unfold apG; rw [if_neg (by omega)]
theorem ap_e {ch : Int32} (C : CRel σ μ) (h : PXd ["java/lang/IllegalStateException"] (apeXT (gL μ)) (fun τ => τ = σ) E τ) : ∃ i, ([eIS] : List String)[i]? = some E ∧ ∃ ν, CRel τ ν ∧ (exV i = (apG μ ch).1 ∧ ν = (apG μ ch).2) := by
  obtain ⟨h1, i, h2, h3⟩ := h
  have hi := (List.getElem?_eq_some_iff.mp h2).1
  have i0 : i = 0 := by
    have : i < 1 := hi
    omega
  subst i0
  have l6 : gL μ = 60 := by
    have := C.gt.2.1
    unfold apeXT at h3
    by_cases q : gL μ < 60
    · rw [if_pos q] at h3; exact absurd h3 (by decide)
    · omega
  refine ⟨0, h2, μ, eqC C h1, ?_, ?_⟩
  · unfold apG; rw [if_pos l6]; rfl
  · unfold apG; rw [if_pos l6]
/-- commands -/
def cmB (μ : Mem) (f : Int32) : Mem := sg (sg μ 276 11 0) 276 15 f
theorem cmB_c {f : Int32} {c : Nat} (h : c ≠ 276) : cmB μ f c = μ c := by unfold cmB; rw [sg_n h, sg_n h]
theorem cmB_j {f : Int32} {j : Nat} (h : j ≠ 11 ∧ j ≠ 15) : cmB μ f 276 j = μ 276 j := by unfold cmB; rw [sg_at, if_neg (by omega), sg_at, if_neg (by omega)]
theorem cmB_w {f : Int32} : cmB μ f 276 11 = 0 ∧ cmB μ f 276 15 = f := by unfold cmB; simp [sg_at]
def cmG (μ : Mem) : Int32 × Mem :=
  if (cmP μ (gL μ)).1 = 0 then (-1001, cmB μ (nI (cmP μ (gL μ)).2))
  else if (cmX μ (gL μ)).1 = 0 then (-1002, gR (cmB μ (-1)) (cmX μ (gL μ)).2.2.2.1 (cmX μ (gL μ)).2.2.2.2 (nI (cmX μ (gL μ)).2.2.1))
  else (nI (cmX μ (gL μ)).2.2.1, gK (cmB μ (-1)) (cmX μ (gL μ)).2.1)
theorem cm_q (C : CRel σ μ) (h : CmR τ σ (gL μ) (tN (σ 77 1)) (gu μ) r) : ∃ ν, CRel τ ν ∧ (r = (cmG μ).1 ∧ ν = (cmG μ).2) := by
  obtain ⟨a1, a2, a3, a4, -⟩ := C.gj
  obtain ⟨k1, k2, k3, -, k4⟩ := cmd_ok C C.gt.2.1 a1 a2 a3 a4 h
  have h0 : ¬ (cmX μ (gL μ)).1 = 0 := by rw [k2]; decide
  obtain ⟨m1, m2, m3⟩ := gK_md (μ := cmB μ (-1)) (cmX μ (gL μ)).2.1
  refine ⟨gK (cmB μ (-1)) (cmX μ (gL μ)).2.1, k4 _ (m1.b (cmB_c (by decide)) (cmB_c (by decide)) (cmB_c (by decide)) (cmB_c (by decide)) (cmB_j (by decide)) (cmB_j (by decide)) (cmB_j (by decide))) (by rw [gK_j (by decide)]; exact cmB_w.1) (by rw [gK_c (by decide) (by decide) (by decide)]; exact cmB_c (by decide)) (by rw [gK_j (by decide)]; exact cmB_w.2) ⟨m3.1.trans (cmB_j (by decide)), m3.2.1.trans (cmB_j (by decide)), m3.2.2.trans (cmB_j (by decide))⟩, ?_, ?_⟩
  · unfold cmG; rw [if_neg k1, if_neg h0]; exact k3
  · unfold cmG; rw [if_neg k1, if_neg h0]
theorem cm_e (C : CRel σ μ) (h : (E = "java/lang/IllegalArgumentException" ∧ CmX0 τ σ (gL μ)) ∨ (E = "java/lang/UnsupportedOperationException" ∧ CmX1 τ σ (gL μ))) : ∃ i, ([eIA, eUO] : List String)[i]? = some E ∧ ∃ ν, CRel τ ν ∧ (exV i = (cmG μ).1 ∧ ν = (cmG μ).2) := by
  rcases h with ⟨rfl, h⟩ | ⟨rfl, h⟩
  · obtain ⟨k1, -, k4⟩ := cmd_x0 C h
    refine ⟨0, rfl, cmB μ (nI (cmP μ (gL μ)).2), k4 _ (fun j _ => by rw [cmB_c (by decide)]) ⟨cmB_j (by decide), cmB_c (by decide)⟩ ⟨cmB_j (by decide), cmB_c (by decide)⟩ ⟨cmB_j (by decide), cmB_c (by decide)⟩ cmB_w.1 (cmB_c (by decide)) cmB_w.2 ⟨cmB_j (by decide), cmB_j (by decide), cmB_j (by decide)⟩, ?_, ?_⟩
    · unfold cmG; rw [if_pos k1]; rfl
    · unfold cmG; rw [if_pos k1]
  · obtain ⟨k1, k2, -, k4⟩ := cmd_x1 C C.gt.2.1 h
    refine ⟨1, rfl, gR (cmB μ (-1)) (cmX μ (gL μ)).2.2.2.1 (cmX μ (gL μ)).2.2.2.2 (nI (cmX μ (gL μ)).2.2.1), k4 _ (fun j _ => by rw [gR_c (by decide), cmB_c (by decide)]) ⟨by rw [gR_j (by decide)]; exact cmB_j (by decide), by rw [gR_c (by decide)]; exact cmB_c (by decide)⟩ ⟨by rw [gR_j (by decide)]; exact cmB_j (by decide), by rw [gR_c (by decide)]; exact cmB_c (by decide)⟩ ⟨by rw [gR_j (by decide)]; exact cmB_j (by decide), by rw [gR_c (by decide)]; exact cmB_c (by decide)⟩ (by rw [gR_j (by decide)]; exact cmB_w.1) (by rw [gR_c (by decide)]; exact cmB_c (by decide)) (by rw [gR_j (by decide)]; exact cmB_w.2) gR_w, ?_, ?_⟩
    · unfold cmG; rw [if_neg k1, if_pos k2]; rfl
    · unfold cmG; rw [if_neg k1, if_pos k2]
/-- undo, save, restore -/
def unG (μ : Mem) : Int32 × Mem := if gu μ = 0 then (-1001, μ) else (nI (gu μ - 1), undM μ (gu μ))
theorem un_q (C : CRel σ μ) (h : UndQ τ σ (tN (σ 77 1)) (gu μ) ∧ undT (gu μ) = 0 ∧ r = nI (gu μ - 1)) : ∃ ν, CRel τ ν ∧ (r = (unG μ).1 ∧ ν = (unG μ).2) := by
  obtain ⟨h1, h2, h3⟩ := h
  obtain ⟨a1, a2, a3, a4, -⟩ := C.gj
  have u0 : ¬ gu μ = 0 := fun q => by unfold undT at h2; rw [if_pos q] at h2; exact absurd h2 (by decide)
  refine ⟨_, (und_rel C a1 a2 a3 a4 u0 h1).2, ?_, ?_⟩
  · unfold unG; rw [if_neg u0]; exact h3
  · unfold unG; rw [if_neg u0]
theorem un_e (C : CRel σ μ) (h : PXd ["java/lang/IllegalStateException"] (undT (gu μ)) (fun τ => τ = σ) E τ) : ∃ i, ([eIS] : List String)[i]? = some E ∧ ∃ ν, CRel τ ν ∧ (exV i = (unG μ).1 ∧ ν = (unG μ).2) := by
  obtain ⟨h1, i, h2, h3⟩ := h
  have hi := (List.getElem?_eq_some_iff.mp h2).1
  have i0 : i = 0 := by
    have : i < 1 := hi
    omega
  subst i0
  have u0 : gu μ = 0 := by
    unfold undT at h3
    by_cases q : gu μ = 0
    · exact q
    · rw [if_neg q] at h3; exact absurd h3 (by decide)
  refine ⟨0, h2, μ, eqC C h1, ?_, ?_⟩
  · unfold unG; rw [if_pos u0]; rfl
  · unfold unG; rw [if_pos u0]
def rsG (μ : Mem) : Int32 × Mem := if μ 276 6 = 0 then (-1001, μ) else (μ 281 0, rstM μ)
theorem rs_q (C : CRel σ μ) (h : RstQ τ σ ∧ rstT σ = 0 ∧ r = σ (41 + 1) 7) : ∃ ν, CRel τ ν ∧ (r = (rsG μ).1 ∧ ν = (rsG μ).2) := by
  obtain ⟨h1, h2, h3⟩ := h
  have u0 : ¬ σ 0 9 = 0 := fun q => by unfold rstT at h2; rw [if_pos q] at h2; exact absurd h2 (by decide)
  obtain ⟨-, k1, k2, k3⟩ := rst_rel C u0 h1
  refine ⟨_, k3, ?_, ?_⟩
  · unfold rsG; rw [if_neg k1, h3, k2]; unfold rstV; rw [if_neg k1]
  · unfold rsG; rw [if_neg k1]
theorem rs_e (C : CRel σ μ) (h : PXd ["java/lang/IllegalStateException"] (rstT σ) (fun τ => τ = σ) E τ) : ∃ i, ([eIS] : List String)[i]? = some E ∧ ∃ ν, CRel τ ν ∧ (exV i = (rsG μ).1 ∧ ν = (rsG μ).2) := by
  obtain ⟨h1, i, h2, h3⟩ := h
  have hi := (List.getElem?_eq_some_iff.mp h2).1
  have i0 : i = 0 := by
    have : i < 1 := hi
    omega
  subst i0
  have u0 : μ 276 6 = 0 := by
    rw [← C.2.2.2.1.1]
    unfold rstT at h3
    by_cases q : σ 0 9 = 0
    · exact q
    · rw [if_neg q] at h3; exact absurd h3 (by decide)
  refine ⟨0, h2, μ, eqC C h1, ?_, ?_⟩
  · unfold rsG; rw [if_pos u0]; rfl
  · unfold rsG; rw [if_pos u0]
theorem sv_q (C : CRel σ μ) (h : SavQ τ σ ∧ r = σ (1 + 1) 7) : ∃ ν, CRel τ ν ∧ (r = μ 277 0 ∧ ν = savM μ) :=
  ⟨_, (sav_rel C h.1).2, h.2.trans C.gh.1.1, rfl⟩
end GMS

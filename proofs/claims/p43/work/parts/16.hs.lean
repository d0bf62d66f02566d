/-! plain functions of houses and the history -/
def tN (x : Int32) : Nat := x.toNatClampNeg
theorem tN_nI {k : Nat} (h : k < 2 ^ 31) : tN (nI k) = k := nI_clamp h
theorem nI_tn {x : Int32} (h : 0 ≤ x) : x = nI (tN x) := by
  unfold tN
  have h1 : (0 : Int) ≤ x.toInt := by simpa using Int32.le_iff_toInt_le.mp h
  apply Int32.toInt_inj.mp
  have h2 : x.toInt < 2 ^ 31 := Int32.toInt_lt x
  have h3 : (x.toNatClampNeg : Int) = x.toInt := by
    show (x.toInt.toNat : Int) = _
    omega
  rw [nI_toInt (by omega)]
  exact h3.symm
theorem holdN {x y : Int32} {n : Nat} (h : ¬ holdB x y = 0) (hy : y = nI n) (hn : n ≤ 1000) : x = nI (tN x) ∧ tN x < n := by
  unfold holdB at h
  by_cases h1 : x < 0
  · rw [if_pos h1] at h; exact absurd rfl h
  · rw [if_neg h1] at h
    have h2 : ¬ y ≤ x := fun h2 => by rw [if_pos h2] at h; exact absurd rfl h
    have h3 : 0 ≤ x := Int32.not_lt.mp h1
    have e := nI_tn h3
    refine ⟨e, ?_⟩
    unfold tN at e ⊢
    rw [hy, e] at h2
    have h4 := Int32.not_le.mp h2
    have h5 := Int32.lt_iff_toInt_lt.mp h4
    have h6 : x.toNatClampNeg < 2 ^ 31 := by
      have := Int32.toInt_lt x
      show x.toInt.toNat < _
      omega
    rw [nI_toInt h6, nI_toInt (by omega)] at h5
    omega
/-- what a house must be for its methods: n persons, mb beams, all tables whole -/
def HOK (σ : Mem) (hb n mb : Nat) : Prop := σ (hb + 1) 7 = nI n ∧ n ≤ 6 ∧ BOK σ (hb + 15) mb ∧ ∀ j, j < 6 → vp_nar .boolean (σ (hb + 1 + 3) j) = σ (hb + 1 + 3) j
def refM (σ : Mem) (cb : Nat) (x y : Int32) : Mem := sg (sg σ cb 5 x) cb 6 y
def ansM (σ : Mem) (cb : Nat) (x : Int32) : Mem := sg σ cb 4 x
def full6 (x : Int32) : Int32 := if x < 6 then 0 else 1
def admM (σ : Mem) (hb n cb : Nat) (b : Int32) : Mem :=
  if rngB (σ cb 1) (-20) 20 = 0 then refM σ cb 1 0
  else if n = 6 then refM σ cb 2 6
  else sg (sg (sg (sg σ (hb + 1 + 1) n (σ cb 1)) (hb + 1 + 3) n b) (hb + 1) 7 (nI (n + 1))) cb 4 (nI n)
def friM (σ : Mem) (hb cb : Nat) : Mem :=
  if holdB (σ cb 1) (σ (hb + 1) 7) = 0 then refM σ cb 3 (σ (hb + 1) 7)
  else if holdB (σ cb 2) (σ (hb + 1) 7) = 0 then refM σ cb 3 (σ (hb + 1) 7)
  else if σ cb 1 = σ cb 2 then refM σ cb 4 (σ cb 1)
  else if rngB (σ cb 3) 0 9 = 0 then refM σ cb 1 0
  else if σ (hb + 1 + 7 + tN (σ cb 1)) (tN (σ cb 2)) = σ cb 3 then refM σ cb 5 (σ cb 3)
  else sg (sg (sg σ (hb + 1 + 7 + tN (σ cb 1)) (tN (σ cb 2)) (σ cb 3)) (hb + 1 + 7 + tN (σ cb 2)) (tN (σ cb 1)) (σ cb 3)) cb 4 (σ (hb + 1 + 7 + tN (σ cb 1)) (tN (σ cb 2)))
def telM (σ : Mem) (hb cb : Nat) : Mem :=
  if holdB (σ cb 1) (σ (hb + 1) 7) = 0 then refM σ cb 3 (σ (hb + 1) 7)
  else if rngB (σ cb 2) 1 9 = 0 then refM σ cb 1 0
  else if σ (hb + 1 + 1) (tN (σ cb 1)) = 0 then refM σ cb 6 (σ (hb + 1 + 2) (tN (σ cb 1)))
  else if forceV (σ cb 2) (σ (hb + 1 + 2) (tN (σ cb 1))) = 0 then refM σ cb 7 (σ cb 2)
  else sg (sg (sg σ (hb + 1 + 1) (tN (σ cb 1)) (tellV (σ (hb + 1 + 1) (tN (σ cb 1))) (σ (hb + 1 + 2) (tN (σ cb 1))) (σ cb 2))) (hb + 1 + 4) (tN (σ cb 1)) (σ (hb + 1 + 4) (tN (σ cb 1)) + 1)) cb 4 (tellV (σ (hb + 1 + 1) (tN (σ cb 1))) (σ (hb + 1 + 2) (tN (σ cb 1))) (σ cb 2))
def btwV (σ : Mem) (hb mb : Nat) (x y : Int32) : Int32 := srch (bmB σ (hb + 15) (mnI x y) (mxI x y)) 1 mb 0
def putM (σ : Mem) (hb mb cb : Nat) : Mem :=
  if holdB (σ cb 1) (σ (hb + 1) 7) = 0 then refM σ cb 3 (σ (hb + 1) 7)
  else if holdB (σ cb 2) (σ (hb + 1) 7) = 0 then refM σ cb 3 (σ (hb + 1) 7)
  else if σ cb 1 = σ cb 2 then refM σ cb 4 (σ cb 1)
  else if rngB (σ cb 3) 0 40 = 0 then refM σ cb 1 0
  else if 0 ≤ btwV σ hb mb (σ cb 1) (σ cb 2) then refM σ cb 9 (btwV σ hb mb (σ cb 1) (σ cb 2))
  else if mb = 6 then refM σ cb 2 6
  else sg (sg (sg (sg (sg (sg σ (hb + 15 + 1) mb (mnI (σ cb 1) (σ cb 2))) (hb + 15 + 2) mb (mxI (σ cb 1) (σ cb 2))) (hb + 15 + 3) mb (σ cb 3)) (hb + 15 + 4) mb 0) (hb + 15) 4 (nI (mb + 1))) cb 4 (nI mb)
def remM (σ : Mem) (hb mb cb : Nat) : Mem :=
  if holdB (σ cb 1) (σ (hb + 15) 4) = 0 then refM σ cb 8 (σ (hb + 15) 4)
  else sg (takeB σ (hb + 15) (tN (σ cb 1)) mb) cb 4 (nI (mb - 1))
def habM (σ : Mem) (hb cb : Nat) : Mem :=
  if holdB (σ cb 1) (σ (hb + 1) 7) = 0 then refM σ cb 3 (σ (hb + 1) 7)
  else if rngB (σ cb 2) 0 9 = 0 then refM σ cb 1 0
  else if σ (hb + 1 + 2) (tN (σ cb 1)) = σ cb 2 then refM σ cb 5 (σ cb 2)
  else sg (sg σ (hb + 1 + 2) (tN (σ cb 1)) (σ cb 2)) cb 4 (σ (hb + 1 + 2) (tN (σ cb 1)))
def rnd1 (σ : Mem) (hb n cb : Nat) : Mem := sg (prM σ (hb + 1) n n) cb 4 (cntB (fun q => abI (moveV σ (hb + 1) n q)) n)
def rnd2 (σ : Mem) (hb n mb cb : Nat) : Mem := sg (crk (rnd1 σ hb n cb) (hb + 15) (hb + 1) mb) hb 3 (σ hb 3 + cntB (overB (rnd1 σ hb n cb) (hb + 15) (hb + 1)) mb)
def rndM (σ : Mem) (hb n mb cb : Nat) : Mem :=
  if n = 0 then refM σ cb 10 (σ hb 2)
  else sg (sg (brk (hb + 15) mb (rnd2 σ hb n mb cb) mb).1 hb 4 (σ hb 4 + nI (mb - (brk (hb + 15) mb (rnd2 σ hb n mb cb) mb).2))) hb 2 (σ hb 2 + 1)
theorem isHC_apart {hb cb : Nat} (h : isH hb) (g : isC cb) : hb + 20 ≤ cb := by
  have h1 := isH_lt h; have h2 := g.1; omega
theorem isH_apart {hb gb : Nat} (h : isH hb) (g : isH gb) (hne : hb ≠ gb) : hb + 20 ≤ gb ∨ gb + 20 ≤ hb := by
  unfold isH at h g
  rcases h with h | h | h | ⟨j, h1, h2⟩ <;> rcases g with g | g | g | ⟨i, g1, g2⟩ <;> omega
theorem brk_ap {bb : Nat} : ∀ {k m : Nat} {σ : Mem} {c : Nat}, ¬ (bb ≤ c ∧ c < bb + 5) → (brk bb k σ m).1 c = σ c := by
  intro k
  induction k with
  | zero => intro m σ c _; rfl
  | succ k ih =>
    intro m σ c hc
    unfold brk
    split
    · exact ih hc
    · rw [ih hc]
      unfold takeB
      rw [sg_n (by omega)]
      funext j
      unfold shB
      rw [if_neg (by omega)]
theorem rnd1_c {σ : Mem} {hb n cb c : Nat} (h : c ≠ hb + 1 + 13 ∧ c ≠ hb + 1 + 1 ∧ c ≠ hb + 1 + 5 ∧ c ≠ hb + 1 + 2 ∧ c ≠ cb) : rnd1 σ hb n cb c = σ c := by
  obtain ⟨h1, h2, h3, h4, h5⟩ := h
  funext j
  unfold rnd1
  rw [sg_n h5, prM_ap, if_neg h4, if_neg h3, if_neg h2, if_neg h1]
/-- a copy of a house -/
def CpH (τ σ : Mem) (hb gb : Nat) : Prop := (∀ c, ¬ (hb ≤ c ∧ c < hb + 20) → τ c = σ c) ∧ (∀ o j, 1 ≤ o → o ≤ 5 → j < 6 → τ (hb + 1 + o) j = σ (gb + 1 + o) j) ∧ (∀ r j, r < 6 → j < 6 → τ (hb + 1 + 7 + r) j = σ (gb + 1 + 7 + r) j) ∧ τ (hb + 1) 7 = σ (gb + 1) 7 ∧ (∀ o j, 1 ≤ o → o ≤ 4 → j < 6 → τ (hb + 15 + o) j = σ (gb + 15 + o) j) ∧ τ (hb + 15) 4 = σ (gb + 15) 4 ∧ ∀ j, 2 ≤ j → j ≤ 4 → τ hb j = σ gb j
theorem CpH_mk {τ2 τ1 σ : Mem} {hb gb : Nat} (ha : hb + 20 ≤ gb ∨ gb + 20 ≤ hb) (h1 : CpP τ1 σ (hb + 1) (gb + 1) 6 ∧ τ1 (hb + 1) 7 = σ (gb + 1) 7) (h2 : CpB τ2 τ1 (hb + 15) (gb + 15)) : CpH (sg (sg (sg τ2 hb 2 (τ2 gb 2)) hb 3 (τ2 gb 3)) hb 4 (τ2 gb 4)) σ hb gb := by
  obtain ⟨⟨a1, a2, a3⟩, a4⟩ := h1
  obtain ⟨b1, b2, b3⟩ := h2
  have e1 : ∀ c, ¬ (hb ≤ c ∧ c < hb + 20) → τ2 c = σ c := fun c hc => by rw [b1 c (by omega), a1 c (by omega)]
  refine ⟨fun c hc => ?_, fun o j o1 o2 hj => ?_, fun r j hr hj => ?_, ?_, fun o j o1 o2 hj => ?_, ?_, fun j j1 j2 => ?_⟩
  · rw [sg_n (by omega), sg_n (by omega), sg_n (by omega), e1 c hc]
  · rw [sg_n (by omega), sg_n (by omega), sg_n (by omega), b1 _ (by omega), a2 o j o1 o2 hj]
  · rw [sg_n (by omega), sg_n (by omega), sg_n (by omega), b1 _ (by omega), a3 r j hr hj]
  · rw [sg_n (by omega), sg_n (by omega), sg_n (by omega), b1 _ (by omega), a4]
  · rw [sg_n (by omega), sg_n (by omega), sg_n (by omega), b2 o j o1 o2 hj, a1 _ (by omega)]
  · rw [sg_n (by omega), sg_n (by omega), sg_n (by omega), b3, a1 _ (by omega)]
  · have := e1 gb (by omega)
    rcases (show j = 2 ∨ j = 3 ∨ j = 4 by omega) with rfl | rfl | rfl <;> simp [sg_at, this]
/-- the numbers of a house at σ are those of the house at gb of ρ -/
theorem HOK_cp {τ σ : Mem} {hb gb n mb : Nat} (h : CpH τ σ hb gb) (g : HOK σ gb n mb) : HOK τ hb n mb := by
  obtain ⟨-, a2, -, a4, a5, a6, -⟩ := h
  obtain ⟨g1, g2, ⟨g3, g4, g5⟩, g6⟩ := g
  refine ⟨a4.trans g1, g2, ⟨a6.trans g3, g4, fun q hq => ?_⟩, fun j hj => ?_⟩
  · rw [a5 1 q (by omega) (by omega) (by omega), a5 2 q (by omega) (by omega) (by omega)]; exact g5 q hq
  · rw [a2 3 j (by omega) (by omega) hj]; exact g6 j hj
theorem full0 {x : Int32} {n : Nat} (hx : x = nI n) (hn : n ≤ 6) (h : (if x < 6 then (0 : Int32) else 1) = 0) : n < 6 := by
  rcases Nat.lt_or_ge n 6 with g | g
  · exact g
  · have e : n = 6 := by omega
    subst e; subst hx
    exact absurd h (by decide)
theorem full1 {x : Int32} {n : Nat} (hx : x = nI n) (hn : n ≤ 6) (h : ¬ (if x < 6 then (0 : Int32) else 1) = 0) : n = 6 := by
  rcases Nat.lt_or_ge n 6 with g | g
  · exfalso
    apply h
    rw [if_pos]
    rw [hx]
    exact nI_lt (b := 6) g (by omega)
  · omega
theorem BOK_c {σ τ : Mem} {bb m : Nat} (h : ∀ c, bb ≤ c → c < bb + 5 → τ c = σ c) (g : BOK σ bb m) : BOK τ bb m := by
  refine ⟨by rw [h bb (by omega) (by omega)]; exact g.1, g.2.1, fun q hq => ?_⟩
  rw [h (bb + 1) (by omega) (by omega), h (bb + 2) (by omega) (by omega)]
  exact g.2.2 q hq
theorem rnd2_c {σ : Mem} {hb n mb cb c : Nat} (h : c ≠ hb + 1 + 13 ∧ c ≠ hb + 1 + 1 ∧ c ≠ hb + 1 + 5 ∧ c ≠ hb + 1 + 2 ∧ c ≠ cb) (h2 : c ≠ hb) (h3 : c ≠ hb + 15 + 4) : rnd2 σ hb n mb cb c = σ c := by
  unfold rnd2
  rw [sg_n h2]
  funext j
  rw [crk_ap, if_neg (fun z => h3 z.1), rnd1_c h]
theorem mnI_min {a b : Nat} (h : a < 2 ^ 31 ∧ b < 2 ^ 31) : mnI (nI a) (nI b) = nI (min a b) := by
  unfold mnI
  rcases Nat.lt_or_ge b a with g | g
  · rw [if_pos ((nI_ltI h.2 h.1).mpr g), Nat.min_eq_right (by omega)]
  · rw [if_neg (fun z => by have := (nI_ltI h.2 h.1).mp z; omega), Nat.min_eq_left g]

/-! the law's first object: its rows (laid by wip/p43/spec_le_tab.py) -/
def eT : List (List Int32) := [
  [0, 0, 0, 0, 0, 0, 0, 0, 0, 0, 0, 0, 0, 0, 0, 0, 0, 0, 0, 0, 0, 0, 0, 0, 0, 0, 0, 0, 0, 0, 0, 0, 0, 0, 0, 0, 0, 0, 0, 0, 0, 0, 0, 0, 0, 0, 0, 0, 0, 0, 0, 0, 0, 0, 0, 0, 0, 0, 0, 0, 0, 0, 0, 0, 0, 0, 0, 0, 0, 0, 0, 0, 0, 0, 0, 0, 0, 0, 0, 0, 0, 0, 0, 0, 0, 0, 0, 0, 0, 0, 0, 0, 0, 0, 0, 0],
  [1, 0, 0, 0, 0, 0, (-8), 0, 0, 0, 0, 0, 0, 0, 0, 0, 0, 0, 0, 0, 0, 0, 0, 0, 0, 0, 0, 0, 0, 0, 0, 0, 0, 0, 0, 0, 0, 0, 0, 0, 0, 0, 0, 0, 0, 0, 0, 0, 0, 0, 0, 0, 0, 0, 0, 0, 0, 0, 0, 0, 0, 0, 0, 0, 0, 0, 0, 0, 0, 0, 0, 0, 0, 0, 0, 0, 0, 0, 0, 0, 0, 0, 0, 0, 0, 0, 0, 0, 0, 0, 0, 0, 0, 0, 0, 0],
  [2, 0, 0, 0, 0, 0, (-8), 0, 0, 0, 0, (-4), 0, 1, 0, 0, 0, 0, 0, 0, 0, 0, 0, 0, 0, 0, 0, 0, 0, 0, 0, 0, 0, 0, 0, 0, 0, 0, 0, 0, 0, 0, 0, 0, 0, 0, 0, 0, 0, 0, 0, 0, 0, 0, 0, 0, 0, 0, 0, 0, 0, 0, 0, 0, 0, 0, 0, 0, 0, 0, 0, 0, 0, 0, 0, 0, 0, 0, 0, 0, 0, 0, 0, 0, 0, 0, 0, 0, 0, 0, 0, 0, 0, 0, 0, 0],
  [3, 0, 0, 0, 0, 0, (-8), 0, 0, 0, 0, (-4), 0, 1, 0, 0, 0, 0, 0, 0, 0, 0, 0, 0, 0, 0, 0, 0, 0, 0, 0, 0, 0, 0, 0, 0, 0, 0, 0, 0, 0, 0, 0, 0, 0, 0, 0, 0, 0, 0, 0, 0, 0, 0, 0, 0, 0, 0, 0, 0, 0, 0, 0, 0, 0, 0, 0, 0, 0, 0, 0, 0, 0, 0, 0, 0, 0, 0, 0, 0, 0, 0, 0, 0, 0, 0, 0, 0, 0, 0, 0, 0, 0, 0, 0, 0],
  [4, 0, 0, 0, 0, 0, (-8), 0, 0, 0, 0, (-4), 0, 1, 0, 0, 0, 0, 0, 0, 0, 4, 0, 1, 0, 0, 0, 0, 0, 0, 0, 0, 0, 0, 0, 0, 0, 0, 0, 0, 0, 0, 0, 0, 0, 0, 0, 0, 0, 0, 0, 0, 0, 0, 0, 0, 0, 0, 0, 0, 0, 0, 0, 0, 0, 0, 0, 0, 0, 0, 0, 0, 0, 0, 0, 0, 0, 0, 0, 0, 0, 0, 0, 0, 0, 0, 0, 0, 0, 0, 0, 0, 0, 0, 0, 0],
  [5, 0, 0, 0, 0, 0, (-8), 0, 0, 0, 0, (-4), 0, 1, 0, 0, 0, 0, 0, 0, 0, 4, 0, 1, 0, 0, 8, 0, 0, 0, 0, 0, 0, 0, 0, 0, 0, 0, 0, 0, 0, 0, 0, 0, 0, 0, 0, 0, 0, 0, 0, 0, 0, 0, 0, 0, 0, 0, 0, 0, 0, 0, 0, 0, 0, 0, 0, 0, 0, 0, 0, 0, 0, 0, 0, 0, 0, 0, 0, 0, 0, 0, 0, 0, 0, 0, 0, 0, 0, 0, 0, 0, 0, 0, 0, 0],
  [6, 0, 0, 0, 0, 0, (-8), 0, 0, 0, 0, (-4), 0, 1, 0, 0, 0, 0, 0, 0, 0, 4, 0, 1, 0, 0, 8, 0, 0, 0, 0, 12, 0, 1, 0, 0, 0, 0, 0, 0, 0, 0, 0, 0, 0, 0, 0, 0, 0, 0, 0, 0, 0, 0, 0, 0, 0, 0, 0, 0, 0, 0, 0, 0, 0, 0, 0, 0, 0, 0, 0, 0, 0, 0, 0, 0, 0, 0, 0, 0, 0, 0, 0, 0, 0, 0, 0, 0, 0, 0, 0, 0, 0, 0, 0, 0],
  [6, 1, 0, 0, 0, 0, (-8), 0, 0, 0, 0, (-4), 0, 1, 0, 0, 0, 0, 0, 0, 0, 4, 0, 1, 0, 0, 8, 0, 0, 0, 0, 12, 0, 1, 0, 0, 0, 0, 0, 0, 0, 0, 0, 0, 0, 0, 0, 0, 0, 0, 0, 0, 0, 0, 0, 0, 0, 0, 0, 0, 0, 0, 0, 0, 0, 0, 0, 0, 0, 0, 0, 0, 0, 1, 3, 0, 0, 0, 0, 0, 0, 0, 0, 0, 0, 0, 0, 0, 0, 0, 0, 0, 0, 0, 0, 0],
  [6, 2, 0, 0, 0, 0, (-8), 0, 0, 0, 0, (-4), 0, 1, 0, 0, 0, 0, 0, 0, 0, 4, 0, 1, 0, 0, 8, 0, 0, 0, 0, 12, 0, 1, 0, 0, 0, 0, 0, 0, 0, 0, 0, 0, 0, 0, 0, 0, 0, 0, 0, 0, 0, 0, 0, 0, 0, 0, 0, 0, 0, 0, 0, 0, 0, 0, 0, 0, 0, 0, 0, 0, 0, 1, 3, 0, 1, 2, 3, 0, 0, 0, 0, 0, 0, 0, 0, 0, 0, 0, 0, 0, 0, 0, 0, 0],
  [6, 3, 0, 0, 0, 0, (-8), 0, 0, 0, 0, (-4), 0, 1, 0, 0, 0, 0, 0, 0, 0, 4, 0, 1, 0, 0, 8, 0, 0, 0, 0, 12, 0, 1, 0, 0, 0, 0, 0, 0, 0, 0, 0, 0, 0, 0, 0, 0, 0, 0, 0, 0, 0, 0, 0, 0, 0, 0, 0, 0, 0, 0, 0, 0, 0, 0, 0, 0, 0, 0, 0, 0, 0, 1, 3, 0, 1, 2, 3, 0, 2, 3, 3, 0, 0, 0, 0, 0, 0, 0, 0, 0, 0, 0, 0, 0],
  [6, 4, 0, 0, 0, 0, (-8), 0, 0, 0, 0, (-4), 0, 1, 0, 0, 0, 0, 0, 0, 0, 4, 0, 1, 0, 0, 8, 0, 0, 0, 0, 12, 0, 1, 0, 0, 0, 0, 0, 0, 0, 0, 0, 0, 0, 0, 0, 0, 0, 0, 0, 0, 0, 0, 0, 0, 0, 0, 0, 0, 0, 0, 0, 0, 0, 0, 0, 0, 0, 0, 0, 0, 0, 1, 3, 0, 1, 2, 3, 0, 2, 3, 3, 0, 3, 4, 3, 0, 0, 0, 0, 0, 0, 0, 0, 0],
  [6, 5, 0, 0, 0, 0, (-8), 0, 0, 0, 0, (-4), 0, 1, 0, 0, 0, 0, 0, 0, 0, 4, 0, 1, 0, 0, 8, 0, 0, 0, 0, 12, 0, 1, 0, 0, 0, 0, 0, 0, 0, 0, 0, 0, 0, 0, 0, 0, 0, 0, 0, 0, 0, 0, 0, 0, 0, 0, 0, 0, 0, 0, 0, 0, 0, 0, 0, 0, 0, 0, 0, 0, 0, 1, 3, 0, 1, 2, 3, 0, 2, 3, 3, 0, 3, 4, 3, 0, 4, 5, 3, 0, 0, 0, 0, 0],
  [6, 6, 0, 0, 0, 0, (-8), 0, 0, 0, 0, (-4), 0, 1, 0, 0, 0, 0, 0, 0, 0, 4, 0, 1, 0, 0, 8, 0, 0, 0, 0, 12, 0, 1, 0, 0, 0, 0, 0, 0, 0, 0, 0, 0, 0, 0, 0, 0, 0, 0, 0, 0, 0, 0, 0, 0, 0, 0, 0, 0, 0, 0, 0, 0, 0, 0, 0, 0, 0, 0, 0, 0, 0, 1, 3, 0, 1, 2, 3, 0, 2, 3, 3, 0, 3, 4, 3, 0, 4, 5, 3, 0, 0, 5, 3, 0],
  [6, 6, 1, 0, 6, 0, (-8), 1, 0, 0, 0, (-4), 1, 1, 0, 0, 0, 1, 0, 0, 0, 4, 1, 1, 0, 0, 8, 1, 0, 0, 0, 12, 1, 1, 0, 0, 0, 0, 0, 0, 0, 0, 0, 0, 0, 0, 0, 0, 0, 0, 0, 0, 0, 0, 0, 0, 0, 0, 0, 0, 0, 0, 0, 0, 0, 0, 0, 0, 0, 0, 0, 0, 0, 1, 3, 1, 1, 2, 3, 1, 2, 3, 3, 1, 3, 4, 3, 1, 4, 5, 3, 1, 0, 5, 3, 1],
  [6, 6, 2, 0, 12, 0, (-8), 2, 0, 0, 0, (-4), 2, 1, 0, 0, 0, 2, 0, 0, 0, 4, 2, 1, 0, 0, 8, 2, 0, 0, 0, 12, 2, 1, 0, 0, 0, 0, 0, 0, 0, 0, 0, 0, 0, 0, 0, 0, 0, 0, 0, 0, 0, 0, 0, 0, 0, 0, 0, 0, 0, 0, 0, 0, 0, 0, 0, 0, 0, 0, 0, 0, 0, 1, 3, 2, 1, 2, 3, 2, 2, 3, 3, 2, 3, 4, 3, 2, 4, 5, 3, 2, 0, 5, 3, 2],
  [6, 0, 3, 0, 18, 6, (-8), 3, 0, 0, 0, (-4), 3, 1, 0, 0, 0, 3, 0, 0, 0, 4, 3, 1, 0, 0, 8, 3, 0, 0, 0, 12, 3, 1, 0, 0, 0, 0, 0, 0, 0, 0, 0, 0, 0, 0, 0, 0, 0, 0, 0, 0, 0, 0, 0, 0, 0, 0, 0, 0, 0, 0, 0, 0, 0, 0, 0, 0, 0, 0, 0, 0, 0, 5, 3, 3, 0, 5, 3, 2, 0, 5, 3, 2, 0, 5, 3, 2, 0, 5, 3, 2, 0, 5, 3, 2]]
/-- the row behind k changes -/
def eR (k : Nat) : Nat → Int32 := fun j => if j < 96 then (eT.getD k []).getD j 0 else 0
abbrev STp (h : Nat → Int32) (i : Nat) (x y z v : Int32) (h' : Nat → Int32) : Prop := (stp h i x y z).1 = 1 ∧ (stp h i x y z).2.2.1 = v ∧ ∀ j, j < 96 → (stp h i x y z).2.1 j = h' j
theorem e_pa : ∀ k, k < 6 → nI (k % 2) = 1 → STp (eR k) (if (1 : Int32) = 0 then 0 else 1) (nI (4 * k) - 8) 0 0 (nI k) (eR (k + 1)) := by decide +kernel
theorem e_pb : ∀ k, k < 6 → ¬ nI (k % 2) = 1 → STp (eR k) (if (0 : Int32) = 0 then 0 else 1) (nI (4 * k) - 8) 0 0 (nI k) (eR (k + 1)) := by decide +kernel
theorem e_be : ∀ k, k < 6 → STp (eR (6 + k)) 5 (nI k) (nI ((k + 1) % 6)) 3 (nI k) (eR (6 + k + 1)) := by decide +kernel
theorem e_r0 : STp (eR 12) 3 0 0 0 0 (eR 13) := by decide +kernel
theorem e_r1 : STp (eR 13) 3 0 0 0 0 (eR 14) := by decide +kernel
theorem e_r2 : STp (eR 14) 3 0 0 0 0 (eR 15) := by decide +kernel
theorem e_n1 : stp (eR 6) (if (1 : Int32) = 0 then 0 else 1) 0 0 0 = rfs (eR 6) 2 6 := t_p0 (n := 6) (by decide +kernel) rfl
theorem e_n2 : stp (eR 12) 5 0 2 3 = rfs (eR 12) 2 6 := by
  show stPut (eR 12) (tN (eR 12 1)) 0 2 3 = _
  unfold stPut
  rw [if_neg (by decide +kernel), if_neg (by decide +kernel), if_neg (by decide +kernel), if_neg (by decide +kernel), if_neg (by decide +kernel), if_pos (by decide +kernel)]
theorem e_rs : aRst (eR 6) = 0 := by decide +kernel
theorem e_cp : aCps (eR 6) = 5 := by decide +kernel
theorem e_br : aBri (eR 12) 5 = 3 := by decide +kernel
theorem e_of : aOf (eR 15) 0 1 = 3 ∧ aOf (eR 12) 0 1 = 0 := by decide +kernel
theorem e_ch : ∀ k, k < 60 → ((nI (65 + k)).toUInt32 % 65536).toInt32 = nI (65 + k) ∧ vp_nar .char (nI (65 + k)) = nI (65 + k) := by decide +kernel
def eXF : Nat → Int32 := fun j => nI (65 + j)
theorem e_tx : prs eXF 60 62 (cmV eXF 60 0) (cmE eXF 60 0) = (0, 0) := by decide +kernel
def cM (k u : Nat) : Mem := fun b j => if b = 277 then eR k j else if b = 276 ∧ j = 4 then nI u else 0
/-- the state behind k changes, u of them can be undone; what was saved is nothing -/
def SE (ν : Mem) (k u : Nat) : Prop := ν 277 = eR k ∧ ν 276 4 = nI u ∧ u ≤ k ∧ u ≤ 8 ∧ (∀ i, i < u → ∀ j, j < 96 → rowK ν i j = eR (k - u + i) j) ∧ ν 276 11 = 0 ∧ (∀ j, j < 96 → ν 281 j = 0) ∧ ¬ ν 276 6 = 0
section SES
variable {μ ν ρ : Mem} {k u i : Nat} {x y z r w d v : Int32}
theorem eR_o {j : Nat} (h : ¬ j < 96) : eR k j = 0 := if_neg h
theorem eR_0 {j : Nat} : eR 0 j = 0 := by
  by_cases h : j < 96
  · have : ∀ j, j < 96 → eR 0 j = 0 := by decide +kernel
    exact this j h
  · exact eR_o h
theorem SE.rf (a : SE μ k u) (h : RF μ ν) : SE ν k u := by
  obtain ⟨a1, a2, a3, a4, a5, a6, a7, a8⟩ := a
  obtain ⟨h0, -, h2, h3, h4, h5, h6⟩ := h
  have er : ∀ i, rowK ν i = rowK μ i := fun i => by unfold rowK; rw [h3]
  exact ⟨h0.trans a1, h2.trans a2, a3, a4, fun i hi j hj => by rw [er]; exact a5 i hi j hj, h6.trans a6, fun j hj => by rw [h5]; exact a7 j hj, by rw [h4]; exact a8⟩
theorem tr_eR (e : ∀ j, j < 96 → ν 277 j = eR k j) : nrm ν 277 = eR k := by
  rw [nrm_77]
  funext j
  unfold tr
  by_cases c : j < 96
  · rw [if_pos c]; exact e j c
  · rw [if_neg c, eR_o c]
/-- built out of what holds below 96 -/
theorem SE.mk (a1 : ∀ j, j < 96 → ν 277 j = eR k j) (a2 : ν 276 4 = nI u) (a3 : u ≤ k) (a4 : u ≤ 8) (a5 : ∀ i, i < u → ∀ j, j < 96 → rowK ν i j = eR (k - u + i) j) (a6 : ν 276 11 = 0) (a7 : ∀ j, j < 96 → ν 281 j = 0) (a8 : ¬ ν 276 6 = 0) : SE (nrm ν) k u := by
  have er : ∀ i, rowK (nrm ν) i = rowK ν i := fun i => by unfold rowK; rw [nrm_n (by decide)]
  exact ⟨tr_eR a1, by rw [nrm_n (by decide)]; exact a2, a3, a4, fun i hi j hj => by rw [er]; exact a5 i hi j hj, by rw [nrm_n (by decide)]; exact a6, fun j hj => by rw [nrm_n (by decide)]; exact a7 j hj, by rw [nrm_n (by decide)]; exact a8⟩
/-- a change done -/
theorem SE.ch (a : SE ν k (min k 8)) (T : STp (eR k) i x y z v (eR (k + 1))) (h1 : r = (chG ν i x y z).1) (h2 : ρ = (chG ν i x y z).2) : r = v ∧ SE (nrm ρ) (k + 1) (min (k + 1) 8) := by
  obtain ⟨a1, a2, a3, a4, a5, a6, a7, a8⟩ := a
  obtain ⟨T1, T2, T3⟩ := T
  have T0 : ¬ (stp (ν 277) i x y z).1 = 0 := by rw [a1, T1]; decide
  unfold chG at h1 h2
  rw [if_neg T0] at h1 h2
  rw [a1] at h1 h2
  replace h2 : ρ = gK ν (stp (eR k) i x y z).2.1 := h2
  obtain ⟨⟨m1, m2, -, m4, -, m6⟩, ⟨m7, -⟩, -⟩ := gK_md (μ := ν) (stp (eR k) i x y z).2.1
  rw [← h2] at m1 m2 m4 m6
  have e11 : ρ 276 11 = ν 276 11 := by rw [h2]; exact gK_j (by decide)
  obtain ⟨b1, b2, b3⟩ := m6 (min k 8) a4 a2
  have ek : kpU (min k 8) = if k < 8 then k else 7 := by
    unfold kpU
    by_cases c : k < 8
    · rw [if_neg (by omega), if_pos c]; omega
    · rw [if_pos (by omega), if_neg c]
  refine ⟨h1.trans T2, SE.mk (fun j hj => (m1 j hj).trans (T3 j hj)) ?_ (by omega) (by omega) (fun q hq j hj => ?_) (e11.trans a6) (fun j hj => by rw [m2]; exact a7 j hj) (by rw [m4]; exact a8)⟩
  · rw [b1, ek]
    congr 1
    by_cases c : k < 8
    · rw [if_pos c]; omega
    · rw [if_neg c]; omega
  · by_cases c : q = kpU (min k 8)
    · subst c
      rw [b3 j hj, a1]
      congr 1
      rw [ek] at hq ⊢
      by_cases c2 : k < 8
      · rw [if_pos c2] at hq ⊢; omega
      · rw [if_neg c2] at hq ⊢; omega
    · have hq2 : q < kpU (min k 8) := by
        rw [ek] at c ⊢
        by_cases c2 : k < 8
        · rw [if_pos c2] at c ⊢; omega
        · rw [if_neg c2] at c ⊢; omega
      rw [b2 q hq2 j hj]
      rw [ek] at hq2
      by_cases c2 : k < 8
      · rw [if_pos c2] at hq2
        rw [if_neg (by omega), a5 q (by omega) j hj]
        congr 1; omega
      · rw [if_neg c2] at hq2
        rw [if_pos (by omega), a5 (q + 1) (by omega) j hj]
        congr 1; omega
/-- a change refused -/
theorem SE.no (a : SE ν k u) (T : stp (eR k) i x y z = rfs (eR k) w d) (hw : ¬ w = 0) (h1 : r = (chG ν i x y z).1) (h2 : ρ = (chG ν i x y z).2) : r = -1001 ∧ SE ρ k u ∧ RsK ρ w d 0 := by
  obtain ⟨b1, b2, b3⟩ := rf_ch (μ := ν) (ν := ν) ⟨rfl, CoE.rf⟩ (by rw [a.1]; exact T) hw h1 h2
  exact ⟨b1, a.rf b2, b3⟩
/-- undone -/
theorem SE.un (a : SE ν (k + 1) (u + 1)) (h1 : r = (unG ν).1) (h2 : ρ = (unG ν).2) : r = nI u ∧ SE (nrm ρ) k u := by
  obtain ⟨a1, a2, a3, a4, a5, a6, a7, a8⟩ := a
  have hu : gu ν = u + 1 := by show tN (ν 276 4) = _; rw [a2]; exact tN_nI (by omega)
  obtain ⟨p1, p2, p3, p4, p5, p6, p7⟩ := un_p hu
  rw [← h2] at p2 p3 p4 p5 p6 p7
  have er : ∀ i, rowK ρ i = rowK ν i := fun i => by unfold rowK; rw [p4]
  refine ⟨h1.trans p1, SE.mk (fun j hj => ?_) p3 (by omega) (by omega) (fun q hq j hj => ?_) (p7.trans a6) (fun j hj => by rw [p6]; exact a7 j hj) (by rw [p5]; exact a8)⟩
  · rw [p2 j hj, a5 u (by omega) j hj]; congr 1; omega
  · rw [er, a5 q (by omega) j hj]; congr 1; omega
theorem SE.uz (a : SE ν k 0) : (unG ν).1 = -1001 ∧ (unG ν).2 = ν := un_z (by show tN (ν 276 4) = 0; rw [a.2.1]; decide)
/-- what was saved comes back -/
theorem SE.rs (a : SE ν k u) (h1 : r = (rsG ν).1) (h2 : ρ = (rsG ν).2) : r = 0 ∧ SE (nrm ρ) 0 0 := by
  obtain ⟨a1, a2, a3, a4, a5, a6, a7, a8⟩ := a
  obtain ⟨p1, p2, p3, p4, p5, p6, p7⟩ := rs_p a8
  rw [← h2] at p2 p3 p4 p5 p6 p7
  refine ⟨h1.trans (p1.trans (a7 0 (by omega))), SE.mk (fun j hj => ?_) (p3.trans nI_0.symm) (by omega) (by omega) (fun q hq => absurd hq (Nat.not_lt_zero _)) (p7.trans a6) (fun j hj => by rw [p6]; exact a7 j hj) (by rw [p5]; exact a8)⟩
  rw [p2 j hj, a7 j hj, eR_0]
/-- accounts -/
theorem acc_c {σ τ : Mem} {n : Nat} (e7 : σ 277 = τ 277) (e4 : σ 276 4 = τ 276 4) (e11 : σ 276 11 = τ 276 11) : accV σ n x = accV τ n x := by
  unfold accV
  rw [e7, e4, e11]
theorem cM_7 : cM k u 277 = eR k := rfl
theorem SE.ac (a : SE ν k u) : hA (accT x) (accV ν (gn ν) x) = hA (accT x) (accV (cM k u) (tN (eR k 0)) x) := by
  have e : gn ν = tN (eR k 0) := by show tN (ν 277 0) = _; rw [a.1]
  rw [e, acc_c (τ := cM k u) (a.1.trans cM_7.symm) (a.2.1.trans (by rfl)) (a.2.2.2.2.2.1.trans (by rfl))]
theorem ac_10 {n : Nat} : hA (accT 10) (accV ν n 10) = ν 276 11 := by rfl
theorem ap_no (h : gL μ = 60) : (apG μ x).1 = -1001 ∧ (apG μ x).2 = μ := by
  unfold apG; rw [if_pos h]; exact ⟨rfl, rfl⟩
theorem tx_11 {f : Nat → Int32} (h0 : gL μ = 0) (hk : k < 60) : txK μ f (k + 1) 276 11 = nI (k + 1) := by
  rw [txK_s]
  have e := txK_L (f := f) h0 k (by omega)
  unfold apeM; rw [if_neg (by omega), sg_n (by decide), sg_ss]
theorem SE.L (a : SE ν k u) : gL ν = 0 := by show tN (ν 276 11) = 0; rw [a.2.2.2.2.2.1]; decide
/-- a text full of letters is no command -/
theorem SE.cm (a : SE ν k u) : (cmG (txK ν eXF 60)).1 = -1001 ∧ SE (cmG (txK ν eXF 60)).2 k u ∧ (cmG (txK ν eXF 60)).2 276 15 = 0 := by
  obtain ⟨-, a2, a3, a4, a5⟩ := tx_a (f := eXF) (μ := ν) (ν := ν) ⟨rfl, CoE.rf⟩ a.2.2.2.2.2.1 60 (by decide)
  have e : cmP (txK ν eXF 60) 60 = (0, 0) := by
    unfold cmP
    rw [(tc_cm a4 (by decide) (Nat.zero_le _)).1, (tc_cm a4 (by decide) (Nat.zero_le _)).2, tc_pr a4 (by decide) _ _ _ (cm_le (Nat.zero_le _) (by decide)).2]
    exact e_tx
  unfold cmG
  rw [a2, e]
  rw [if_pos (show ((0, 0) : Int32 × Nat).1 = 0 from rfl)]
  refine ⟨rfl, a.rf (a5 _), ?_⟩
  show cmB (txK ν eXF 60) (nI 0) 276 15 = 0
  rw [cmB_w.2]; rfl
/-- the beginning, saved -/
theorem e_st : SE (nrm (savM M0)) 0 0 := by
  obtain ⟨s1, s2, s3, s4, s5, s6⟩ := sv_p (μ := M0)
  have z7 : ∀ j, M0 277 j = 0 := fun j => by rw [M0_z (by decide) (Or.inr ⟨by decide, by decide⟩)]
  refine SE.mk (fun j hj => ?_) (s3.trans (by decide)) (Nat.le_refl _) (by decide) (fun q hq => absurd hq (Nat.not_lt_zero _)) (s6.trans (by decide)) (fun j hj => (s1 j hj).trans (z7 j)) (by rw [s5]; decide)
  rw [s2, z7, eR_0]
end SES
section SEW
variable {ν ρ : Mem} {k u i : Nat} {x y z r w d v : Int32} {D : va_G} {ct : Nat → ClassId} {ek ad : Nat → Nat} {X : va_W} {H : Heap}
theorem SE.chW (a : SE ν k (min k 8)) (T : STp (eR k) i x y z v (eR (k + 1))) (h1 : r = (chG ν i x y z).1) (h2 : ρ = (chG ν i x y z).2) (hW : wG D ct ek ad X ρ H) : r = v ∧ ∃ π, SE π (k + 1) (min (k + 1) 8) ∧ wG D ct ek ad X π H :=
  ⟨(a.ch T h1 h2).1, _, (a.ch T h1 h2).2, wG_nrm hW⟩
theorem SE.unW (a : SE ν (k + 1) (u + 1)) (h1 : r = (unG ν).1) (h2 : ρ = (unG ν).2) (hW : wG D ct ek ad X ρ H) : r = nI u ∧ ∃ π, SE π k u ∧ wG D ct ek ad X π H :=
  ⟨(a.un h1 h2).1, _, (a.un h1 h2).2, wG_nrm hW⟩
theorem SE.rsW (a : SE ν k u) (h1 : r = (rsG ν).1) (h2 : ρ = (rsG ν).2) (hW : wG D ct ek ad X ρ H) : r = 0 ∧ ∃ π, SE π 0 0 ∧ wG D ct ek ad X π H :=
  ⟨(a.rs h1 h2).1, _, (a.rs h1 h2).2, wG_nrm hW⟩
end SEW

/-! the line, written on both sides -/
/-- the same characters so far, at most B -/
def LL (τ ν : Mem) (B : Nat) : Prop := ∃ L, L ≤ B ∧ τ 274 1 = nI L ∧ ν 276 9 = nI L ∧ (∀ j, j < L → τ 275 j = ν 283 j) ∧ (∀ j, j < 64 → narrow .char (.int (τ 275 j)) = .int (τ 275 j)) ∧ (∀ j, j < 120 → narrow .char (.int (ν 283 j)) = .int (ν 283 j))
def nrC (c : Int32) : Prop := narrow .char (.int c) = .int c
theorem LL.put {τ ν : Mem} {B : Nat} {c : Int32} (h : LL τ ν B) (hB : B < 64) (hc : nrC c) : LL (lnM τ c) (mlM ν c) (B + 1) := by
  obtain ⟨L, h1, h2, h3, h4, h5, h6⟩ := h
  have hn : ¬ 64 ≤ τ 274 1 := by rw [h2]; exact fun z => absurd ((nI_leI (a := 64) (by omega) (by omega)).mp z) (by omega)
  unfold lnM mlM
  rw [if_neg hn, h2, h3, tN_nI (by omega)]
  refine ⟨L + 1, by omega, ?_, ?_, fun j hj => ?_, fun j hj => ?_, fun j hj => ?_⟩
  · rw [sg_ss, nI_1]
  · rw [sg_n (by decide), sg_ss, nI_1]
  · rw [sg_n (by decide), sg_at, sg_at]
    by_cases q : j = L
    · rw [if_pos ⟨rfl, q⟩, if_pos ⟨rfl, q⟩]
    · rw [if_neg (fun z => q z.2), if_neg (fun z => q z.2), sg_n (by decide)]; exact h4 j (by omega)
  · rw [sg_n (by decide), sg_at]
    split
    · exact hc
    · exact h5 j hj
  · rw [sg_at]
    split
    · exact hc
    · rw [sg_n (by decide)]; exact h6 j hj
theorem LL.mono {τ ν : Mem} {B B' : Nat} (h : LL τ ν B) (hB : B ≤ B') : LL τ ν B' := by
  obtain ⟨L, h1, h2⟩ := h
  exact ⟨L, by omega, h2⟩
theorem nr_d : ∀ k, k ≤ 99 → nrC (chI (48 + nI k / 10)) ∧ nrC (chI (48 + (nI k - nI k / 10 * 10))) ∧ chI (48 + (nI k / 10 - nI k / 10 / 10 * 10)) = chI (48 + nI k / 10) := by unfold nrC; decide +kernel
theorem LL.num {τ ν : Mem} {B k : Nat} (h : LL τ ν B) (hB : B + 1 < 64) (hk : k ≤ 99) : LL (lnN τ (nI k)) (mlN ν (nI k)) (B + 2) := by
  obtain ⟨n1, n2, n3⟩ := nr_d k hk
  unfold lnN mlN ml1
  rw [n3]
  by_cases c : nI k ≤ 9
  · rw [if_pos c, if_pos c]
    exact (h.put (by omega) n2).mono (by omega)
  · rw [if_neg c, if_neg c]
    exact (h.put (by omega) n1).put (by omega) n2
theorem LL.dig {τ ν : Mem} {B k : Nat} (h : LL τ ν B) (hB : B < 64) (hk : k ≤ 9) : LL (lnN τ (nI k)) (mlN ν (nI k)) (B + 1) := by
  obtain ⟨n1, n2, n3⟩ := nr_d k (by omega)
  have c : nI k ≤ 9 := nI_le (b := 9) hk (by omega)
  unfold lnN mlN ml1
  rw [if_pos c, if_pos c]
  exact h.put hB n2
theorem LL.z {τ ν : Mem} (h5 : ∀ j, j < 64 → narrow .char (.int (τ 275 j)) = .int (τ 275 j)) (h6 : ∀ j, j < 120 → narrow .char (.int (ν 283 j)) = .int (ν 283 j)) : LL (sg τ 274 1 0) (sg ν 276 9 0) 0 :=
  ⟨0, Nat.le_refl _, by rw [sg_ss]; exact nI_0.symm, by rw [sg_ss]; exact nI_0.symm, fun j hj => absurd hj (Nat.not_lt_zero _), fun j hj => by rw [sg_n (by decide)]; exact h5 j hj, fun j hj => by rw [sg_n (by decide)]; exact h6 j hj⟩
section QES
variable {σ μ ν : Mem} {n mb : Nat} {p : Nat}
theorem wp_ll (hw : WF (μ 277) n mb) (hg : HR σ 1 (μ 277)) (hp : p < 6) (h5 : ∀ j, j < 64 → narrow .char (.int (σ 275 j)) = .int (σ 275 j)) (h6 : ∀ j, j < 120 → narrow .char (.int (ν 283 j)) = .int (ν 283 j)) : LL (wpM σ (1 + 1) n p) (lnK (μ 277) ν p n) 60 := by
  obtain ⟨a1, a2, a3, a4⟩ := hg.1.2 p hp
  have hn := hw.1.2.1
  obtain ⟨t, ht, et⟩ := ab_tI (hw.2.2.1 p hp)
  obtain ⟨k, hk, ek⟩ := hw.1.2.2.2.2.1 p hp
  have L0 : LL (wp0 σ (1 + 1) p) (ln0 (μ 277) ν p) 1 := by
    unfold wp0 ln0
    have e : (if σ (1 + 1 + 3) p = 0 then (111 : Int32) else 115) = (if μ 277 (6 + 5 * p + 2) = 1 then 115 else 111) := by
      rw [show σ (1 + 1 + 3) p = _ from a3]
      rcases hw.2.1 p hp with q | q <;> rw [q] <;> decide
    rw [e]
    refine (LL.z h5 h6).put (by omega) ?_
    split <;> (unfold nrC; decide)
  have L1 : LL (wp1 σ (1 + 1) p) (ln1 (μ 277) ν p) 2 := by
    unfold wp1 ln1
    rw [show σ (1 + 1 + 1) p = _ from a1]
    unfold sgnV
    by_cases c0 : μ 277 (6 + 5 * p + 0) = 0
    · have c1 : ¬ (0 : Int32) < 0 := by decide
      simp only [c0, c1, ↓reduceIte]
      exact L0.mono (by omega)
    · by_cases c1 : μ 277 (6 + 5 * p + 0) < 0
      · have c2 : ¬ 0 ≤ μ 277 (6 + 5 * p + 0) := Int32.not_le.mpr c1
        have d1 : ¬ (-1 : Int32) = 0 := by decide
        have d2 : (-1 : Int32) ≤ 0 := by decide
        simp only [c0, c1, c2, d1, d2, ↓reduceIte]
        exact L0.put (by omega) (by unfold nrC; decide)
      · have c2 : 0 ≤ μ 277 (6 + 5 * p + 0) := Int32.not_lt.mp c1
        have d1 : ¬ (1 : Int32) = 0 := by decide
        have d2 : ¬ (1 : Int32) ≤ 0 := by decide
        simp only [c0, c1, c2, d1, d2, ↓reduceIte]
        exact L0.put (by omega) (by unfold nrC; decide)
  have L2 : LL (wp2 σ (1 + 1) p) (ln2 (μ 277) ν p) 6 := by
    unfold wp2 ln2
    rw [show σ (1 + 1 + 1) p = _ from a1, show σ (1 + 1 + 2) p = _ from a2, et, ek]
    exact ((L1.num (by omega) (by omega)).put (by omega) (by unfold nrC; decide)).dig (by omega) hk
  have K : ∀ k, k ≤ n → LL (fo (wpF σ (1 + 1) p) (wp2 σ (1 + 1) p) k) (lnK (μ 277) ν p k) (6 + 4 * k) := by
    intro k
    induction k with
    | zero => intro _; exact L2
    | succ k ih =>
      intro hk
      have ih := ih (by omega)
      show LL (wpF σ (1 + 1) p k (fo (wpF σ (1 + 1) p) (wp2 σ (1 + 1) p) k)) (lnF (μ 277) p k (lnK (μ 277) ν p k)) _
      unfold wpF lnF
      rw [show σ (1 + 1 + 7 + p) k = _ from a4 k (by omega)]
      obtain ⟨v, hv, ev⟩ := hw.1.2.2.2.2.2.1 p k hp (by omega)
      by_cases c : μ 277 (36 + 6 * p + k) = 0
      · rw [if_pos c, if_pos c]; exact ih.mono (by omega)
      · rw [if_neg c, if_neg c, ev]
        exact (((ih.put (by omega) (by unfold nrC; decide)).dig (by omega) (by omega)).put (by omega) (by unfold nrC; decide)).dig (by omega) hv
  exact (K n (Nat.le_refl _)).mono (by omega)
theorem wc_ll {τ : Mem} {B : Nat} : ∀ k, B + k ≤ 64 → LL τ ν B → LL (wbC τ k) (lbC ν k) (B + k)
  | 0, _, h => h
  | k + 1, hk, h => (wc_ll k (by omega) h).put (by omega) (by unfold nrC; decide)
theorem wb_ll (hw : WF (μ 277) n mb) (hg : HR σ 1 (μ 277)) (h5 : ∀ j, j < 64 → narrow .char (.int (σ 275 j)) = .int (σ 275 j)) (h6 : ∀ j, j < 120 → narrow .char (.int (ν 283 j)) = .int (ν 283 j)) : LL (wbM σ (1 + 15) mb) (lbM (μ 277) ν mb) 54 := by
  have hn := hw.1.2.1
  have hm := hw.1.2.2.2.1
  have K : ∀ k, k ≤ mb → LL (fo (wbF σ (1 + 15)) (sg σ 274 1 0) k) (lbM (μ 277) ν k) (9 * k) := by
    intro k
    induction k with
    | zero => intro _; exact LL.z h5 h6
    | succ k ih =>
      intro hk
      have ih := ih (by omega)
      show LL (wbF σ (1 + 15) k (fo (wbF σ (1 + 15)) (sg σ 274 1 0) k)) (lbF (μ 277) k (lbM (μ 277) ν k)) _
      obtain ⟨e0, e1, e2, e3⟩ := bm_e hw hg (show k < mb by omega)
      obtain ⟨⟨b1, b2⟩, ⟨v2, hv2, ev2⟩, ⟨v3, hv3, ev3⟩, -⟩ := hw.2.2.2.2.2.2.2.1 k (by omega)
      obtain ⟨⟨o1, o2⟩, o3, o4⟩ := hw.1.2.2.2.2.2.2 k (by omega)
      unfold wbF lbF wbB lbB
      rw [e0, e1, e2, e3, ev2, ev3, tN_nI (by omega), o1, o3]
      have s0 : LL (if nI k ≤ 0 then (fo (wbF σ (1 + 15)) (sg σ 274 1 0) k) else lnM (fo (wbF σ (1 + 15)) (sg σ 274 1 0) k) 32) (if nI k ≤ 0 then lbM (μ 277) ν k else mlM (lbM (μ 277) ν k) 32) (9 * k + 1) := by
        by_cases c : nI k ≤ 0
        · rw [if_pos c, if_pos c]; exact ih.mono (by omega)
        · rw [if_neg c, if_neg c]; exact ih.put (by omega) (by unfold nrC; decide)
      have s1 := (((((s0.dig (by omega) (show tN (μ 277 (72 + 4 * k + 0)) ≤ 9 by omega)).put (by omega) (c := 45) (by unfold nrC; decide)).dig (by omega) (show tN (μ 277 (72 + 4 * k + 1)) ≤ 9 by omega)).put (by omega) (c := 60) (by unfold nrC; decide)).num (by omega) (show v2 ≤ 99 by omega))
      exact (wc_ll v3 (by omega) s1).mono (by omega)
  exact (K mb (Nat.le_refl _)).mono (by omega)
end QES

/-! what CRel gives a call -/
section USE
variable {σ : Mem} {n mb : Nat}
theorem CRel.use (C : CRel σ σ) : ∃ n mb jn u L, WF (σ 277) n mb ∧ HR σ 1 (σ 277) ∧ HOK σ 1 n mb ∧ PRel σ (1 + 1) (σ 277) ∧ BRel σ (1 + 15) (σ 277) ∧ (σ 77 1 = nI jn ∧ jn < 8 ∧ σ 77 2 = nI u ∧ u ≤ 8 ∧ σ 276 4 = nI u) ∧ (σ 239 3 = nI L ∧ L ≤ 60 ∧ σ 276 11 = nI L ∧ ∀ j, j < 60 → vp_nar .char (σ 284 j) = σ 284 j) := by
  obtain ⟨⟨⟨n, mb, w⟩, g⟩, z, ⟨jn, u, a1, a2, a3, a4, a5, -⟩, -, ⟨L, b1, b2, b3, -, b5⟩, -⟩ := C
  exact ⟨n, mb, jn, u, L, w, g, HR_hok w g z.1, g.1, g.2.2.1, ⟨a3, a1, a4, a2, a5⟩, b2, b1, b3, b5⟩
/-- isEven's and beams' hypotheses -/
theorem ev_h (w : WF (σ 277) n mb) (g : HR σ 1 (σ 277)) : (∀ q, q < n → ∀ t, t < n → σ (1 + 1 + 7 + q) t = σ (1 + 1 + 7 + t) q) ∧ (∀ q, q < n → rngB (σ (1 + 1 + 1) q) (-20) 20 = 1) ∧ (∀ q, q < n → rngB (σ (1 + 1 + 2) q) 0 9 = 1) := by
  have hn := w.1.2.1
  refine ⟨fun q hq t ht => ?_, fun q hq => ?_, fun q hq => ?_⟩
  · rw [show σ (1 + 1 + 7 + q) t = _ from (g.1.2 q (by omega)).2.2.2 t (by omega), show σ (1 + 1 + 7 + t) q = _ from (g.1.2 t (by omega)).2.2.2 q (by omega)]
    exact w.2.2.2.1 q t (by omega) (by omega)
  · rw [show σ (1 + 1 + 1) q = _ from (g.1.2 q (by omega)).1]
    obtain ⟨j, hj, e⟩ := tI_n (w.2.2.1 q (by omega))
    rw [e]
    have key : ∀ j, j ≤ 40 → rngB (nI j - nI 20) (-20) 20 = 1 := by decide +kernel
    exact key j hj
  · rw [show σ (1 + 1 + 2) q = _ from (g.1.2 q (by omega)).2.1]
    obtain ⟨k, hk, e⟩ := w.1.2.2.2.2.1 q (by omega)
    rw [e]
    have key : ∀ k, k ≤ 9 → rngB (nI k) 0 9 = 1 := by decide +kernel
    exact key k hk
theorem bm_h (w : WF (σ 277) n mb) (g : HR σ 1 (σ 277)) : (∀ q, q < mb → σ (1 + 15 + 4) q = nI (tN (σ (1 + 15 + 4) q)) ∧ tN (σ (1 + 15 + 4) q) ≤ 9) ∧ (∀ q, q < mb → σ 277 (72 + 4 * q + 2) = nI (tN (σ 277 (72 + 4 * q + 2))) ∧ tN (σ 277 (72 + 4 * q + 2)) ≤ 99) ∧ (∀ q, q < mb → σ 277 (72 + 4 * q + 3) = nI (tN (σ 277 (72 + 4 * q + 3))) ∧ tN (σ 277 (72 + 4 * q + 3)) ≤ 9) := by
  have k : ∀ q, q < mb → (σ 277 (72 + 4 * q + 2) = nI (tN (σ 277 (72 + 4 * q + 2))) ∧ tN (σ 277 (72 + 4 * q + 2)) ≤ 99) ∧ (σ 277 (72 + 4 * q + 3) = nI (tN (σ 277 (72 + 4 * q + 3))) ∧ tN (σ 277 (72 + 4 * q + 3)) ≤ 9) := fun q hq => by
    obtain ⟨-, ⟨a, ha, ea⟩, ⟨b, hb, eb⟩, -⟩ := w.2.2.2.2.2.2.2.1 q hq
    rw [ea, eb, tN_nI (by omega), tN_nI (by omega)]
    exact ⟨⟨rfl, by omega⟩, rfl, by omega⟩
  exact ⟨fun q hq => by rw [(bm_e w g hq).2.2.2]; exact (k q hq).2, fun q hq => (k q hq).1, fun q hq => (k q hq).2⟩
theorem ab_h (w : WF (σ 277) n mb) : ∀ p, p < 6 → abI (σ 277 (6 + 5 * p + 0)) = nI (tN (abI (σ 277 (6 + 5 * p + 0)))) ∧ tN (abI (σ 277 (6 + 5 * p + 0))) ≤ 99 := fun p hp => by
  obtain ⟨a, ha, ea⟩ := ab_tI (w.2.2.1 p hp)
  rw [ea, tN_nI (by omega)]
  exact ⟨rfl, by omega⟩
end USE

/-! the beginning: all is empty on both sides -/
theorem WF_0 {h : Nat → Int32} (z : ∀ j, j < 96 → h j = 0) : WF h 0 0 := by
  refine ⟨⟨(z 0 (by omega)).trans nI_0.symm, by omega, (z 1 (by omega)).trans nI_0.symm, by omega, fun p hp => by rw [z _ (by omega)]; exact okN_0, fun p q hp hq => by rw [z _ (by omega)]; exact okN_0, fun q hq => absurd hq (Nat.not_lt_zero _)⟩, fun p hp => Or.inl (z _ (by omega)), fun p hp => by rw [z _ (by omega)]; unfold tI; decide, fun p q hp hq => by rw [z _ (by omega), z _ (by omega)], fun p hp => z _ (by omega), fun p _ hp w hw => z _ (by omega), fun p q hp hq _ => z _ (by omega), fun b hb => absurd hb (Nat.not_lt_zero _), ?_⟩
  rw [z 3 (by omega)]
  show (0 : Int32) = 0 + h (6 + 5 * 0 + 3) + h (6 + 5 * 1 + 3) + h (6 + 5 * 2 + 3) + h (6 + 5 * 3 + 3) + h (6 + 5 * 4 + 3) + h (6 + 5 * 5 + 3)
  rw [z _ (by omega), z _ (by omega), z _ (by omega), z _ (by omega), z _ (by omega), z _ (by omega)]
  decide
theorem HR_0 {σ : Mem} {hb : Nat} {h : Nat → Int32} (z : ∀ j, j < 96 → h j = 0) (s : ∀ c, hb ≤ c → c < hb + 20 → ∀ j, j < 20 → σ c j = 0) : HR σ hb h := by
  refine ⟨⟨?_, fun p hp => ⟨?_, ?_, ?_, fun q hq => ?_⟩⟩, fun p hp => ⟨?_, ?_⟩, ⟨?_, fun b hb' w hw => ?_⟩, ?_, ?_, ?_⟩
  · rw [s _ (by omega) (by omega) _ (by omega), z _ (by omega)]
  · rw [s _ (by omega) (by omega) _ (by omega), z _ (by omega)]
  · rw [s _ (by omega) (by omega) _ (by omega), z _ (by omega)]
  · rw [s _ (by omega) (by omega) _ (by omega), z _ (by omega)]
  · rw [s _ (by omega) (by omega) _ (by omega), z _ (by omega)]
  · rw [s _ (by omega) (by omega) _ (by omega), z _ (by omega)]
  · rw [s _ (by omega) (by omega) _ (by omega), z _ (by omega)]
  · rw [s _ (by omega) (by omega) _ (by omega), z _ (by omega)]
  · rw [z 1 (by omega)] at hb'; have t0 : tN 0 = 0 := by decide
    omega
  · rw [s _ (by omega) (by omega) _ (by omega), z _ (by omega)]
  · rw [s _ (by omega) (by omega) _ (by omega), z _ (by omega)]
  · rw [s _ (by omega) (by omega) _ (by omega), z _ (by omega)]
/-- the memory of new objects: what it must be for both to agree -/
def Mem0 (σ : Mem) : Prop := (∀ c, 1 ≤ c → c < 239 → ∀ j, σ c j = 0) ∧ (∀ j, j ≠ 10 → 9 ≤ j → σ 0 j = 0) ∧ σ 0 10 = -1 ∧ σ 239 3 = 0 ∧ σ 274 1 = 0 ∧ (∀ j, σ 240 j = 0) ∧ (∀ j, σ 275 j = 0) ∧ (∀ c, 277 ≤ c → c < 286 → ∀ j, σ c j = 0) ∧ (∀ j, j ≠ 15 → σ 276 j = 0) ∧ σ 276 15 = -1
theorem CRel_0 {σ : Mem} (h : Mem0 σ) : CRel σ σ := by
  obtain ⟨h1, h2, h3, h4, h5, h6, h7, h8, h9, h0⟩ := h
  have zb : ∀ c, 1 ≤ c → c < 239 → ZB σ c := fun c c1 c2 j _ => by rw [h1 c c1 c2 j]; decide
  have n0 : ∀ j : Nat, narrow .char (.int 0) = .int 0 := fun _ => by decide
  refine ⟨⟨⟨0, 0, WF_0 (fun j _ => h8 277 (by omega) (by omega) j)⟩, HR_0 (fun j _ => h8 277 (by omega) (by omega) j) (fun c c1 c2 j _ => h1 c (by omega) (by omega) j)⟩, ⟨zb _ (by omega) (by omega), zb _ (by omega) (by omega), zb _ (by omega) (by omega), fun q hq => zb _ (by omega) (by omega)⟩, ⟨0, 0, by omega, by omega, (h1 77 (by omega) (by omega) 1).trans nI_0.symm, (h1 77 (by omega) (by omega) 2).trans nI_0.symm, (h9 4 (by omega)).trans nI_0.symm, fun i hi => absurd hi (Nat.not_lt_zero _)⟩, ⟨(h2 9 (by omega) (by omega)).trans (h9 6 (by omega)).symm, fun y => absurd (h9 6 (by omega)) y⟩, ⟨0, by omega, h4.trans nI_0.symm, (h9 11 (by omega)).trans nI_0.symm, ?_, fun j _ => by rw [h8 284 (by omega) (by omega) j]; decide⟩, ⟨0, by omega, h5.trans nI_0.symm, (h9 9 (by omega)).trans nI_0.symm, fun j hj => absurd hj (Nat.not_lt_zero _), fun j _ => by rw [h7 j]; exact n0 j, fun j _ => by rw [h8 283 (by omega) (by omega) j]; exact n0 j⟩, h3.trans h0.symm, (h2 11 (by omega) (by omega)).trans (h9 16 (by omega)).symm, (h2 12 (by omega) (by omega)).trans (h9 17 (by omega)).symm, (h2 13 (by omega) (by omega)).trans (h9 18 (by omega)).symm⟩
  funext j
  rw [h6 j, h8 284 (by omega) (by omega) j]

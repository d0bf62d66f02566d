/-! changes: the reference's memory behind them -/
section MDC
variable {μ M : Mem} {u : Nat} {b : Int32} {t : StT}
theorem tri_row {j : Nat} (hj : j < 96) : triM μ 278 j = μ 277 j := by
  unfold triM; rw [sb_s]; exact if_pos hj
theorem md_no (hM : b = t.1 ∧ StM M (triM μ) t) (h0 : t.1 = 0) : endM b M u 276 20 = 1 ∧ MdN (endM b M u) μ ∧ (endM b M u 276 16 = t.2.2.2.1 ∧ endM b M u 276 17 = t.2.2.2.2 ∧ endM b M u 276 18 = 0) ∧ ∀ c, c < 276 → endM b M u c = μ c := by
  obtain ⟨h1, h2⟩ := hM
  have hb : b = 0 := h1.trans h0
  unfold endM
  rw [if_pos hb]
  rcases h2 with ⟨-, h2⟩ | ⟨h2, -⟩
  · rw [h2]
    have hc : ∀ c, c ≠ 276 → c ≠ 278 → sg (refR (triM μ) t.2.2.2.1 t.2.2.2.2) 276 20 1 c = μ c := fun c c1 c2 => by
      unfold refR; rw [sg_n c1, sg_n c1, sg_n c1, sg_n c1]; exact triM_c c2 c1
    have hj : ∀ j, j ≠ 16 → j ≠ 17 → j ≠ 18 → j ≠ 20 → sg (refR (triM μ) t.2.2.2.1 t.2.2.2.2) 276 20 1 276 j = μ 276 j := fun j j1 j2 j3 j4 => by
      unfold refR; rw [sg_at, if_neg (by omega), sg_at, if_neg (by omega), sg_at, if_neg (by omega), sg_at, if_neg (by omega)]; exact triM_276 j4
    refine ⟨sg_ss, ⟨fun j _ => by rw [hc 277 (by omega) (by omega)], ⟨hj 4 (by omega) (by omega) (by omega) (by omega), hc _ (by omega) (by omega)⟩, ⟨hj 6 (by omega) (by omega) (by omega) (by omega), hc _ (by omega) (by omega)⟩, ⟨hj 11 (by omega) (by omega) (by omega) (by omega), hc _ (by omega) (by omega)⟩, ⟨hj 9 (by omega) (by omega) (by omega) (by omega), hc _ (by omega) (by omega)⟩, hj 15 (by omega) (by omega) (by omega) (by omega)⟩, ⟨?_, ?_, ?_⟩, fun c h => hc c (by omega) (by omega)⟩ <;> unfold refR <;> simp [sg_at]
  · rw [h0] at h2; exact absurd h2 (by decide)
theorem md_ok (hM : b = t.1 ∧ StM M (triM μ) t) (h0 : t.1 = 1) (hu : μ 276 4 = nI u) (hu8 : u ≤ 8) : endV b M = t.2.2.1 ∧ endM b M u 276 20 = 0 ∧ MdOK (endM b M u) μ t.2.1 ∧ MdT (endM b M u) μ ∧ MdR (endM b M u) μ ∧ ∀ c, c < 276 → endM b M u c = μ c := by
  obtain ⟨h1, h2⟩ := hM
  have hb : ¬ b = 0 := fun z => absurd ((h1.trans h0).symm.trans z) (by decide)
  unfold endM endV
  rw [if_neg hb, if_neg hb]
  rcases h2 with ⟨h2, -⟩ | ⟨-, h3, h4, h5, h6⟩
  · rw [h0] at h2; exact absurd h2 (by decide)
  · have kc : ∀ c, c ≠ 280 → c ≠ 276 → keepM M u c = M c := fun c c1 c2 => by
      unfold keepM; rw [sg_n c2, sb_n c1, kp0_c c1 c2]
    have kj : ∀ j, j ≠ 4 → keepM M u 276 j = M 276 j := fun j hj => by
      unfold keepM kp0
      rw [sg_at, if_neg (by omega), sb_n (by decide)]
      split
      · rw [sg_at, if_neg (by omega), sb_n (by decide)]
      · rfl
    have mc : ∀ c, c ≠ 276 → c ≠ 277 → c ≠ 278 → c ≠ 280 → c ≠ 282 → keepM M u c = μ c := fun c c1 c2 c3 c4 c5 => by
      rw [kc c c4 c1, h3 c c1 c2 c5, triM_c c3 c1]
    have mj : ∀ j, j ≠ 4 → j ≠ 19 → j ≠ 20 → keepM M u 276 j = μ 276 j := fun j j1 j2 j3 => by
      rw [kj j j1, h4 j j2, triM_276 j3]
    refine ⟨h6, ?_, ⟨fun j _ => by rw [kc _ (by omega) (by omega), h5], mc _ (by omega) (by omega) (by omega) (by omega) (by omega), mc _ (by omega) (by omega) (by omega) (by omega) (by omega), mj _ (by omega) (by omega) (by omega), mj _ (by omega) (by omega) (by omega), fun u' q1 q2 => ?_⟩, ⟨⟨mj _ (by omega) (by omega) (by omega), mc _ (by omega) (by omega) (by omega) (by omega) (by omega)⟩, mj _ (by omega) (by omega) (by omega)⟩, ⟨mj _ (by omega) (by omega) (by omega), mj _ (by omega) (by omega) (by omega), mj _ (by omega) (by omega) (by omega)⟩, fun c hc => mc c (by omega) (by omega) (by omega) (by omega) (by omega)⟩
    · rw [kj 20 (by omega), h4 20 (by omega)]
      unfold triM; rw [sb_n (by decide), sg_ss]
    · obtain rfl : u' = u := (nI_eq (by omega) (by omega)).mp (q2.symm.trans hu)
      have hk := kpU_le hu8
      have e280 : keepM M u' 280 = putR (kp0 M u' 280) (M 278) (96 * kpU u') 96 := by unfold keepM; rw [sg_n (by decide), sb_s]
      have m280 : M 280 = μ 280 := by rw [h3 _ (by omega) (by omega) (by omega)]; exact triM_c (by omega) (by omega)
      refine ⟨by unfold keepM; rw [sg_ss], fun i hi j hj => ?_, fun j hj => ?_⟩
      · unfold rowK
        rw [e280]
        unfold putR
        rw [if_neg (by omega)]
        unfold kp0
        by_cases c : u' = 8
        · rw [if_pos c, if_pos c, sg_n (by decide), sb_s]
          have hi7 : i < 7 := by unfold kpU at hi; rw [if_pos c] at hi; exact hi
          unfold fil
          rw [if_pos (by omega), m280]
          show μ 280 (96 + (96 * i + j)) = μ 280 (96 * (i + 1) + j)
          exact congrArg _ (by omega)
        · rw [if_neg c, if_neg c, m280]
      · unfold rowK
        rw [e280]
        unfold putR
        rw [if_pos (by omega), show 96 * kpU u' + j - 96 * kpU u' = j by omega, h3 278 (by omega) (by omega) (by omega)]
        exact tri_row hj
end MDC

/-! commands: the class's world behind them -/
section CYS
variable {τ σ μ X : Mem} {row : Nat → Int32} {jn u L : Nat} {r : Int32}
theorem acc_rel (C : CRel σ μ) (F : ∀ q, 1 ≤ q → q < 239 ∨ 274 ≤ q → ¬ (21 ≤ q ∧ q < 41) → X q = σ q) (F0 : ∀ j, j ≠ 10 → X 0 j = σ 0 j) (s1 : HR X 21 row) (hw : wfr row) (zc : ZB X (21 + 1 + 3)) (hac : AccQ τ X jn u) (hj : σ 77 1 = nI jn) (hj8 : jn < 8) (hu : σ 77 2 = nI u) (hu8 : u ≤ 8) :
    (∀ c, 276 ≤ c → τ c = σ c) ∧ (τ 239 = X 239 ∧ τ 240 = X 240) ∧ ∀ μ', MdOK μ' μ row → TxR τ μ' → X 0 10 = μ' 276 15 → MdR μ' μ → CRel τ μ' := by
  obtain ⟨n', mb', s2⟩ := hw
  obtain ⟨C1, C2, C3, C4, C5, C6, C7, C8⟩ := C
  have c3 := hac
  obtain ⟨ρ2, d1, d2⟩ := c3
  have G : ∀ q, ¬ (1 ≤ q ∧ q < 41) → q ≠ 77 → ¬ (79 + 20 * jn ≤ q ∧ q < 79 + 20 * jn + 20) → τ q = X q := fun q h1 h2 h3 => by
    rw [d2.1 q (by omega), sg_n h2, sg_n h2, d1.1 q h3]
  have zr : ZB τ (79 + 20 * jn + 1 + 3) := by
    refine ZB_e (ZB_cp d1 (ZB_e C2.1 (F _ (by omega) (by omega) (by omega)))) ?_
    rw [d2.1 _ (by omega), sg_n (by omega), sg_n (by omega)]
  have z21 : ZB (sg (sg ρ2 77 1 (nI ((jn + 1) % 8))) 77 2 (nI (min (u + 1) 8))) (21 + 1 + 3) := by
    refine ZB_e zc ?_
    rw [sg_n (by omega), sg_n (by omega), d1.1 _ (by omega)]
  have G2 : ∀ q, 41 ≤ q → q < 239 ∨ 274 ≤ q → q ≠ 77 → ¬ (79 + 20 * jn ≤ q ∧ q < 79 + 20 * jn + 20) → τ q = σ q := fun q h1 h2 h3 h4 => (G q (by omega) h3 h4).trans (F q (by omega) h2 (by omega))
  refine ⟨fun c hc => G2 c (by omega) (by omega) (by omega) (by omega), ⟨G _ (by omega) (by omega) (by omega), G _ (by omega) (by omega) (by omega)⟩, fun μ' m1 m2 m9 m3 => ⟨⟨⟨n', mb', WF_r m1.1 s2⟩, ?_⟩, ⟨ZB_cp d2 z21, ?_, ?_, fun q hq => ?_⟩, ?_, ?_, m2, ?_, ?_, ?_⟩⟩
  · refine HR_r s2 m1.1 (HR_cp s2 d2 (HR_c (fun c h1 h2 => ?_) s1))
    rw [sg_n (by omega), sg_n (by omega), d1.1 c (by omega)]
  · exact ZB_e z21 (d2.1 _ (by omega))
  · exact ZB_e C2.2.2.1 (G2 _ (by omega) (by omega) (by omega) (by omega))
  · by_cases hq2 : q = jn
    · subst hq2; exact zr
    · exact ZB_e (C2.2.2.2 q hq) (G2 _ (by omega) (by omega) (by omega) (by omega))
  · refine hist_keep (σ := X) (HsR.c C3 ⟨by rw [F 77 (by omega) (by omega) (by omega)], by rw [F 77 (by omega) (by omega) (by omega)]⟩ (fun c h1 h2 => F c (by omega) (by omega) (by omega))) hac (by rw [F 77 (by omega) (by omega) (by omega)]; exact hj) hj8 (by rw [F 77 (by omega) (by omega) (by omega)]; exact hu) hu8 (C1.c (fun c h1 h2 => F c (by omega) (by omega) (by omega))) m1
  · exact (C4.c (by rw [G 0 (by omega) (by omega) (by omega)]; exact F0 9 (by omega)) (fun c h1 h2 => G2 c (by omega) (by omega) (by omega) (by omega))).m m1.2.2.2.1 m1.2.1
  · exact (C6.c (by rw [G2 274 (by omega) (by omega) (by omega) (by omega)]) (G2 _ (by omega) (by omega) (by omega) (by omega))).m m1.2.2.2.2.1 m1.2.2.1
  · exact (congrFun (G 0 (by omega) (by omega) (by omega)) 10).trans m9
  · refine RsR.m (μ := μ) ?_ m3.1 m3.2.1 m3.2.2
    unfold RsR; rw [G 0 (by omega) (by omega) (by omega), F0 11 (by omega), F0 12 (by omega), F0 13 (by omega)]; exact C8
/-- the memory while commands are carried out -/
theorem cyk_fr {τ1 σ2 : Mem} {n k : Nat} (C : CRel σ μ) (hr : Rd1 τ1 σ (σ 240) L n) (hc : CpH σ2 (rdX τ1 (-1)) 21 1) (hk : k ≤ n + 1) : (∀ q, 1 ≤ q → q < 239 ∨ 274 ≤ q → ¬ (21 ≤ q ∧ q < 41) → carK σ2 k q = σ q) ∧ (∀ j, j ≠ 10 → carK σ2 k 0 j = σ 0 j) ∧ carK σ2 k 0 10 = -1 ∧ carK σ2 k 239 3 = 0 ∧ carK σ2 k 240 = σ 240 ∧ ZB (carK σ2 k) (21 + 1 + 3) := by
  have hd : ∃ n mb, HOK σ2 21 n mb := by
    obtain ⟨n1, mb1, w⟩ := C.1.1
    exact ⟨n1, mb1, HOK_cp hc (HOK_c (fun c c1 c2 => rdX_e hr (by omega) (by omega)) (HR_hok w C.1.2 C.2.1.1))⟩
  have hn := hr.2.2.1
  have A : ∀ q, ¬ (21 ≤ q ∧ q < 41) → q < 243 ∨ 274 ≤ q → carK σ2 k q = rdX τ1 (-1) q := fun q h1 h2 => (carK_c hd h1 k (fun i hi => by omega)).trans (hc.1 q h1)
  refine ⟨fun q h1 h2 h3 => (A q h3 (by omega)).trans (rdX_e hr (by omega) (by omega)), fun j hj => ?_, ?_, ?_, ?_, carK_z hd k⟩
  · rw [A 0 (by omega) (by omega)]
    unfold rdX; rw [sg_n (by omega), sg_at, if_neg (by omega), hr.1 0 (by omega) (by omega) (by omega)]
  · rw [A 0 (by omega) (by omega)]; unfold rdX; simp [sg_at]
  · rw [A 239 (by omega) (by omega)]; unfold rdX; simp [sg_at]
  · rw [A 240 (by omega) (by omega), rdX_c (by omega) (by omega)]; exact hr.1 240 (by omega) (by omega) (by omega)
theorem cmd_ok (C : CRel σ μ) (hL : L ≤ 60) (hj : σ 77 1 = nI jn) (hj8 : jn < 8) (hu : σ 77 2 = nI u) (hu8 : u ≤ 8) (h : CmR τ σ L jn u r) :
    ¬ (cmP μ L).1 = 0 ∧ (cmX μ L).1 = 1 ∧ r = nI (cmX μ L).2.2.1 ∧ (∀ c, 276 ≤ c → τ c = σ c) ∧ ∀ μ', MdOK μ' μ (cmX μ L).2.1 → μ' 276 11 = 0 → μ' 284 = μ 284 → μ' 276 15 = -1 → MdR μ' μ → CRel τ μ' := by
  obtain ⟨τ1, σ2, n, h1, h2, h3, h4, h5⟩ := h
  obtain ⟨L', q1, q2, q3, q4, q5⟩ := C.2.2.2.2.1
  obtain ⟨s1, s2, s3, -⟩ := cmds_st (h := μ 277) h1 h2 C.1.1 C.1.2 C.2.1.1 (n + 1) (Nat.le_refl _) h3
  obtain ⟨f1, f2, f3, f4, f5, f6⟩ := cyk_fr C h1 h2 (Nat.le_refl (n + 1))
  have E := exS_ok (h := μ 277) hL h1 s3
  have eX : cmX μ L = exS (σ 240) L (L + 2) 0 (μ 277) 0 := by unfold cmX; rw [q4]
  obtain ⟨a1, ⟨a2, a3⟩, a4⟩ := acc_rel C f1 f2 s1 s2 f6 h4 hj hj8 hu hu8
  refine ⟨?_, by rw [eX, E], by rw [eX, E]; exact h5, a1, fun μ' m1 m2 m3 m4 m5 => a4 μ' (by rw [eX, E] at m1; exact m1) ⟨0, by omega, by rw [a2, f4]; exact nI_0.symm, m2.trans nI_0.symm, by rw [a3, f5, m3]; exact q4, fun j hj => by rw [m3]; exact q5 j hj⟩ (f3.trans m4.symm) m5⟩
  have := h1.2.2.2.2.1
  rw [q4] at this
  exact this
theorem cmd_x1 (C : CRel σ μ) (hL : L ≤ 60) (h : CmX1 τ σ L) :
    ¬ (cmP μ L).1 = 0 ∧ (cmX μ L).1 = 0 ∧ (∀ c, 276 ≤ c → τ c = σ c) ∧ ∀ μ', (∀ j, j < 96 → μ' 277 j = μ 277 j) → (μ' 276 4 = μ 276 4 ∧ μ' 280 = μ 280) → (μ' 276 6 = μ 276 6 ∧ μ' 281 = μ 281) → (μ' 276 9 = μ 276 9 ∧ μ' 283 = μ 283) → μ' 276 11 = 0 → μ' 284 = μ 284 → μ' 276 15 = -1 → (μ' 276 16 = (cmX μ L).2.2.2.1 ∧ μ' 276 17 = (cmX μ L).2.2.2.2 ∧ μ' 276 18 = nI (cmX μ L).2.2.1) → CRel τ μ' := by
  obtain ⟨τ1, σ2, n, k, h1, h2, hk, h3, h4, h5⟩ := h
  obtain ⟨L', q1, q2, q3, q4, q5⟩ := C.2.2.2.2.1
  obtain ⟨s1, s2, s3, s4⟩ := cmds_st (h := μ 277) h1 h2 C.1.1 C.1.2 C.2.1.1 k (by omega) h3
  obtain ⟨f1, f2, f3, f4, f5, f6⟩ := cyk_fr (k := k + 1) C h1 h2 (by omega)
  obtain ⟨t1, t2, t3⟩ := s4 hk
  rcases t3 with ⟨k1, k2, k3, k4⟩ | ⟨-, k2, -⟩
  · have E := exS_no (h := μ 277) hL h1 hk s3 k1
    have eX : cmX μ L = exS (σ 240) L (L + 2) 0 (μ 277) 0 := by unfold cmX; rw [q4]
    subst h5
    have G : ∀ q, q ≠ 0 → kepM (carK σ2 (k + 1)) (243 + k) (nI k) q = carK σ2 (k + 1) q := fun q h3 => by
      unfold kepM; rw [sg_n h3, sg_n h3, sg_n h3]
    have G0 : ∀ j, j ≠ 11 → j ≠ 12 → j ≠ 13 → kepM (carK σ2 (k + 1)) (243 + k) (nI k) 0 j = carK σ2 (k + 1) 0 j := fun j h1 h2 h3 => by
      unfold kepM; rw [sg_at, if_neg (by omega), sg_at, if_neg (by omega), sg_at, if_neg (by omega)]
    have GF : ∀ q, 1 ≤ q → q < 239 ∨ 274 ≤ q → ¬ (21 ≤ q ∧ q < 41) → kepM (carK σ2 (k + 1)) (243 + k) (nI k) q = σ q := fun q c1 c2 c3 => (G q (by omega)).trans (f1 q c1 c2 c3)
    obtain ⟨C1, C2, C3, C4, C5, C6, C7, C8⟩ := C
    refine ⟨?_, by rw [eX, E], fun c hc => GF c (by omega) (by omega) (by omega), fun μ' m1 m2 m3 m4 m5 m6 m7 m8 => ⟨(C1.c (fun c c1 c2 => GF c (by omega) (by omega) (by omega))).m m1, C2.c (ZB_e f6 (G _ (by omega))) (fun c c1 c2 => ?_), (C3.c ⟨by rw [GF 77 (by omega) (by omega) (by omega)], by rw [GF 77 (by omega) (by omega) (by omega)]⟩ (fun c c1 c2 => GF c (by omega) (by omega) (by omega))).m m2.1 m2.2, (C4.c ((G0 9 (by omega) (by omega) (by omega)).trans (f2 9 (by omega))) (fun c c1 c2 => GF c (by omega) (by omega) (by omega))).m m3.1 m3.2, ⟨0, by omega, by rw [G _ (by omega), f4]; exact nI_0.symm, m5.trans nI_0.symm, by rw [G _ (by omega), f5, m6]; exact q4, fun j hj => by rw [m6]; exact q5 j hj⟩, (C6.c (by rw [GF 274 (by omega) (by omega) (by omega)]) (GF _ (by omega) (by omega) (by omega))).m m4.1 m4.2, ?_, ?_⟩⟩
    · have := h1.2.2.2.2.1
      rw [q4] at this
      exact this
    · by_cases c3 : c = 0
      · exact Or.inr (by omega)
      · exact Or.inl (GF c (by omega) (by omega) (by omega))
    · exact (G0 10 (by omega) (by omega) (by omega)).trans (f3.trans m7.symm)
    · unfold RsR
      rw [m8.1, m8.2.1, m8.2.2, eX, E]
      refine ⟨?_, ?_, ?_⟩
      · refine Eq.trans ?_ k3
        unfold kepM; simp [sg_at]
      · refine Eq.trans ?_ k4
        unfold kepM; simp [sg_at]
      · unfold kepM; rw [sg_ss]
  · exact absurd k2 h4
theorem cmd_x0 (C : CRel σ μ) (h : CmX0 τ σ L) :
    (cmP μ L).1 = 0 ∧ (∀ c, 276 ≤ c → τ c = σ c) ∧ ∀ μ', (∀ j, j < 96 → μ' 277 j = μ 277 j) → (μ' 276 4 = μ 276 4 ∧ μ' 280 = μ 280) → (μ' 276 6 = μ 276 6 ∧ μ' 281 = μ 281) → (μ' 276 9 = μ 276 9 ∧ μ' 283 = μ 283) → μ' 276 11 = 0 → μ' 284 = μ 284 → μ' 276 15 = nI (cmP μ L).2 → MdR μ' μ → CRel τ μ' := by
  obtain ⟨τ1, r, ⟨h1, h2, h3, h4, h5⟩, rfl⟩ := h
  obtain ⟨L', q1, q2, q3, q4, q5⟩ := C.2.2.2.2.1
  rw [q4] at h3 h4
  have GF : ∀ q, 1 ≤ q → q < 239 ∨ 273 ≤ q → rdX τ1 r q = σ q := fun q c1 c2 => (rdX_c (by omega) (by omega)).trans (h1 q (by omega) (by omega) (by omega))
  have G0 : ∀ j, j ≠ 10 → rdX τ1 r 0 j = σ 0 j := fun j hj => by unfold rdX; rw [sg_n (by omega), sg_at, if_neg (by omega), h1 0 (by omega) (by omega) (by omega)]
  obtain ⟨C1, C2, C3, C4, C5, C6, C7, C8⟩ := C
  refine ⟨h3, fun c hc => GF c (by omega) (by omega), fun μ' m1 m2 m3 m4 m5 m6 m7 m8 => ⟨(C1.c (fun c c1 c2 => GF c (by omega) (by omega))).m m1, C2.c (ZB_e C2.2.1 (GF _ (by omega) (by omega))) (fun c c1 c2 => ?_), (C3.c ⟨by rw [GF 77 (by omega) (by omega)], by rw [GF 77 (by omega) (by omega)]⟩ (fun c c1 c2 => GF c (by omega) (by omega))).m m2.1 m2.2, (C4.c (G0 9 (by omega)) (fun c c1 c2 => GF c (by omega) (by omega))).m m3.1 m3.2, ⟨0, by omega, by unfold rdX; rw [sg_ss]; exact nI_0.symm, m5.trans nI_0.symm, by rw [rdX_c (by omega) (by omega), h1 240 (by omega) (by omega) (by omega), m6]; exact q4, fun j hj => by rw [m6]; exact q5 j hj⟩, (C6.c (by rw [GF 274 (by omega) (by omega)]) (GF _ (by omega) (by omega))).m m4.1 m4.2, ?_, ?_⟩⟩
  · by_cases c3 : c = 0
    · exact Or.inr (by omega)
    · exact Or.inl (GF c (by omega) (by omega))
  · show rdX τ1 r 0 10 = _
    rw [m7]
    unfold rdX; rw [sg_n (by omega), sg_ss]; exact h4
  · refine RsR.m (μ := μ) ?_ m8.1 m8.2.1 m8.2.2
    unfold RsR; rw [G0 11 (by omega), G0 12 (by omega), G0 13 (by omega)]; exact C8
end CYS

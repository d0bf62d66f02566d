/-! commands of the reference; undoing, saving, restoring, appending: both sides -/
section UNS
variable {τ τ2 σ μ : Mem} {jn u L : Nat} {r : Int32}
theorem cmd_md (h : CmdQ τ2 μ L u r) (hu : μ 276 4 = nI u) (hu8 : u ≤ 8) : (∀ c, c < 276 → τ2 c = μ c) ∧ (μ 276 6 = τ2 276 6 ∧ μ 281 = τ2 281) ∧ (τ2 276 9 = μ 276 9 ∧ τ2 283 = μ 283) ∧ τ2 276 11 = 0 ∧ τ2 284 = μ 284 ∧
    (((cmP μ L).1 = 0 ∧ τ2 276 20 = 1 ∧ τ2 276 15 = nI (cmP μ L).2 ∧ (τ2 276 4 = μ 276 4 ∧ τ2 280 = μ 280) ∧ MdR τ2 μ ∧ ∀ j, j < 96 → τ2 277 j = μ 277 j) ∨
     (¬ (cmP μ L).1 = 0 ∧ (cmX μ L).1 = 0 ∧ τ2 276 20 = 2 ∧ τ2 276 15 = -1 ∧ (τ2 276 4 = μ 276 4 ∧ τ2 280 = μ 280) ∧ (τ2 276 16 = (cmX μ L).2.2.2.1 ∧ τ2 276 17 = (cmX μ L).2.2.2.2 ∧ τ2 276 18 = nI (cmX μ L).2.2.1) ∧ ∀ j, j < 96 → τ2 277 j = μ 277 j) ∨
     (¬ (cmP μ L).1 = 0 ∧ (cmX μ L).1 = 1 ∧ r = nI (cmX μ L).2.2.1 ∧ τ2 276 20 = 0 ∧ τ2 276 15 = -1 ∧ MdR τ2 μ ∧ MdOK τ2 μ (cmX μ L).2.1)) := by
  obtain ⟨h1, ⟨h2, h3, h4⟩, h5⟩ := h
  refine ⟨fun c hc => h1 c (by omega) (by omega) (by omega) (by omega) (by omega) (by omega), ⟨h2.symm, (h1 _ (by omega) (by omega) (by omega) (by omega) (by omega) (by omega)).symm⟩, ⟨h3, h1 _ (by omega) (by omega) (by omega) (by omega) (by omega) (by omega)⟩, h4, h1 _ (by omega) (by omega) (by omega) (by omega) (by omega) (by omega), ?_⟩
  rcases h5 with ⟨a1, -, a3, a4, a5, a6, a7⟩ | ⟨a1, a2, -, a4, a5, a6, a7, a8⟩ | ⟨a1, a2, a3, a4, a5, ⟨a6, a7⟩, a8, a9⟩
  · exact Or.inl ⟨a1, a3, a4, a5, a6, a7⟩
  · exact Or.inr (Or.inl ⟨a1, a2, a4, a5, a6, a7, a8⟩)
  · refine Or.inr (Or.inr ⟨a1, a2, a3, a4, a5, a8, fun j _ => by rw [a9], h1 _ (by omega) (by omega) (by omega) (by omega) (by omega) (by omega), h1 _ (by omega) (by omega) (by omega) (by omega) (by omega) (by omega), h2, h3, fun u' q1 q2 => ?_⟩)
    obtain rfl : u' = u := (nI_eq (by omega) (by omega)).mp (q2.symm.trans hu)
    have hk := kpU_le hu8
    refine ⟨a6, fun i hi j hj => ?_, fun j hj => ?_⟩
    · unfold rowK
      rw [a7]
      unfold putR
      rw [if_neg (by omega)]
      unfold kp0
      by_cases c : u' = 8
      · rw [if_pos c, if_pos c, sg_n (by decide), sb_s]
        have hi7 : i < 7 := by unfold kpU at hi; rw [if_pos c] at hi; exact hi
        unfold fil
        rw [if_pos (by omega)]
        show μ 280 (96 + (96 * i + j)) = μ 280 (96 * (i + 1) + j)
        exact congrArg _ (by omega)
      · rw [if_neg c, if_neg c]
    · unfold rowK
      rw [a7]
      unfold putR
      rw [if_pos (by omega), show 96 * kpU u' + j - 96 * kpU u' = j by omega]
      exact if_pos hj
theorem MdE_th {x : Int32} : MdE (thM μ x) μ := by
  unfold MdE thM
  simp [sg_at]
  exact ⟨sg_n (by decide), sg_n (by decide), sg_n (by decide), sg_n (by decide)⟩
theorem und_rel (C : CRel σ μ) (hj : σ 77 1 = nI jn) (hj8 : jn < 8) (hu : σ 77 2 = nI u) (hu8 : u ≤ 8) (h0 : ¬ u = 0) (h : UndQ τ σ jn u) : (∀ c, 276 ≤ c → τ c = σ c) ∧ CRel τ (undM μ u) := by
  obtain ⟨ρ, c1, c2⟩ := h
  obtain ⟨C1, C2, C3, C4, C5, C6, C7, C8⟩ := C
  obtain ⟨jn', u', a1, a2, a3, a4, a5, a6⟩ := C3
  obtain rfl : jn' = jn := (nI_eq (by omega) (by omega)).mp (a3.symm.trans hj)
  obtain rfl : u' = u := (nI_eq (by omega) (by omega)).mp (a4.symm.trans hu)
  have F : ∀ c, ¬ (1 ≤ c ∧ c < 21) → c ≠ 77 → τ c = σ c := fun c d1 d2 => by rw [c2, sg_n d2, c1.1 c (by omega), sg_n d2]
  have F1 : ∀ c, c ≠ 77 → τ c = ρ c := fun c d => by rw [c2, sg_n d]
  have m : undM μ u' = sb (sg (thM μ 0) 276 4 (nI (u' - 1))) 277 (fil (fun q => μ 280 (96 * (u' - 1) + q)) (μ 277) 96) := if_neg h0
  rw [m]
  have mc : ∀ c, c ≠ 276 → c ≠ 277 → sb (sg (thM μ 0) 276 4 (nI (u' - 1))) 277 (fil (fun q => μ 280 (96 * (u' - 1) + q)) (μ 277) 96) c = μ c := fun c d1 d2 => by unfold thM; rw [sb_n d2, sg_n d1, sg_n d1]
  have mj : ∀ j, j ≠ 4 → j ≠ 20 → sb (sg (thM μ 0) 276 4 (nI (u' - 1))) 277 (fil (fun q => μ 280 (96 * (u' - 1) + q)) (μ 277) 96) 276 j = μ 276 j := fun j d1 d2 => by unfold thM; rw [sb_n (by decide), sg_at, if_neg (by omega), sg_at, if_neg (by omega)]
  have m4 : sb (sg (thM μ 0) 276 4 (nI (u' - 1))) 277 (fil (fun q => μ 280 (96 * (u' - 1) + q)) (μ 277) 96) 276 4 = nI (u' - 1) := by rw [sb_n (by decide), sg_ss]
  have m7 : ∀ j, j < 96 → sb (sg (thM μ 0) 276 4 (nI (u' - 1))) 277 (fil (fun q => μ 280 (96 * (u' - 1) + q)) (μ 277) 96) 277 j = rowK μ (u' - 1) j := fun j hj => by rw [sb_s]; exact if_pos hj
  generalize sb (sg (thM μ 0) 276 4 (nI (u' - 1))) 277 (fil (fun q => μ 280 (96 * (u' - 1) + q)) (μ 277) 96) = μ' at *
  obtain ⟨⟨n0, mb0, w0⟩, g0⟩ := a6 0 (by omega)
  rw [show u' - 1 - 0 = u' - 1 by omega, show (jn' + 7 - 0) % 8 = (jn' + 8 - 1) % 8 by omega] at g0
  rw [show u' - 1 - 0 = u' - 1 by omega] at w0
  have g0' : HR (sg σ 77 1 (nI ((jn' + 8 - 1) % 8))) (79 + 20 * ((jn' + 8 - 1) % 8)) (rowK μ (u' - 1)) := HR_c (fun c d1 d2 => sg_n (by omega)) g0
  refine ⟨fun c hc => F c (by omega) (by omega), ⟨⟨n0, mb0, WF_r m7 w0⟩, HR_r w0 m7 (HR_c (fun c d1 d2 => F1 c (by omega)) (HR_cp w0 c1 g0'))⟩, ⟨?_, ?_, ?_, fun q hq => ?_⟩, ⟨(jn' + 8 - 1) % 8, u' - 1, by omega, by omega, ?_, ?_, m4, fun i hi => ?_⟩, (C4.c (by rw [F 0 (by omega) (by omega)]) (fun c d1 d2 => F c (by omega) (by omega))).m (mj 6 (by omega) (by omega)) (mc _ (by omega) (by omega)), (C5.c (by rw [F 239 (by omega) (by omega)]) (F _ (by omega) (by omega))).m (mj 11 (by omega) (by omega)) (mc _ (by omega) (by omega)), (C6.c (by rw [F 274 (by omega) (by omega)]) (F _ (by omega) (by omega))).m (mj 9 (by omega) (by omega)) (mc _ (by omega) (by omega)), ?_, ?_⟩
  · refine ZB_e (ZB_cp c1 (ZB_e (C2.2.2.2 ((jn' + 8 - 1) % 8) (by omega)) (sg_n (by omega)))) (F1 _ (by omega))
  · exact ZB_e C2.2.1 (F _ (by omega) (by omega))
  · exact ZB_e C2.2.2.1 (F _ (by omega) (by omega))
  · exact ZB_e (C2.2.2.2 q hq) (F _ (by omega) (by omega))
  · rw [c2, sg_at, if_neg (by omega), c1.1 77 (by omega), sg_ss]
  · rw [c2, sg_ss]
  · have er : rowK μ' (u' - 1 - 1 - i) = rowK μ (u' - 1 - (i + 1)) := by
      unfold rowK; rw [mc _ (by omega) (by omega), show u' - 1 - 1 - i = u' - 1 - (i + 1) by omega]
    rw [er, show ((jn' + 8 - 1) % 8 + 7 - i) % 8 = (jn' + 7 - (i + 1)) % 8 by omega]
    obtain ⟨b1, b2⟩ := a6 (i + 1) (by omega)
    exact ⟨b1, HR_c (fun c d1 d2 => F c (by omega) (by omega)) b2⟩
  · refine FtR.m (μ := μ) ?_ (mj 15 (by omega) (by omega))
    unfold FtR; rw [F 0 (by omega) (by omega)]; exact C7
  · refine RsR.m (μ := μ) ?_ (mj 16 (by omega) (by omega)) (mj 17 (by omega) (by omega)) (mj 18 (by omega) (by omega))
    unfold RsR; rw [F 0 (by omega) (by omega)]; exact C8
theorem sav_rel (C : CRel σ μ) (h : SavQ τ σ) : (∀ c, 276 ≤ c → τ c = σ c) ∧ CRel τ (savM μ) := by
  obtain ⟨ρ, c1, c2⟩ := h
  obtain ⟨C1, C2, C3, C4, C5, C6, C7, C8⟩ := C
  have F : ∀ c, ¬ (41 ≤ c ∧ c < 61) → c ≠ 0 → τ c = σ c := fun c d1 d2 => by rw [c2, sg_n d2, c1.1 c (by omega)]
  have F0 : ∀ j, j ≠ 9 → τ 0 j = σ 0 j := fun j d => by rw [c2, sg_at, if_neg (by omega), c1.1 0 (by omega)]
  have F1 : ∀ c, c ≠ 0 → τ c = ρ c := fun c d => by rw [c2, sg_n d]
  have mc : ∀ c, c ≠ 276 → c ≠ 281 → savM μ c = μ c := fun c d1 d2 => by unfold savM thM; rw [sb_n d2, sg_n d1, sg_n d1]
  have mj : ∀ j, j ≠ 6 → j ≠ 20 → savM μ 276 j = μ 276 j := fun j d1 d2 => by unfold savM thM; rw [sb_n (by decide), sg_at, if_neg (by omega), sg_at, if_neg (by omega)]
  have m6 : savM μ 276 6 = 1 := by unfold savM; rw [sb_n (by decide), sg_ss]
  have m1 : ∀ j, j < 96 → savM μ 281 j = μ 277 j := fun j hj => by unfold savM; rw [sb_s]; exact if_pos hj
  obtain ⟨⟨n, mb, w⟩, g⟩ := C1
  refine ⟨fun c hc => F c (by omega) (by omega), NwR.m (NwR.c ⟨⟨n, mb, w⟩, g⟩ (fun c d1 d2 => F c (by omega) (by omega))) (fun j _ => by rw [mc _ (by omega) (by omega)]), ⟨ZB_e C2.1 (F _ (by omega) (by omega)), ZB_e C2.2.1 (F _ (by omega) (by omega)), ZB_e (ZB_cp c1 C2.1) (F1 _ (by omega)), fun q hq => ZB_e (C2.2.2.2 q hq) (F _ (by omega) (by omega))⟩, (C3.c ⟨by rw [F 77 (by omega) (by omega)], by rw [F 77 (by omega) (by omega)]⟩ (fun c d1 d2 => F c (by omega) (by omega))).m (mj 4 (by omega) (by omega)) (mc _ (by omega) (by omega)), ⟨?_, fun _ => ⟨⟨n, mb, WF_r m1 w⟩, HR_r w m1 (HR_c (fun c d1 d2 => F1 c (by omega)) (HR_cp w c1 g))⟩⟩, (C5.c (by rw [F 239 (by omega) (by omega)]) (F _ (by omega) (by omega))).m (mj 11 (by omega) (by omega)) (mc _ (by omega) (by omega)), (C6.c (by rw [F 274 (by omega) (by omega)]) (F _ (by omega) (by omega))).m (mj 9 (by omega) (by omega)) (mc _ (by omega) (by omega)), ?_, ?_⟩
  · rw [m6, c2, sg_ss]
  · refine FtR.m (μ := μ) ?_ (mj 15 (by omega) (by omega))
    unfold FtR; rw [F0 10 (by omega)]; exact C7
  · refine RsR.m (μ := μ) ?_ (mj 16 (by omega) (by omega)) (mj 17 (by omega) (by omega)) (mj 18 (by omega) (by omega))
    unfold RsR; rw [F0 11 (by omega), F0 12 (by omega), F0 13 (by omega)]; exact C8
theorem rst_rel (C : CRel σ μ) (h0 : ¬ σ 0 9 = 0) (h : RstQ τ σ) : (∀ c, 276 ≤ c → τ c = σ c) ∧ ¬ μ 276 6 = 0 ∧ σ (41 + 1) 7 = rstV μ ∧ CRel τ (rstM μ) := by
  obtain ⟨ρ, c1, c2⟩ := h
  obtain ⟨C1, C2, C3, C4, C5, C6, C7, C8⟩ := C
  have h1 : ¬ μ 276 6 = 0 := by rw [← C4.1]; exact h0
  have F : ∀ c, ¬ (1 ≤ c ∧ c < 21) → c ≠ 77 → τ c = σ c := fun c d1 d2 => by rw [c2, sg_n d2, c1.1 c (by omega)]
  have F1 : ∀ c, c ≠ 77 → τ c = ρ c := fun c d => by rw [c2, sg_n d]
  have m : rstM μ = sg (sb (thM μ 0) 277 (fil (μ 281) (μ 277) 96)) 276 4 0 := if_neg h1
  have mc : ∀ c, c ≠ 276 → c ≠ 277 → rstM μ c = μ c := fun c d1 d2 => by rw [m]; unfold thM; rw [sg_n d1, sb_n d2, sg_n d1]
  have mj : ∀ j, j ≠ 4 → j ≠ 20 → rstM μ 276 j = μ 276 j := fun j d1 d2 => by rw [m]; unfold thM; rw [sg_at, if_neg (by omega), sb_n (by decide), sg_at, if_neg (by omega)]
  have m4 : rstM μ 276 4 = 0 := by rw [m, sg_ss]
  have m7 : ∀ j, j < 96 → rstM μ 277 j = μ 281 j := fun j hj => by rw [m, sg_n (by decide), sb_s]; exact if_pos hj
  obtain ⟨⟨n, mb, w⟩, g⟩ := C4.2 h1
  obtain ⟨jn', u', a1, a2, a3, a4, a5, a6⟩ := C3
  refine ⟨fun c hc => F c (by omega) (by omega), h1, ?_, ⟨⟨n, mb, WF_r m7 w⟩, HR_r w m7 (HR_c (fun c d1 d2 => F1 c (by omega)) (HR_cp w c1 g))⟩, ⟨ZB_e (ZB_cp c1 C2.2.2.1) (F1 _ (by omega)), ZB_e C2.2.1 (F _ (by omega) (by omega)), ZB_e C2.2.2.1 (F _ (by omega) (by omega)), fun q hq => ZB_e (C2.2.2.2 q hq) (F _ (by omega) (by omega))⟩, ⟨jn', 0, a1, by omega, ?_, ?_, m4.trans nI_0.symm, fun i hi => absurd hi (Nat.not_lt_zero _)⟩, (C4.c (by rw [F 0 (by omega) (by omega)]) (fun c d1 d2 => F c (by omega) (by omega))).m (mj 6 (by omega) (by omega)) (mc _ (by omega) (by omega)), (C5.c (by rw [F 239 (by omega) (by omega)]) (F _ (by omega) (by omega))).m (mj 11 (by omega) (by omega)) (mc _ (by omega) (by omega)), (C6.c (by rw [F 274 (by omega) (by omega)]) (F _ (by omega) (by omega))).m (mj 9 (by omega) (by omega)) (mc _ (by omega) (by omega)), ?_, ?_⟩
  · unfold rstV; rw [if_neg h1]; exact g.1.1
  · rw [c2, sg_at, if_neg (by omega), c1.1 77 (by omega)]; exact a3
  · rw [c2, sg_ss]; exact nI_0.symm
  · refine FtR.m (μ := μ) ?_ (mj 15 (by omega) (by omega))
    unfold FtR; rw [F 0 (by omega) (by omega)]; exact C7
  · refine RsR.m (μ := μ) ?_ (mj 16 (by omega) (by omega)) (mj 17 (by omega) (by omega)) (mj 18 (by omega) (by omega))
    unfold RsR; rw [F 0 (by omega) (by omega)]; exact C8
theorem ape_rel {ch : Int32} (hc : vp_nar .char ch = ch) (C : CRel σ μ) (hL : σ 239 3 = nI L) (hL6 : L < 60) : (∀ c, 276 ≤ c → sg (sg σ 240 L ch) 239 3 (nI (L + 1)) c = σ c) ∧ CRel (sg (sg σ 240 L ch) 239 3 (nI (L + 1))) (apeM μ L ch) := by
  obtain ⟨C1, C2, C3, C4, ⟨L', q1, q2, q3, q4, q5⟩, C6, C7, C8⟩ := C
  obtain rfl : L' = L := (nI_eq (by omega) (by omega)).mp (q2.symm.trans hL)
  have F : ∀ c, c ≠ 239 → c ≠ 240 → sg (sg σ 240 L' ch) 239 3 (nI (L' + 1)) c = σ c := fun c d1 d2 => by rw [sg_n d1, sg_n d2]
  have m : apeM μ L' ch = sg (sg (thM μ 0) 276 11 (nI (L' + 1))) 284 L' ch := if_neg (by omega)
  have mc : ∀ c, c ≠ 276 → c ≠ 284 → apeM μ L' ch c = μ c := fun c d1 d2 => by rw [m]; unfold thM; rw [sg_n d2, sg_n d1, sg_n d1]
  have mj : ∀ j, j ≠ 11 → j ≠ 20 → apeM μ L' ch 276 j = μ 276 j := fun j d1 d2 => by rw [m]; unfold thM; rw [sg_n (by decide), sg_at, if_neg (by omega), sg_at, if_neg (by omega)]
  refine ⟨fun c hc => F c (by omega) (by omega), (C1.c (fun c d1 d2 => F c (by omega) (by omega))).m (fun j _ => by rw [mc _ (by omega) (by omega)]), C2.c (ZB_e C2.2.1 (F _ (by omega) (by omega))) (fun c d1 d2 => Or.inl (F c (by omega) (by omega))), (C3.c ⟨by rw [F 77 (by omega) (by omega)], by rw [F 77 (by omega) (by omega)]⟩ (fun c d1 d2 => F c (by omega) (by omega))).m (mj 4 (by omega) (by omega)) (mc _ (by omega) (by omega)), (C4.c (by rw [F 0 (by omega) (by omega)]) (fun c d1 d2 => F c (by omega) (by omega))).m (mj 6 (by omega) (by omega)) (mc _ (by omega) (by omega)), ⟨L' + 1, by omega, sg_ss, ?_, ?_, fun j hj => ?_⟩, (C6.c (by rw [F 274 (by omega) (by omega)]) (F _ (by omega) (by omega))).m (mj 9 (by omega) (by omega)) (mc _ (by omega) (by omega)), ?_, ?_⟩
  · rw [m, sg_n (by decide), sg_ss]
  · rw [m, sg_n (by decide)]
    funext j
    rw [sg_at, sg_at, q4]
    have : ∀ j, thM μ 0 284 j = μ 284 j := fun j => by unfold thM; rw [sg_n (by decide)]
    by_cases c : j = L'
    · rw [if_pos ⟨rfl, c⟩, if_pos ⟨rfl, c⟩]
    · rw [if_neg (fun z => c z.2), if_neg (fun z => c z.2), sg_n (by decide), this]
  · rw [m, sg_at]
    by_cases c : j = L'
    · rw [if_pos ⟨rfl, c⟩]; exact hc
    · rw [if_neg (fun z => c z.2), sg_n (by decide)]
      unfold thM; rw [sg_n (by decide)]; exact q5 j hj
  · refine FtR.m (μ := μ) ?_ (mj 15 (by omega) (by omega))
    unfold FtR; rw [F 0 (by omega) (by omega)]; exact C7
  · refine RsR.m (μ := μ) ?_ (mj 16 (by omega) (by omega)) (mj 17 (by omega) (by omega)) (mj 18 (by omega) (by omega))
    unfold RsR; rw [F 0 (by omega) (by omega)]; exact C8
/-- only the forecast or the camps' signs differ -/
theorem CRel.irr (C : CRel σ μ) (F : ∀ c, c < 276 → ¬ (61 ≤ c ∧ c < 77) → τ c = σ c) : CRel τ μ := by
  obtain ⟨C1, C2, C3, C4, C5, C6, C7, C8⟩ := C
  refine ⟨C1.c (fun c d1 d2 => F c (by omega) (by omega)), C2.c (ZB_e C2.2.1 (F _ (by omega) (by omega))) (fun c d1 d2 => ?_), C3.c ⟨by rw [F 77 (by omega) (by omega)], by rw [F 77 (by omega) (by omega)]⟩ (fun c d1 d2 => F c (by omega) (by omega)), C4.c (by rw [F 0 (by omega) (by omega)]) (fun c d1 d2 => F c (by omega) (by omega)), C5.c (by rw [F 239 (by omega) (by omega)]) (F _ (by omega) (by omega)), C6.c (by rw [F 274 (by omega) (by omega)]) (F _ (by omega) (by omega)), ?_, ?_⟩
  · by_cases c3 : 61 ≤ c ∧ c < 77
    · exact Or.inr (by omega)
    · exact Or.inl (F c (by omega) c3)
  · unfold FtR; rw [F 0 (by omega) (by omega)]; exact C7
  · unfold RsR; rw [F 0 (by omega) (by omega)]; exact C8
end UNS

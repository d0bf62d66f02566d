/-! the cases of the law, as steps of the memory: class call σ to τ1, reference call τ1 to τ2 -/
section CASES
variable {σ τ1 τ2 M : Mem} {n mb i jn u L : Nat} {x y z r b T : Int32}
theorem own_m (C : CRel σ σ) (h : ∀ c, 276 ≤ c → τ1 c = σ c) : CRel σ τ1 := C.m (MdE_c h)
theorem QG_E (h : QG τ2 τ1 T) : MdE τ2 τ1 ∧ (∀ c, c < 276 → τ2 c = τ1 c) ∧ τ2 276 20 = T := by
  obtain ⟨h1, h2⟩ := h
  have e : ∀ c, c ≠ 276 → c ≠ 277 → c ≠ 279 → c ≠ 282 → τ2 c = τ1 c := fun c a b d f => by rw [h1 c b d f]; unfold thM; rw [sg_n a]
  have e6 : ∀ j, j ≠ 20 → τ2 276 j = τ1 276 j := fun j hj => by rw [h1 276 (by omega) (by omega) (by omega)]; unfold thM; rw [sg_at, if_neg (by omega)]
  refine ⟨⟨h2, ⟨e6 4 (by omega), e _ (by omega) (by omega) (by omega) (by omega)⟩, ⟨e6 6 (by omega), e _ (by omega) (by omega) (by omega) (by omega)⟩, ⟨e6 11 (by omega), e _ (by omega) (by omega) (by omega) (by omega)⟩, ⟨e6 9 (by omega), e _ (by omega) (by omega) (by omega) (by omega)⟩, e6 15 (by omega), e6 16 (by omega), e6 17 (by omega), e6 18 (by omega)⟩, fun c hc => e c (by omega) (by omega) (by omega) (by omega), ?_⟩
  rw [h1 276 (by omega) (by omega) (by omega)]; unfold thM; rw [sg_ss]
theorem th_E : MdE (thM τ1 T) τ1 ∧ (∀ c, c < 276 → thM τ1 T c = τ1 c) ∧ thM τ1 T 276 20 = T := ⟨MdE_th, fun c hc => by unfold thM; rw [sg_n (by omega)], by unfold thM; rw [sg_ss]⟩
/-- a question leaves both as they were -/
theorem qc_rel (C : CRel σ σ) (h1 : ∀ c, ¬ (61 ≤ c ∧ c < 77) → τ1 c = σ c) (h2 : MdE τ2 τ1) (h3 : ∀ c, c < 276 → τ2 c = τ1 c) : CRel τ2 τ2 := by
  have a : CRel τ1 σ := C.irr (fun c _ hc => h1 c hc)
  have b : CRel τ1 τ1 := a.m (MdE_c fun c hc => h1 c (by omega))
  exact (b.m h2).c h3
theorem ch_ok (C : CRel σ σ) (w : WF (σ 277) n mb) (hi : i < 8) (hj : σ 77 1 = nI jn) (hj8 : jn < 8) (hu : σ 77 2 = nI u) (hu8 : u ≤ 8) (h : CcR τ1 (askM σ 273 i x y z) n mb i jn u r) (hM : τ1 277 = σ 277 → τ1 276 4 = σ 276 4 → b = (stp (σ 277) i x y z).1 ∧ StM M (triM τ1) (stp (σ 277) i x y z)) (h2 : τ2 = endM b M u) :
    τ2 276 20 = 0 ∧ r = endV b M ∧ CRel τ2 τ2 := by
  obtain ⟨k1, k2, k3, k4⟩ := chg_ok C w hi hj hj8 hu hu8 h
  have hM := hM (k3 277 (by omega)) (by rw [k3 276 (by omega)])
  have C1 := own_m C k3
  have w1 : WF (τ1 277) n mb := by rw [k3 277 (by omega)]; exact w
  obtain ⟨-, -, -, c4⟩ := chg_ok C1 w1 hi hj hj8 hu hu8 h
  have e : τ1 277 = σ 277 := k3 277 (by omega)
  rw [e] at c4
  have hu4 : τ1 276 4 = nI u := by
    obtain ⟨jn', u', -, a2, -, a4, a5, -⟩ := C1.2.2.1
    rw [a5, ← a4]; exact hu
  obtain ⟨m1, m2, m3, m4, m5, m6⟩ := md_ok hM k1 hu4 hu8
  rw [← h2] at m2 m3 m4 m5 m6
  exact ⟨m2, k2.trans m1.symm, (c4 τ2 m3 m4 m5).c m6⟩
theorem ch_no (C : CRel σ σ) (w : WF (σ 277) n mb) (hi : i < 8) (h : CcX τ1 (askM σ 273 i x y z) n mb i) (hM : τ1 277 = σ 277 → b = (stp (σ 277) i x y z).1 ∧ StM M (triM τ1) (stp (σ 277) i x y z)) (h2 : τ2 = endM b M u) :
    τ2 276 20 = 1 ∧ CRel τ2 τ2 := by
  obtain ⟨k1, k3, -⟩ := chg_no C w hi h
  have e : τ1 277 = σ 277 := k3 277 (by omega)
  have hM := hM e
  have C1 := own_m C k3
  have w1 : WF (τ1 277) n mb := by rw [e]; exact w
  obtain ⟨-, -, c4⟩ := chg_no C1 w1 hi h
  rw [e] at c4
  obtain ⟨m2, m3, m4, m6⟩ := md_no (u := u) hM k1
  rw [← h2] at m2 m3 m4 m6
  exact ⟨m2, (c4 τ2 m3 m4).c m6⟩
theorem cmd_c0 (C : CRel σ σ) (hu : τ1 276 4 = nI u) (hu8 : u ≤ 8) (h : CmX0 τ1 σ L) (h2 : CmdQ τ2 τ1 L u b) : τ2 276 20 = 1 ∧ CRel τ2 τ2 := by
  obtain ⟨-, k3, -⟩ := cmd_x0 C h
  obtain ⟨k1, -, k4⟩ := cmd_x0 (own_m C k3) h
  obtain ⟨f, f6, f9, f11, f84, m⟩ := cmd_md h2 hu hu8
  rcases m with ⟨m1, m2, m3, m4, m5, m6⟩ | ⟨m1, -⟩ | ⟨m1, -⟩
  · exact ⟨m2, (k4 τ2 m6 m4 ⟨f6.1.symm, f6.2.symm⟩ f9 f11 f84 m3 m5).c f⟩
  · exact absurd k1 m1
  · exact absurd k1 m1
theorem cmd_c1 (C : CRel σ σ) (hL : L ≤ 60) (hu : τ1 276 4 = nI u) (hu8 : u ≤ 8) (h : CmX1 τ1 σ L) (h2 : CmdQ τ2 τ1 L u b) : τ2 276 20 = 2 ∧ CRel τ2 τ2 := by
  obtain ⟨-, -, k3, -⟩ := cmd_x1 C hL h
  obtain ⟨k1, k2, -, k4⟩ := cmd_x1 (own_m C k3) hL h
  obtain ⟨f, f6, f9, f11, f84, m⟩ := cmd_md h2 hu hu8
  rcases m with ⟨m1, -⟩ | ⟨m1, m2, m3, m4, m5, m6, m7⟩ | ⟨-, m2, -⟩
  · exact absurd m1 k1
  · exact ⟨m3, (k4 τ2 m7 m5 ⟨f6.1.symm, f6.2.symm⟩ f9 f11 f84 m4 m6).c f⟩
  · exact absurd (k2.symm.trans m2) (by decide)
theorem cmd_c2 (C : CRel σ σ) (hL : L ≤ 60) (hj : σ 77 1 = nI jn) (hj8 : jn < 8) (hs : σ 77 2 = nI u) (hu : τ1 276 4 = nI u) (hu8 : u ≤ 8) (h : CmR τ1 σ L jn u r) (h2 : CmdQ τ2 τ1 L u b) : τ2 276 20 = 0 ∧ r = b ∧ CRel τ2 τ2 := by
  obtain ⟨-, -, -, k3, -⟩ := cmd_ok C hL hj hj8 hs hu8 h
  obtain ⟨k1, k2, k5, -, k4⟩ := cmd_ok (own_m C k3) hL hj hj8 hs hu8 h
  obtain ⟨f, f6, f9, f11, f84, m⟩ := cmd_md h2 hu hu8
  rcases m with ⟨m1, -⟩ | ⟨-, m2, -⟩ | ⟨m1, m2, m3, m4, m5, m6, m7⟩
  · exact absurd m1 k1
  · exact absurd (m2.symm.trans k2) (by decide)
  · exact ⟨m4, k5.trans m3.symm, (k4 τ2 m7 f11 f84 m5 m6).c f⟩
theorem und_c (C : CRel σ σ) (hj : σ 77 1 = nI jn) (hj8 : jn < 8) (hu : σ 77 2 = nI u) (hu8 : u ≤ 8) (h0 : ¬ u = 0) (h : UndQ τ1 σ jn u) (h2 : τ2 = undM τ1 u) : τ2 276 20 = 0 ∧ CRel τ2 τ2 := by
  have k3 := (und_rel C hj hj8 hu hu8 h0 h).1
  have k := (und_rel (own_m C k3) hj hj8 hu hu8 h0 h).2
  rw [← h2] at k
  have m : τ2 = _ := h2.trans (if_neg h0)
  refine ⟨?_, k.c (fun c hc => ?_)⟩
  · rw [m, sb_n (by decide), sg_at, if_neg (by decide)]; unfold thM; rw [sg_ss]
  · rw [m, sb_n (by omega), sg_n (by omega)]; unfold thM; rw [sg_n (by omega)]
theorem sav_c (C : CRel σ σ) (h : SavQ τ1 σ) (h2 : τ2 = savM τ1) : σ (1 + 1) 7 = τ1 277 0 ∧ CRel τ2 τ2 := by
  have k3 := (sav_rel C h).1
  have k := (sav_rel (own_m C k3) h).2
  rw [← h2] at k
  refine ⟨?_, k.c (fun c hc => ?_)⟩
  · rw [k3 277 (by omega)]; exact C.1.2.1.1
  · rw [h2]; unfold savM thM; rw [sb_n (by omega), sg_n (by omega), sg_n (by omega)]
theorem rst_c (C : CRel σ σ) (h0 : ¬ σ 0 9 = 0) (h : RstQ τ1 σ) (h2 : τ2 = rstM τ1) : τ2 276 20 = 0 ∧ σ (41 + 1) 7 = rstV τ1 ∧ CRel τ2 τ2 := by
  have k3 := (rst_rel C h0 h).1
  obtain ⟨-, k1, k2, k⟩ := rst_rel (own_m C k3) h0 h
  rw [← h2] at k
  have m : τ2 = _ := h2.trans (if_neg k1)
  refine ⟨?_, k2, k.c (fun c hc => ?_)⟩
  · rw [m, sg_at, if_neg (by decide), sb_n (by decide)]; unfold thM; rw [sg_ss]
  · rw [m, sg_n (by omega), sb_n (by omega)]; unfold thM; rw [sg_n (by omega)]
theorem ape_c {ch : Int32} (hc : vp_nar .char ch = ch) (C : CRel σ σ) (hL : σ 239 3 = nI L) (hL6 : L < 60) (h : τ1 = sg (sg σ 240 L ch) 239 3 (nI (L + 1))) (h2 : τ2 = apeM τ1 L ch) : τ2 276 20 = 0 ∧ CRel τ2 τ2 := by
  have k3 := (ape_rel hc C hL hL6).1
  rw [← h] at k3
  have k := (ape_rel hc (own_m C k3) hL hL6).2
  rw [← h, ← h2] at k
  have m : τ2 = _ := h2.trans (if_neg (by omega))
  refine ⟨?_, k.c (fun c hc => ?_)⟩
  · rw [m, sg_n (by decide), sg_at, if_neg (by decide)]; unfold thM; rw [sg_ss]
  · rw [m, sg_n (by omega), sg_n (by omega)]; unfold thM; rw [sg_n (by omega)]
end CASES

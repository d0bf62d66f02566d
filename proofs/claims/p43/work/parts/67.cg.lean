/-! changes: the class's world behind them -/
section FRC
variable {τ σ μ μ' : Mem}
theorem NwR.c (h : NwR σ μ) (e : ∀ c, 1 ≤ c → c < 21 → τ c = σ c) : NwR τ μ := ⟨h.1, HR_c (fun c h1 h2 => e c (by omega) (by omega)) h.2⟩
theorem HsR.c (h : HsR σ μ) (e7 : τ 77 1 = σ 77 1 ∧ τ 77 2 = σ 77 2) (e : ∀ c, 79 ≤ c → c < 239 → τ c = σ c) : HsR τ μ := by
  obtain ⟨jn, u, a1, a2, a3, a4, a5, a6⟩ := h
  exact ⟨jn, u, a1, a2, e7.1.trans a3, e7.2.trans a4, a5, fun i hi => ⟨(a6 i hi).1, HR_c (fun c h1 h2 => e c (by omega) (by omega)) (a6 i hi).2⟩⟩
theorem SvR.c (h : SvR σ μ) (e9 : τ 0 9 = σ 0 9) (e : ∀ c, 41 ≤ c → c < 61 → τ c = σ c) : SvR τ μ := ⟨e9.trans h.1, fun z => ⟨(h.2 z).1, HR_c (fun c h1 h2 => e c (by omega) (by omega)) (h.2 z).2⟩⟩
theorem TxR.c (h : TxR σ μ) (e3 : τ 239 3 = σ 239 3) (e : τ 240 = σ 240) : TxR τ μ := by
  obtain ⟨L, a1, a2, a3, a4, a5⟩ := h
  exact ⟨L, a1, e3.trans a2, a3, e.trans a4, a5⟩
theorem LnR.c (h : LnR σ μ) (e1 : τ 274 1 = σ 274 1) (e : τ 275 = σ 275) : LnR τ μ := by
  obtain ⟨L, a1, a2, a3, a4, a5, a6⟩ := h
  exact ⟨L, a1, e1.trans a2, a3, fun j hj => by rw [e]; exact a4 j hj, fun j hj => by rw [e]; exact a5 j hj, a6⟩
theorem ZZ.c (h : ZZ σ) (z : ZB τ (21 + 1 + 3)) (e : ∀ c, c < 239 → ¬ (21 ≤ c ∧ c < 41) → τ c = σ c ∨ ¬ (c = 1 + 1 + 3 ∨ c = 41 + 1 + 3 ∨ 79 ≤ c)) : ZZ τ := by
  obtain ⟨h1, h2, h3, h4⟩ := h
  have k : ∀ c, (c = 1 + 1 + 3 ∨ c = 41 + 1 + 3 ∨ 79 ≤ c) → c < 239 → ZB σ c → ZB τ c := fun c hc hc2 hz => by
    rcases e c hc2 (by omega) with g | g
    · exact ZB_e hz g
    · exact absurd hc g
  exact ⟨k _ (by omega) (by omega) h1, z, k _ (by omega) (by omega) h3, fun q hq => k _ (by omega) (by omega) (h4 q hq)⟩
theorem NwR.m (h : NwR τ μ) (e : ∀ j, j < 96 → μ' 277 j = μ 277 j) : NwR τ μ' := by
  obtain ⟨⟨n, mb, w⟩, g⟩ := h
  exact ⟨⟨n, mb, WF_r e w⟩, HR_r w e g⟩
theorem HsR.m (h : HsR τ μ) (e4 : μ' 276 4 = μ 276 4) (e : μ' 280 = μ 280) : HsR τ μ' := by
  obtain ⟨jn, u, a1, a2, a3, a4, a5, a6⟩ := h
  refine ⟨jn, u, a1, a2, a3, a4, e4.trans a5, fun i hi => ?_⟩
  have : rowK μ' (u - 1 - i) = rowK μ (u - 1 - i) := by unfold rowK; rw [e]
  rw [this]; exact a6 i hi
theorem SvR.m (h : SvR τ μ) (e6 : μ' 276 6 = μ 276 6) (e : μ' 281 = μ 281) : SvR τ μ' := by
  unfold SvR; rw [e6, e]; exact h
theorem TxR.m (h : TxR τ μ) (e6 : μ' 276 11 = μ 276 11) (e : μ' 284 = μ 284) : TxR τ μ' := by
  unfold TxR; rw [e6, e]; exact h
theorem LnR.m (h : LnR τ μ) (e6 : μ' 276 9 = μ 276 9) (e : μ' 283 = μ 283) : LnR τ μ' := by
  unfold LnR; rw [e6, e]; exact h
theorem FtR.m (h : FtR τ μ) (e : μ' 276 15 = μ 276 15) : FtR τ μ' := Eq.trans h e.symm
theorem RsR.m (h : RsR τ μ) (e1 : μ' 276 16 = μ 276 16) (e2 : μ' 276 17 = μ 276 17) (e3 : μ' 276 18 = μ 276 18) : RsR τ μ' := ⟨h.1.trans e1.symm, h.2.1.trans e2.symm, h.2.2.trans e3.symm⟩
/-- the same blocks of the class -/
theorem CRel.c (h : CRel σ μ) (e : ∀ c, c < 276 → τ c = σ c) : CRel τ μ := by
  obtain ⟨h1, h2, h3, h4, h5, h6, h7, h8⟩ := h
  refine ⟨h1.c (fun c _ _ => e c (by omega)), h2.c (ZB_e h2.2.1 (e _ (by omega))) (fun c _ _ => Or.inl (e c (by omega))), h3.c ⟨by rw [e 77 (by omega)], by rw [e 77 (by omega)]⟩ (fun c _ _ => e c (by omega)), h4.c (by rw [e 0 (by omega)]) (fun c _ _ => e c (by omega)), h5.c (by rw [e 239 (by omega)]) (e _ (by omega)), h6.c (by rw [e 274 (by omega)]) (e _ (by omega)), ?_, ?_⟩
  · unfold FtR; rw [e 0 (by omega)]; exact h7
  · unfold RsR; rw [e 0 (by omega)]; exact h8
/-- the same of the reference's blocks that count -/
def MdE (μ' μ : Mem) : Prop := (∀ j, j < 96 → μ' 277 j = μ 277 j) ∧ (μ' 276 4 = μ 276 4 ∧ μ' 280 = μ 280) ∧ (μ' 276 6 = μ 276 6 ∧ μ' 281 = μ 281) ∧ (μ' 276 11 = μ 276 11 ∧ μ' 284 = μ 284) ∧ (μ' 276 9 = μ 276 9 ∧ μ' 283 = μ 283) ∧ μ' 276 15 = μ 276 15 ∧ (μ' 276 16 = μ 276 16 ∧ μ' 276 17 = μ 276 17 ∧ μ' 276 18 = μ 276 18)
theorem CRel.m (h : CRel τ μ) (e : MdE μ' μ) : CRel τ μ' := by
  obtain ⟨h1, h2, h3, h4, h5, h6, h7, h8⟩ := h
  obtain ⟨e1, e3, e4, e5, e6, e7, e8⟩ := e
  exact ⟨h1.m e1, h2, h3.m e3.1 e3.2, h4.m e4.1 e4.2, h5.m e5.1 e5.2, h6.m e6.1 e6.2, h7.m e7, h8.m e8.1 e8.2.1 e8.2.2⟩
theorem MdE_c (e : ∀ c, 276 ≤ c → μ' c = μ c) : MdE μ' μ := by
  unfold MdE
  rw [e 276 (by omega), e 277 (by omega), e 280 (by omega), e 281 (by omega), e 283 (by omega), e 284 (by omega)]
  simp
/-- the rest of the reference's memory, behind a change -/
def MdT (μ' μ : Mem) : Prop := (μ' 276 11 = μ 276 11 ∧ μ' 284 = μ 284) ∧ μ' 276 15 = μ 276 15
def MdR (μ' μ : Mem) : Prop := μ' 276 16 = μ 276 16 ∧ μ' 276 17 = μ 276 17 ∧ μ' 276 18 = μ 276 18
end FRC
section CHG
variable {τ σ μ : Mem} {n mb i jn u : Nat} {x y z r : Int32}
theorem chg_st {ρ : Mem} (C : CRel σ μ) (w : WF (μ 277) n mb) (hi : i < 8) (c : CpH ρ (askM σ 273 i x y z) 21 1) : StR (carH ρ 21 n mb 273 i) 21 273 (stp (μ 277) i x y z) ∧ HOK ρ 21 n mb := by
  have g1 : HR (askM σ 273 i x y z) 1 (μ 277) := HR_c (fun c _ _ => askM_c (by omega)) C.1.2
  have g := HR_cp w c g1
  have z1 : ZB ρ (21 + 1 + 3) := ZB_cp c (ZB_e C.2.1.1 (askM_c (by decide)))
  have e : ρ 273 = askM σ 273 i x y z 273 := c.1 273 (by omega)
  refine ⟨car_st w g (by omega) ?_ (fun _ => ?_) (fun _ => ?_) (fun _ => ?_) hi, HR_hok w g z1⟩ <;> rw [e] <;> unfold askM <;> simp [sg_at]
theorem chg_fr {ρ : Mem} (ho : HOK ρ 21 n mb) (c : CpH ρ (askM σ 273 i x y z) 21 1) {q : Nat} (h1 : ¬ (21 ≤ q ∧ q < 41)) (h2 : q ≠ 273) : carH ρ 21 n mb 273 i q = σ q := by
  rw [carH_u ho h2 (Or.inl h1), c.1 q h1, askM_c h2]
theorem chg_ok (C : CRel σ μ) (w : WF (μ 277) n mb) (hi : i < 8) (hj : σ 77 1 = nI jn) (hj8 : jn < 8) (hu : σ 77 2 = nI u) (hu8 : u ≤ 8) (h : CcR τ (askM σ 273 i x y z) n mb i jn u r) :
    (stp (μ 277) i x y z).1 = 1 ∧ r = (stp (μ 277) i x y z).2.2.1 ∧ (∀ c, 276 ≤ c → τ c = σ c) ∧ ∀ μ', MdOK μ' μ (stp (μ 277) i x y z).2.1 → MdT μ' μ → MdR μ' μ → CRel τ μ' := by
  obtain ⟨ρ, c1, c2, c3, c4⟩ := h
  obtain ⟨⟨s1, ⟨n', mb', s2⟩, s3⟩, ho⟩ := chg_st C w hi c1
  have F := fun q h1 h2 => chg_fr (q := q) ho c1 h1 h2
  have zc := carH_z (mb := mb) (j := i) ho (show 21 + 20 ≤ 273 by omega)
  generalize carH ρ 21 n mb 273 i = X at *
  obtain ⟨C1, C2, C3, C4, C5, C6, C7, C8⟩ := C
  rcases s3 with ⟨-, k2, k3, -⟩ | ⟨k1, -, k3⟩
  · exact absurd (k3.symm.trans c2) k2
  have hac := c3
  obtain ⟨ρ2, d1, d2⟩ := c3
  have G : ∀ q, ¬ (1 ≤ q ∧ q < 41) → q ≠ 77 → ¬ (79 + 20 * jn ≤ q ∧ q < 79 + 20 * jn + 20) → q ≠ 273 → τ q = σ q := fun q h1 h2 h3 h4 => by
    rw [d2.1 q (by omega), sg_n h2, sg_n h2, d1.1 q h3, F q (by omega) h4]
  have zr : ZB τ (79 + 20 * jn + 1 + 3) := by
    refine ZB_e (ZB_cp d1 (ZB_e C2.1 (F _ (by omega) (by omega)))) ?_
    rw [d2.1 _ (by omega), sg_n (by omega), sg_n (by omega)]
  have z21 : ZB (sg (sg ρ2 77 1 (nI ((jn + 1) % 8))) 77 2 (nI (min (u + 1) 8))) (21 + 1 + 3) := by
    refine ZB_e zc ?_
    rw [sg_n (by omega), sg_n (by omega), d1.1 _ (by omega)]
  refine ⟨k1, c4.trans k3, fun c hc => G c (by omega) (by omega) (by omega) (by omega), fun μ' m1 m2 m3 => ⟨⟨⟨n', mb', WF_r m1.1 s2⟩, ?_⟩, ⟨ZB_cp d2 z21, ?_, ?_, fun q hq => ?_⟩, ?_, ?_, ?_, ?_, ?_, ?_⟩⟩
  · refine HR_r s2 m1.1 (HR_cp s2 d2 (HR_c (fun c h1 h2 => ?_) s1))
    rw [sg_n (by omega), sg_n (by omega), d1.1 c (by omega)]
  · exact ZB_e z21 (d2.1 _ (by omega))
  · exact ZB_e C2.2.2.1 (G _ (by omega) (by omega) (by omega) (by omega))
  · by_cases hq2 : q = jn
    · subst hq2; exact zr
    · exact ZB_e (C2.2.2.2 q hq) (G _ (by omega) (by omega) (by omega) (by omega))
  · refine hist_keep (σ := X) (HsR.c C3 ⟨by rw [F 77 (by omega) (by omega)], by rw [F 77 (by omega) (by omega)]⟩ (fun c h1 h2 => F c (by omega) (by omega))) hac (by rw [F 77 (by omega) (by omega)]; exact hj) hj8 (by rw [F 77 (by omega) (by omega)]; exact hu) hu8 (C1.c (fun c h1 h2 => F c (by omega) (by omega))) m1
  · exact (C4.c (by rw [G 0 (by omega) (by omega) (by omega) (by omega)]) (fun c h1 h2 => G c (by omega) (by omega) (by omega) (by omega))).m m1.2.2.2.1 m1.2.1
  · exact (C5.c (by rw [G 239 (by omega) (by omega) (by omega) (by omega)]) (G _ (by omega) (by omega) (by omega) (by omega))).m m2.1.1 m2.1.2
  · exact (C6.c (by rw [G 274 (by omega) (by omega) (by omega) (by omega)]) (G _ (by omega) (by omega) (by omega) (by omega))).m m1.2.2.2.2.1 m1.2.2.1
  · refine FtR.m (μ := μ) ?_ m2.2
    unfold FtR; rw [G 0 (by omega) (by omega) (by omega) (by omega)]; exact C7
  · refine RsR.m (μ := μ) ?_ m3.1 m3.2.1 m3.2.2
    unfold RsR; rw [G 0 (by omega) (by omega) (by omega) (by omega)]; exact C8
/-- all but the reasons -/
def MdN (μ' μ : Mem) : Prop := (∀ j, j < 96 → μ' 277 j = μ 277 j) ∧ (μ' 276 4 = μ 276 4 ∧ μ' 280 = μ 280) ∧ (μ' 276 6 = μ 276 6 ∧ μ' 281 = μ 281) ∧ (μ' 276 11 = μ 276 11 ∧ μ' 284 = μ 284) ∧ (μ' 276 9 = μ 276 9 ∧ μ' 283 = μ 283) ∧ μ' 276 15 = μ 276 15
theorem chg_no (C : CRel σ μ) (w : WF (μ 277) n mb) (hi : i < 8) (h : CcX τ (askM σ 273 i x y z) n mb i) :
    (stp (μ 277) i x y z).1 = 0 ∧ (∀ c, 276 ≤ c → τ c = σ c) ∧ ∀ μ', MdN μ' μ → (μ' 276 16 = (stp (μ 277) i x y z).2.2.2.1 ∧ μ' 276 17 = (stp (μ 277) i x y z).2.2.2.2 ∧ μ' 276 18 = 0) → CRel τ μ' := by
  obtain ⟨ρ, c1, c2, c3⟩ := h
  obtain ⟨⟨s1, s2, s3⟩, ho⟩ := chg_st C w hi c1
  have F := fun q h1 h2 => chg_fr (q := q) ho c1 h1 h2
  have zc := carH_z (mb := mb) (j := i) ho (show 21 + 20 ≤ 273 by omega)
  generalize carH ρ 21 n mb 273 i = X at *
  obtain ⟨C1, C2, C3, C4, C5, C6, C7, C8⟩ := C
  rcases s3 with ⟨k1, k2, k3, k4⟩ | ⟨-, k2, -⟩
  · subst c3
    have G : ∀ q, ¬ (21 ≤ q ∧ q < 41) → q ≠ 273 → q ≠ 0 → kepM X 273 0 q = σ q := fun q h1 h2 h3 => by
      unfold kepM; rw [sg_n h3, sg_n h3, sg_n h3, F q h1 h2]
    have G0 : ∀ j, j ≠ 11 → j ≠ 12 → j ≠ 13 → kepM X 273 0 0 j = σ 0 j := fun j h1 h2 h3 => by
      unfold kepM; rw [sg_at, if_neg (by omega), sg_at, if_neg (by omega), sg_at, if_neg (by omega), F 0 (by omega) (by omega)]
    refine ⟨k1, fun c hc => G c (by omega) (by omega) (by omega), fun μ' m1 m2 => ⟨(C1.c (fun c h1 h2 => G c (by omega) (by omega) (by omega))).m m1.1, C2.c ?_ (fun c h1 h2 => ?_), (HsR.c C3 ⟨by rw [G 77 (by omega) (by omega) (by omega)], by rw [G 77 (by omega) (by omega) (by omega)]⟩ (fun c h1 h2 => G c (by omega) (by omega) (by omega))).m m1.2.1.1 m1.2.1.2, (C4.c (G0 9 (by omega) (by omega) (by omega)) (fun c h1 h2 => G c (by omega) (by omega) (by omega))).m m1.2.2.1.1 m1.2.2.1.2, (C5.c (by rw [G 239 (by omega) (by omega) (by omega)]) (G _ (by omega) (by omega) (by omega))).m m1.2.2.2.1.1 m1.2.2.2.1.2, (C6.c (by rw [G 274 (by omega) (by omega) (by omega)]) (G _ (by omega) (by omega) (by omega))).m m1.2.2.2.2.1.1 m1.2.2.2.2.1.2, ?_, ?_⟩⟩
    · refine ZB_e zc ?_
      unfold kepM; rw [sg_n (by omega), sg_n (by omega), sg_n (by omega)]
    · by_cases h3 : c = 0
      · exact Or.inr (by omega)
      · exact Or.inl (G c h2 (by omega) h3)
    · refine FtR.m (μ := μ) ?_ m1.2.2.2.2.2
      unfold FtR; rw [G0 10 (by omega) (by omega) (by omega)]; exact C7
    · unfold RsR
      rw [m2.1, m2.2.1, m2.2.2, ← k3, ← k4]
      unfold kepM
      simp [sg_at]
  · exact absurd k2 c2
end CHG

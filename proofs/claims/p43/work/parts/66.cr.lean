/-! the class's world and the reference's tell the same -/
def wfr (h : Nat → Int32) : Prop := ∃ n mb, WF h n mb
theorem WF_r {h r : Nat → Int32} {n mb : Nat} (e : ∀ j, j < 96 → r j = h j) (w : WF h n mb) : WF r n mb := by
  obtain ⟨⟨r0, r1, r2, r3, r4, r5, r6⟩, w1, w2, w3, w4, w5, w6, w7, w8⟩ := w
  refine ⟨⟨by rw [e _ (by omega)]; exact r0, r1, by rw [e _ (by omega)]; exact r2, r3, fun p hp => by rw [e _ (by omega)]; exact r4 p hp, fun p q hp hq => by rw [e _ (by omega)]; exact r5 p q hp hq, fun q hq => okB_c (fun w hw => e _ (by omega)) (r6 q hq)⟩, fun p hp => by rw [e _ (by omega)]; exact w1 p hp, fun p hp => by rw [e _ (by omega)]; exact w2 p hp, fun p q hp hq => by rw [e _ (by omega), e _ (by omega)]; exact w3 p q hp hq, fun p hp => by rw [e _ (by omega)]; exact w4 p hp, fun p h1 hp w hw => by rw [e _ (by omega)]; exact w5 p h1 hp w hw, fun p q hp hq h1 => by rw [e _ (by omega)]; exact w6 p q hp hq h1, fun b hb => ?_, ?_⟩
  · obtain ⟨b1, b3, b4, b5⟩ := w7 b hb
    rw [e _ (by omega), e (72 + 4 * b + 1) (by omega), e (72 + 4 * b + 2) (by omega), e (72 + 4 * b + 3) (by omega)]
    exact ⟨b1, b3, b4, fun a ha => by rw [e _ (by omega), e (72 + 4 * a + 1) (by omega)]; exact b5 a ha⟩
  · rw [e 3 (by omega), w8]
    exact sumR_e 6 (fun q hq => (e _ (by omega)).symm)
theorem HR_r {σ : Mem} {hb n mb : Nat} {h r : Nat → Int32} (w : WF h n mb) (e : ∀ j, j < 96 → r j = h j) (g : HR σ hb h) : HR σ hb r := by
  obtain ⟨⟨g0, g1⟩, g2, ⟨g3, g4⟩, g6, g7, g8⟩ := g
  have hm := w.1.2.2.2.1
  have e1 : tN (h 1) = mb := by rw [w.1.2.2.1]; exact tN_nI (by omega)
  refine ⟨⟨by rw [e _ (by omega)]; exact g0, fun p hp => ?_⟩, fun p hp => ?_, ⟨by rw [e _ (by omega)]; exact g3, fun b hb' k hk => ?_⟩, by rw [e _ (by omega)]; exact g6, by rw [e _ (by omega)]; exact g7, by rw [e _ (by omega)]; exact g8⟩
  · rw [e _ (by omega), e (6 + 5 * p + 1) (by omega), e (6 + 5 * p + 2) (by omega)]
    obtain ⟨a1, a2, a3, a4⟩ := g1 p hp
    exact ⟨a1, a2, a3, fun q hq => by rw [e _ (by omega)]; exact a4 q hq⟩
  · rw [e _ (by omega), e (6 + 5 * p + 4) (by omega)]; exact g2 p hp
  · rw [e 1 (by omega)] at hb'
    rw [e _ (by omega)]; exact g4 b hb' k hk
theorem HR_cp {τ σ : Mem} {hb gb n mb : Nat} {h : Nat → Int32} (w : WF h n mb) (c : CpH τ σ hb gb) (g : HR σ gb h) : HR τ hb h := by
  obtain ⟨⟨g0, g1⟩, g2, ⟨g3, g4⟩, g6, g7, g8⟩ := g
  obtain ⟨-, c2, c3, c4, c5, c6, c7⟩ := c
  have hm := w.1.2.2.2.1
  have e1 : tN (h 1) = mb := by rw [w.1.2.2.1]; exact tN_nI (by omega)
  refine ⟨⟨c4.trans g0, fun p hp => ?_⟩, fun p hp => ?_, ⟨c6.trans g3, fun b hb' k hk => ?_⟩, (c7 2 (by omega) (by omega)).trans g6, (c7 3 (by omega) (by omega)).trans g7, (c7 4 (by omega) (by omega)).trans g8⟩
  · rw [c2 1 p (by omega) (by omega) hp, c2 2 p (by omega) (by omega) hp, c2 3 p (by omega) (by omega) hp]
    obtain ⟨a1, a2, a3, a4⟩ := g1 p hp
    exact ⟨a1, a2, a3, fun q hq => by rw [c3 p q hp hq]; exact a4 q hq⟩
  · rw [c2 4 p (by omega) (by omega) hp, c2 5 p (by omega) (by omega) hp]; exact g2 p hp
  · rw [show hb + 15 + 1 + k = hb + 15 + (1 + k) by omega, c5 (1 + k) b (by omega) (by omega) (by omega), show gb + 15 + (1 + k) = gb + 15 + 1 + k by omega]
    exact g4 b hb' k hk
theorem ZB_cp {τ σ : Mem} {hb gb : Nat} (c : CpH τ σ hb gb) (z : ZB σ (gb + 1 + 3)) : ZB τ (hb + 1 + 3) := fun j hj => by
  rw [c.2.1 3 j (by omega) (by omega) hj]; exact z j hj
def rowK (μ : Mem) (i : Nat) : Nat → Int32 := fun j => μ 280 (96 * i + j)
/-- what can be undone: the newest is at place (jn + 7) % 8 of the ring, and the last of the rows kept -/
def HsR (τ μ : Mem) : Prop := ∃ jn u, jn < 8 ∧ u ≤ 8 ∧ τ 77 1 = nI jn ∧ τ 77 2 = nI u ∧ μ 276 4 = nI u ∧ ∀ i, i < u → wfr (rowK μ (u - 1 - i)) ∧ HR τ (79 + 20 * ((jn + 7 - i) % 8)) (rowK μ (u - 1 - i))
def ZZ (τ : Mem) : Prop := ZB τ (1 + 1 + 3) ∧ ZB τ (21 + 1 + 3) ∧ ZB τ (41 + 1 + 3) ∧ ∀ q, q < 8 → ZB τ (79 + 20 * q + 1 + 3)
def TxR (τ μ : Mem) : Prop := ∃ L, L ≤ 60 ∧ τ 239 3 = nI L ∧ μ 276 11 = nI L ∧ τ 240 = μ 284 ∧ (∀ j, j < 60 → vp_nar .char (μ 284 j) = μ 284 j)
def LnR (τ μ : Mem) : Prop := ∃ L, L ≤ 64 ∧ τ 274 1 = nI L ∧ μ 276 9 = nI L ∧ (∀ j, j < L → τ 275 j = μ 283 j) ∧ (∀ j, j < 64 → narrow .char (.int (τ 275 j)) = .int (τ 275 j)) ∧ (∀ j, j < 120 → narrow .char (.int (μ 283 j)) = .int (μ 283 j))
def SvR (τ μ : Mem) : Prop := τ 0 9 = μ 276 6 ∧ (¬ μ 276 6 = 0 → wfr (μ 281) ∧ HR τ 41 (μ 281))
def FtR (τ μ : Mem) : Prop := τ 0 10 = μ 276 15
def RsR (τ μ : Mem) : Prop := τ 0 11 = μ 276 16 ∧ τ 0 12 = μ 276 17 ∧ τ 0 13 = μ 276 18
def NwR (τ μ : Mem) : Prop := wfr (μ 277) ∧ HR τ 1 (μ 277)
def CRel (τ μ : Mem) : Prop := NwR τ μ ∧ ZZ τ ∧ HsR τ μ ∧ SvR τ μ ∧ TxR τ μ ∧ LnR τ μ ∧ FtR τ μ ∧ RsR τ μ
/-- a change carried out, or refused, told of the reference's memory -/
def MdOK (μ' μ : Mem) (h : Nat → Int32) : Prop := (∀ j, j < 96 → μ' 277 j = h j) ∧ μ' 281 = μ 281 ∧ μ' 283 = μ 283 ∧ μ' 276 6 = μ 276 6 ∧ μ' 276 9 = μ 276 9 ∧
  ∀ u, u ≤ 8 → μ 276 4 = nI u → μ' 276 4 = nI (kpU u + 1) ∧ (∀ i, i < kpU u → ∀ j, j < 96 → rowK μ' i j = rowK μ (if u = 8 then i + 1 else i) j) ∧ ∀ j, j < 96 → rowK μ' (kpU u) j = μ 277 j
theorem hist_keep {τ σ μ μ' : Mem} {h : Nat → Int32} {jn u : Nat} (H : HsR σ μ) (ha : AccQ τ σ jn u) (hj : σ 77 1 = nI jn) (hj8 : jn < 8) (hu : σ 77 2 = nI u) (hu8 : u ≤ 8) (N : NwR σ μ) (hm : MdOK μ' μ h) : HsR τ μ' := by
  obtain ⟨jn', u', a1, a2, a3, a4, a5, a6⟩ := H
  obtain rfl : jn' = jn := (nI_eq (by omega) (by omega)).mp (a3.symm.trans hj)
  obtain rfl : u' = u := (nI_eq (by omega) (by omega)).mp (a4.symm.trans hu)
  obtain ⟨ρ, c1, c2⟩ := ha
  obtain ⟨⟨n, mb, w⟩, g⟩ := N
  obtain ⟨m1, -, -, -, -, m2⟩ := hm
  obtain ⟨m3, m4, m5⟩ := m2 u' a2 a5
  have hk := kpU_le a2
  have hk1 : kpU u' + 1 = min (u' + 1) 8 := by unfold kpU; split <;> omega
  have e77 : ∀ j, τ 77 j = sg (sg ρ 77 1 (nI ((jn' + 1) % 8))) 77 2 (nI (min (u' + 1) 8)) 77 j := fun j => congrFun (c2.1 77 (by omega)) j
  refine ⟨(jn' + 1) % 8, kpU u' + 1, by omega, by omega, ?_, ?_, m3, fun i hi => ?_⟩
  · rw [e77, sg_at, if_neg (by omega), sg_ss]
  · rw [e77, sg_ss, hk1]
  · have hpl : ∀ c, 79 ≤ c → τ c = ρ c := fun c hc => by rw [c2.1 c (by omega), sg_n (by omega), sg_n (by omega)]
    rcases Nat.eq_zero_or_pos i with z | z
    · subst z
      rw [show kpU u' + 1 - 1 - 0 = kpU u' by omega, show ((jn' + 1) % 8 + 7 - 0) % 8 = jn' by omega]
      refine ⟨⟨n, mb, WF_r (fun j hj => m5 j hj) w⟩, ?_⟩
      exact HR_r w (fun j hj => m5 j hj) (HR_c (fun c d1 d2 => hpl c (by omega)) (HR_cp w c1 g))
    · have hi2 : i - 1 < u' := by omega
      obtain ⟨⟨n2, mb2, w2⟩, g2⟩ := a6 (i - 1) hi2
      have er : ∀ j, j < 96 → rowK μ' (kpU u' + 1 - 1 - i) j = rowK μ (u' - 1 - (i - 1)) j := fun j hj => by
        rw [m4 _ (by omega) j hj]
        congr 1
        unfold kpU at hi ⊢
        split <;> rename_i q
        · rw [if_pos q] at hi; omega
        · rw [if_neg q] at hi; omega
      rw [show ((jn' + 1) % 8 + 7 - i) % 8 = (jn' + 7 - (i - 1)) % 8 by omega]
      refine ⟨⟨n2, mb2, WF_r er w2⟩, HR_r w2 er (HR_c (fun c d1 d2 => ?_) g2)⟩
      rw [hpl c (by omega)]
      exact c1.1 c (by omega)

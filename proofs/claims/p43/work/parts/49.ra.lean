/-! reading all commands: plain functions -/
def csP (T : Nat → Int32) (L : Nat) : Nat → Nat
  | 0 => 0
  | i + 1 => cmE T L (csP T L i) + 1
/-- change i holds what stands at place a -/
def TxC (τ : Mem) (T : Nat → Int32) (L i a : Nat) : Prop := τ (243 + i) 0 = nI (kf T L a) ∧ (∀ i', i' < (cmN T L a).length → τ (243 + i) (1 + i') = (cmN T L a).getD i' 0) ∧ τ (243 + i) 5 = 0
/-- command i is whole, and a ';' stands behind it -/
def goS (T : Nat → Int32) (L i : Nat) : Prop := ¬ cmV T L (csP T L i) = 0 ∧ ¬ nI L ≤ nI (cmE T L (csP T L i)) ∧ ¬ nxV T L (cmE T L (csP T L i)) 59 = 0
def RdL (τ σ : Mem) (T : Nat → Int32) (L k : Nat) : Prop :=
  (∀ c, c ≠ 239 → c ≠ 242 → c < 243 ∨ 273 ≤ c → τ c = σ c) ∧ (∀ j, j < 4 → τ 239 j = σ 239 j) ∧ τ 239 4 = nI k ∧ τ 239 6 = nI (csP T L k) ∧ (∀ i, i < k → goS T L i ∧ TxC τ T L i (csP T L i))
theorem RdL_0 {σ : Mem} {T : Nat → Int32} {L : Nat} : RdL (sg (sg σ 239 6 0) 239 4 0) σ T L 0 := by
  refine ⟨fun c h1 _ _ => by rw [sg_n h1, sg_n h1], fun j hj => by rw [sg_at, if_neg (fun z => by omega), sg_at, if_neg (fun z => by omega)], ?_, ?_, fun i hi => absurd hi (Nat.not_lt_zero _)⟩
  · rw [sg_ss]; exact nI_0.symm
  · simp only [sg_at]; simp; exact nI_0.symm
theorem cs_le {T : Nat → Int32} {L : Nat} (hL : L ≤ 60) : ∀ k, (∀ i, i < k → goS T L i) → 2 * k ≤ csP T L k ∧ csP T L k ≤ L
  | 0, _ => ⟨Nat.le_refl _, Nat.zero_le _⟩
  | k + 1, h => by
    obtain ⟨h1, h2⟩ := cs_le hL k (fun i hi => h i (by omega))
    obtain ⟨g1, g2, g3⟩ := h k (by omega)
    have hc60 := (cm_le (T := T) h2 hL).2
    have hlt : ¬ L ≤ cmE T L (csP T L k) := fun z => g2 (nI_le z (by omega))
    have hk := cmV_k g1
    have hge : csP T L k + 1 ≤ cmE T L (csP T L k) := by
      unfold cmE
      rw [if_neg (by omega)]
      have hs : ∃ r, strB.getD (kf T L (csP T L k)) [] = chB (kf T L (csP T L k)) 0 :: r := by
        obtain ⟨r, hr⟩ := str_drop (j := kf T L (csP T L k)) (k := 0) (by omega) (by rw [strL_len _ (by omega)]; exact str_pos _ (by omega))
        exact ⟨r, by rw [← hr, List.drop_zero]⟩
      obtain ⟨r, hr⟩ := hs
      rw [hr]
      have hv : ¬ psV T L (chB (kf T L (csP T L k)) 0 :: r) (csP T L k) = 0 := by
        rw [← hr]
        intro z
        apply g1
        unfold cmV
        rw [if_neg (by omega)]; exact z
      rw [psV] at hv
      by_cases w : ptV T L (csP T L k) (chB (kf T L (csP T L k)) 0) = 0
      · rw [if_pos w] at hv; exact absurd rfl hv
      · rw [psE, if_neg w]
        have hx : ∀ j, j < 8 → chB j 0 ≠ 43 ∧ chB j 0 ≠ 48 ∧ chB j 0 ≠ 57 := by decide +kernel
        have hx2 := hx _ hk
        rw [(ptx hx2).1] at w
        rw [(ptx hx2).2, nx_e1 w]
        have : ¬ nI L ≤ nI (csP T L k) := fun z => w (nx_a z)
        have : ¬ L ≤ csP T L k := fun z => this (nI_le z (by omega))
        exact (ps_le hL r (show csP T L k + 1 ≤ L by omega)).1
    show 2 * (k + 1) ≤ cmE T L (csP T L k) + 1 ∧ cmE T L (csP T L k) + 1 ≤ L
    omega
theorem RdL_le {τ σ : Mem} {T : Nat → Int32} {L k : Nat} (hL : L ≤ 60) (h : RdL τ σ T L k) : csP T L k ≤ L := (cs_le hL k (fun i hi => (h.2.2.2.2 i hi).1)).2
/-- what prs says of these places -/
theorem prs_cs {T : Nat → Int32} {L : Nat} (hL : L ≤ 60) : ∀ k, (∀ i, i < k → goS T L i) → prs T L (L + 2) (cmV T L 0) (cmE T L 0) = prs T L (L + 2 - k) (cmV T L (csP T L k)) (cmE T L (csP T L k))
  | 0, _ => rfl
  | k + 1, h => by
    rw [prs_cs hL k (fun i hi => h i (by omega))]
    obtain ⟨g1, g2, g3⟩ := h k (by omega)
    obtain ⟨h1, h2⟩ := cs_le hL k (fun i hi => h i (by omega))
    rw [show L + 2 - k = (L + 2 - (k + 1)) + 1 by omega, prs_s, if_neg g1, if_neg g2, if_neg g3]
    rfl
def txP (T : Nat → Int32) (L : Nat) : Int32 × Nat := prs T L (L + 2) (cmV T L 0) (cmE T L 0)
def RdQ (τ σ : Mem) (T : Nat → Int32) (L : Nat) (r : Int32) : Prop :=
  (∀ c, c ≠ 239 → c ≠ 242 → c < 243 ∨ 273 ≤ c → τ c = σ c) ∧ (∀ j, j < 4 → τ 239 j = σ 239 j) ∧
  (((txP T L).1 = 0 ∧ r = nI (txP T L).2 ∧ (txP T L).2 ≤ 60) ∨
   (¬ (txP T L).1 = 0 ∧ r = -1 ∧ ∃ n, n < 30 ∧ τ 239 4 = nI (n + 1) ∧ (∀ i, i < n → goS T L i) ∧ ¬ cmV T L (csP T L n) = 0 ∧ nI L ≤ nI (cmE T L (csP T L n)) ∧ ∀ i, i < n + 1 → TxC τ T L i (csP T L i)))
section RDL
variable {τ τ1 σ : Mem} {T : Nat → Int32} {L k : Nat} {r1 : Int32}
theorem RdL_w (hk : k < 30) (h : RdL τ σ T L k) (hq : TxQ τ1 τ T L (csP T L k) k r1) : τ1 239 6 = nI (cmE T L (csP T L k)) ∧ τ1 239 3 = σ 239 3 ∧ τ1 240 = σ 240 :=
  ⟨hq.2.2.2.1, (hq.2.2.1 3 (by omega)).trans (h.2.1 3 (by omega)), (hq.2.1 240 (by decide) (by decide) (by omega)).trans (h.1 240 (by decide) (by decide) (by omega))⟩
theorem RdL_fr (hk : k < 30) (h : RdL τ σ T L k) (hq : TxQ τ1 τ T L (csP T L k) k r1) : (∀ c, c ≠ 239 → c ≠ 242 → c < 243 ∨ 273 ≤ c → τ1 c = σ c) ∧ ∀ j, j < 4 → τ1 239 j = σ 239 j :=
  ⟨fun c h1 h2 h3 => (hq.2.1 c h1 h2 (by omega)).trans (h.1 c h1 h2 h3), fun j hj => (hq.2.2.1 j hj).trans (h.2.1 j hj)⟩
theorem RdL_t (hk : k < 30) (h : RdL τ σ T L k) (hq : TxQ τ1 τ T L (csP T L k) k r1) (hr : ¬ r1 = 0) : ∀ i, i < k + 1 → TxC τ1 T L i (csP T L i) := by
  intro i hi
  by_cases hik : i = k
  · subst hik
    exact (hq.2.2.2.2.2 (fun z => hr (hq.1.trans z))).2
  · have ht := (h.2.2.2.2 i (by omega)).2
    unfold TxC
    rw [hq.2.1 (243 + i) (by omega) (by omega) (by omega)]
    exact ht
theorem RdL_f (hL : L ≤ 60) (hk : k < 30) (h : RdL τ σ T L k) (hq : TxQ τ1 τ T L (csP T L k) k r1) (hr : r1 = 0) : RdQ τ1 σ T L (nI (cmE T L (csP T L k))) := by
  obtain ⟨f1, f2⟩ := RdL_fr hk h hq
  have e : txP T L = (0, cmE T L (csP T L k)) := by
    show prs _ _ _ _ _ = _
    rw [prs_cs hL k (fun i hi => (h.2.2.2.2 i hi).1), hq.1.symm.trans hr, prs_0]
  refine ⟨f1, f2, Or.inl ⟨by rw [e], by rw [e], ?_⟩⟩
  rw [e]
  have := (cm_le (T := T) (RdL_le hL h) hL).2
  show cmE T L (csP T L k) ≤ 60
  omega
theorem RdL_e (hL : L ≤ 60) (hk : k < 30) (h : RdL τ σ T L k) (hq : TxQ τ1 τ T L (csP T L k) k r1) (hr : ¬ r1 = 0) (he : ¬ nI (cmE T L (csP T L k)) < nI L) : RdQ τ1 σ T L (-1) := by
  obtain ⟨f1, f2⟩ := RdL_fr hk h hq
  have hv : ¬ cmV T L (csP T L k) = 0 := fun z => hr (hq.1.trans z)
  have he2 : nI L ≤ nI (cmE T L (csP T L k)) := Int32.not_lt.mp he
  have hb := (cs_le hL k (fun i hi => (h.2.2.2.2 i hi).1)).1
  have hb2 := RdL_le hL h
  have e : txP T L = (cmV T L (csP T L k), cmE T L (csP T L k)) := by
    show prs _ _ _ _ _ = _
    rw [prs_cs hL k (fun i hi => (h.2.2.2.2 i hi).1), show L + 2 - k = (L + 1 - k) + 1 by omega, prs_s, if_neg hv, if_pos he2]
  exact ⟨f1, f2, Or.inr ⟨by rw [e]; exact hv, rfl, k, hk, (hq.2.2.2.2.2 hv).1, fun i hi => (h.2.2.2.2 i hi).1, hv, he2, RdL_t hk h hq hr⟩⟩
theorem RdL_g (hL : L ≤ 60) (hk : k < 30) (h : RdL τ σ T L k) (hq : TxQ τ1 τ T L (csP T L k) k r1) (hr : ¬ r1 = 0) (he : nI (cmE T L (csP T L k)) < nI L) (hg : nxV T L (cmE T L (csP T L k)) 59 = 0) : RdQ (sg τ1 239 6 (nI (nxE T L (cmE T L (csP T L k)) 59))) σ T L (nI (nxE T L (cmE T L (csP T L k)) 59)) := by
  obtain ⟨f1, f2⟩ := RdL_fr hk h hq
  have hv : ¬ cmV T L (csP T L k) = 0 := fun z => hr (hq.1.trans z)
  have he2 : ¬ nI L ≤ nI (cmE T L (csP T L k)) := Int32.not_le.mpr he
  have hb := (cs_le hL k (fun i hi => (h.2.2.2.2 i hi).1)).1
  have hb2 := RdL_le hL h
  have e : txP T L = (0, cmE T L (csP T L k)) := by
    show prs _ _ _ _ _ = _
    rw [prs_cs hL k (fun i hi => (h.2.2.2.2 i hi).1), show L + 2 - k = (L + 1 - k) + 1 by omega, prs_s, if_neg hv, if_neg he2, if_pos hg]
  have h60 := (cm_le (T := T) (RdL_le hL h) hL).2
  refine ⟨fun c h1 h2 h3 => by rw [sg_n h1]; exact f1 c h1 h2 h3, fun j hj => by rw [sg_at, if_neg (fun z => by omega)]; exact f2 j hj, Or.inl ⟨by rw [e], by rw [e, nx_e0 hg], ?_⟩⟩
  rw [e]
  show cmE T L (csP T L k) ≤ 60
  omega
theorem RdL_s (hL : L ≤ 60) (hk : k < 30) (h : RdL τ σ T L k) (hq : TxQ τ1 τ T L (csP T L k) k r1) (hr : ¬ r1 = 0) (he : nI (cmE T L (csP T L k)) < nI L) (hg : ¬ nxV T L (cmE T L (csP T L k)) 59 = 0) : RdL (sg τ1 239 6 (nI (nxE T L (cmE T L (csP T L k)) 59))) σ T L (k + 1) := by
  obtain ⟨f1, f2⟩ := RdL_fr hk h hq
  have hv : ¬ cmV T L (csP T L k) = 0 := fun z => hr (hq.1.trans z)
  have he2 : ¬ nI L ≤ nI (cmE T L (csP T L k)) := Int32.not_le.mpr he
  refine ⟨fun c h1 h2 h3 => by rw [sg_n h1]; exact f1 c h1 h2 h3, fun j hj => by rw [sg_at, if_neg (fun z => by omega)]; exact f2 j hj, ?_, ?_, fun i hi => ⟨?_, ?_⟩⟩
  · simp only [sg_at]; simp; exact (hq.2.2.2.2.2 hv).1
  · rw [sg_ss, nx_e1 hg]; rfl
  · by_cases hik : i = k
    · subst hik; exact ⟨hv, he2, hg⟩
    · exact (h.2.2.2.2 i (by omega)).1
  · have ht := RdL_t hk h hq hr i hi
    unfold TxC
    rw [sg_n (by omega)]
    exact ht
theorem RdL_z (hL : L ≤ 60) (h : RdL τ σ T L 30) : RdQ τ σ T L (nI (csP T L 30)) := by
  obtain ⟨h1, h2⟩ := cs_le hL 30 (fun i hi => (h.2.2.2.2 i hi).1)
  have e60 : csP T L 30 = L := by omega
  have hk : kf T L (csP T L 30) = 8 := kf_no (Or.inl (by rw [e60]; exact Int32.le_refl _))
  have e : txP T L = (0, csP T L 30) := by
    show prs _ _ _ _ _ = _
    rw [prs_cs hL 30 (fun i hi => (h.2.2.2.2 i hi).1), show cmV T L (csP T L 30) = 0 from if_pos hk, show cmE T L (csP T L 30) = csP T L 30 from if_pos hk, prs_0]
  exact ⟨h.1, h.2.1, Or.inl ⟨by rw [e], by rw [e], by rw [e]; show csP T L 30 ≤ 60; omega⟩⟩
end RDL

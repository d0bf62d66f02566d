/-! commands of a text, in step -/
def rwK (T : Nat → Int32) (L : Nat) (h : Nat → Int32) : Nat → Nat → Int32
  | 0 => h
  | k + 1 => (stE T L (rwK T L h k) (csP T L k)).2.1
section CXS
variable {T h : Nat → Int32} {L n k : Nat} {τ1 σ σ2 μ τ : Mem}
theorem exS_k {D : Nat} : ∀ k, k ≤ D → (∀ i, i < k → ¬ (stE T L (rwK T L h i) (csP T L i)).1 = 0 ∧ ¬ nxV T L (cmE T L (csP T L i)) 59 = 0) → exS T L D 0 h 0 = exS T L (D - k) (csP T L k) (rwK T L h k) k
  | 0, _, _ => rfl
  | k + 1, hk, hs => by
    rw [exS_k k (by omega) (fun i hi => hs i (by omega))]
    obtain ⟨h1, h2⟩ := hs k (by omega)
    obtain ⟨d, hd⟩ : ∃ d, D - k = d + 1 := ⟨D - k - 1, by omega⟩
    rw [hd, show D - (k + 1) = d by omega]
    show (if (stE T L (rwK T L h k) (csP T L k)).1 = 0 then _ else if nxV T L (cmE T L (csP T L k)) 59 = 0 then _ else _) = _
    rw [if_neg h1, if_neg h2]
    rfl
/-- the draft and the row, command by command -/
theorem cmds_st (hr : Rd1 τ1 σ T L n) (hc : CpH σ2 (rdX τ1 (-1)) 21 1) (hw : wfr h) (hg : HR σ 1 h) (hz : ZB σ (1 + 1 + 3)) : ∀ k, k ≤ n + 1 → (∀ i, i < k → carK σ2 (i + 1) (243 + i) 5 = 0) →
    HR (carK σ2 k) 21 (rwK T L h k) ∧ wfr (rwK T L h k) ∧ (∀ i, i < k → (stE T L (rwK T L h i) (csP T L i)).1 = 1) ∧ (k < n + 1 → StR (carK σ2 (k + 1)) 21 (243 + k) (stE T L (rwK T L h k) (csP T L k))) := by
  have hd : ∃ n mb, HOK σ2 21 n mb := by
    obtain ⟨n1, mb1, w⟩ := hw
    exact ⟨n1, mb1, HOK_cp hc (HOK_c (fun c c1 c2 => rdX_e hr (by omega) (by omega)) (HR_hok w hg hz))⟩
  have step : ∀ k, k < n + 1 → HR (carK σ2 k) 21 (rwK T L h k) → wfr (rwK T L h k) → StR (carK σ2 (k + 1)) 21 (243 + k) (stE T L (rwK T L h k) (csP T L k)) := fun k hk g ⟨n1, mb1, w⟩ => by
    have e : carK σ2 k (243 + k) = τ1 (243 + k) := by
      rw [carK_c hd (by omega) k (fun i hi => by omega), hc.1 _ (by omega), rdX_c (by omega) (by omega)]
    have hk8 := Rd1_k hr hk
    obtain ⟨t1, t2, t3⟩ := hr.2.2.2.2.2.2.2.2 k hk
    have ho := HR_hok w g (carK_z hd k)
    have ek : tN (carK σ2 k (243 + k) 0) = kf T L (csP T L k) := by rw [e, t1]; exact tN_nI (by omega)
    have hl := cmN_len (T := T) (L := L) (a := csP T L k) hk8
    show StR (carS (carK σ2 k) k) 21 (243 + k) _
    unfold carS stE
    rw [(HOK_tn ho).1, (HOK_tn ho).2, ek]
    refine car_st w g (by omega) (by rw [e]; exact t3) (fun q => ?_) (fun q => ?_) (fun q => ?_) hk8
    · rw [e]; exact t2 0 (by omega)
    · rw [e]; exact t2 1 (by omega)
    · rw [e]; exact t2 2 (by omega)
  intro k
  induction k with
  | zero =>
    intro _ _
    have g0 : HR (carK σ2 0) 21 (rwK T L h 0) := by
      obtain ⟨n1, mb1, w⟩ := hw
      exact HR_cp w hc (HR_c (fun c c1 c2 => rdX_e hr (by omega) (by omega)) hg)
    exact ⟨g0, hw, fun i hi => absurd hi (Nat.not_lt_zero _), fun q => step 0 q g0 hw⟩
  | succ k ih =>
    intro hk hs
    obtain ⟨a1, a2, a3, a4⟩ := ih (by omega) (fun i hi => hs i (by omega))
    obtain ⟨s1, s2, s3⟩ := a4 (by omega)
    have t1 : (stE T L (rwK T L h k) (csP T L k)).1 = 1 := by
      rcases s3 with ⟨-, q2, q3, -⟩ | ⟨q1, -, -⟩
      · exact absurd (q3.symm.trans (hs k (by omega))) q2
      · exact q1
    refine ⟨s1, s2, fun i hi => ?_, fun q => step (k + 1) q s1 s2⟩
    rcases Nat.lt_succ_iff_lt_or_eq.mp hi with q | rfl
    · exact a3 i q
    · exact t1
theorem rd_lt (hL : L ≤ 60) (hr : Rd1 τ1 σ T L n) : n < L + 2 := by
  have := (cs_le hL n (fun i hi => hr.2.2.2.2.2.1 i hi)).1
  have := (cs_le hL n (fun i hi => hr.2.2.2.2.2.1 i hi)).2
  omega
/-- refused at command k -/
theorem exS_no (hL : L ≤ 60) (hr : Rd1 τ1 σ T L n) (hk : k < n + 1) (hs : ∀ i, i < k → (stE T L (rwK T L h i) (csP T L i)).1 = 1) (h0 : (stE T L (rwK T L h k) (csP T L k)).1 = 0) : exS T L (L + 2) 0 h 0 = (0, rwK T L h k, k, (stE T L (rwK T L h k) (csP T L k)).2.2.2.1, (stE T L (rwK T L h k) (csP T L k)).2.2.2.2) := by
  have hn := rd_lt hL hr
  rw [exS_k k (by omega) (fun i hi => ⟨by rw [hs i hi]; decide, (hr.2.2.2.2.2.1 i (by omega)).2.2⟩)]
  obtain ⟨d, hd⟩ : ∃ d, L + 2 - k = d + 1 := ⟨L + 2 - k - 1, by omega⟩
  rw [hd]
  exact if_pos h0
/-- all are carried out -/
theorem exS_ok (hL : L ≤ 60) (hr : Rd1 τ1 σ T L n) (hs : ∀ i, i < n + 1 → (stE T L (rwK T L h i) (csP T L i)).1 = 1) : exS T L (L + 2) 0 h 0 = (1, rwK T L h (n + 1), n + 1, 0, 0) := by
  have hn := rd_lt hL hr
  rw [exS_k n (by omega) (fun i hi => ⟨by rw [hs i (by omega)]; decide, (hr.2.2.2.2.2.1 i (by omega)).2.2⟩)]
  obtain ⟨d, hd⟩ : ∃ d, L + 2 - n = d + 1 := ⟨L + 2 - n - 1, by omega⟩
  rw [hd]
  show (if (stE T L (rwK T L h n) (csP T L n)).1 = 0 then _ else if nxV T L (cmE T L (csP T L n)) 59 = 0 then _ else _) = _
  rw [if_neg (by rw [hs n (by omega)]; decide), if_pos (nx_a hr.2.2.2.2.2.2.2.1)]
  rfl
end CXS

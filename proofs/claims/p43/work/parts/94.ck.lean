/-! what a change answers, and what it leaves alone -/
theorem rng_in {x : Int32} {k n : Nat} (e : x = nI k) (hk : k < n) (hn : n ≤ 1000) : ¬ rngB x 0 (nI n - 1) = 0 := by
  rw [show nI n - 1 = nI (n - 1) from by rw [← nI_pred (n - 1), show n - 1 + 1 = n by omega], e]
  unfold rngB
  rw [if_neg (nI_pos (by omega)), if_neg (nI_nlt (by omega) (by omega))]
  decide
theorem rng_n {n : Nat} (hn : n ≤ 1000) : rngB (nI n) 0 (nI n - 1) = 0 := by
  unfold rngB
  rw [if_neg (nI_pos (by omega))]
  cases n with
  | zero => rfl
  | succ m => rw [nI_pred, if_pos (nI_lt (by omega) (by omega))]
theorem rng_m {y : Int32} : rngB (-1) 0 y = 0 := by unfold rngB; rw [if_pos (by decide)]
theorem rng_le {x y : Int32} {k n : Nat} (e : x = nI k) (ey : y = nI n) (hk : k ≤ n) (hn : n ≤ 1000) : ¬ rngB x 0 y = 0 := by
  rw [e, ey]
  unfold rngB
  rw [if_neg (nI_pos (by omega)), if_neg (nI_nlt (by omega) (by omega))]
  decide
theorem rng_20 : ∀ j : Nat, j < 41 → ¬ rngB (nI j - 20) (-20) 20 = 0 := by decide +kernel
theorem nI_nm {k : Nat} (h : k < 1000) : ¬ nI k = -1001 := fun z => by
  have := congrArg Int32.toInt z
  rw [nI_toInt (by omega)] at this
  have e : (-1001 : Int32).toInt = -1001 := by decide
  omega
theorem okN_nm {x : Int32} (h : okN x) : ¬ x = -1001 := by
  obtain ⟨k, hk, rfl⟩ := h
  exact nI_nm (by omega)
theorem tI_nm {x : Int32} (h : tI x) : ¬ x = -1001 := fun z => by
  have h1 := h.1
  rw [z] at h1
  exact absurd h1 (by decide)
theorem gmV_n {h : Nat → Int32} {n : Nat} : ∀ k, ∃ c, c ≤ k ∧ gmV h n k = nI c
  | 0 => ⟨0, by omega, rfl⟩
  | k + 1 => by
    obtain ⟨c, hc, e⟩ := gmV_n (h := h) (n := n) k
    have e2 : gmV h n (k + 1) = if abI (mvR h n k) ≤ 0 then gmV h n k else gmV h n k + 1 := rfl
    by_cases q : abI (mvR h n k) ≤ 0
    · exact ⟨c, by omega, by rw [e2, if_pos q, e]⟩
    · exact ⟨c + 1, by omega, by rw [e2, if_neg q, e, nI_1]⟩
/-- a change's two numbers at the row's head -/
def rH (h : Nat → Int32) (n mb : Nat) : Prop := h 0 = nI n ∧ h 1 = nI mb
theorem stp_7 {h : Nat → Int32} {x y z : Int32} : ∀ j, 7 ≤ j → stp h j x y z = stAcc h x y
  | 7, _ => rfl
  | _ + 8, _ => rfl
theorem hd_com {h : Nat → Int32} {n : Nat} {x b : Int32} : upd (upd (comR h n 5) (6 + 5 * n + 0) x) (6 + 5 * n + 2) b 0 = nI (n + 1) ∧ upd (upd (comR h n 5) (6 + 5 * n + 0) x) (6 + 5 * n + 2) b 1 = h 1 := by
  refine ⟨?_, ?_⟩
  · rw [pk_un (by omega), pk_un (by omega)]
    unfold comR putR
    rw [if_neg (by omega)]; exact pk_us
  · rw [pk_un (by omega), pk_un (by omega)]
    unfold comR putR
    rw [if_neg (by omega), pk_un (by decide)]
/-- persons are never fewer -/
theorem st_n {h : Nat → Int32} {j : Nat} {x y z : Int32} (g : RW h) (h1 : ¬ (stp h j x y z).1 = 0) : tN (h 0) ≤ tN ((stp h j x y z).2.1 0) := by
  have g0 := g.1
  have g1 := g.2.1
  have c0 : ∀ b, ¬ (stCom h (tN (h 0)) x b).1 = 0 → tN (h 0) ≤ tN ((stCom h (tN (h 0)) x b).2.1 0) := fun b hb => by
    unfold stCom at hb ⊢
    by_cases k1 : rngB x (-20) 20 = 0
    · rw [if_pos k1] at hb; exact absurd rfl hb
    · rw [if_neg k1] at hb ⊢
      by_cases k2 : tN (h 0) = 6
      · rw [if_pos k2] at hb; exact absurd rfl hb
      · rw [if_neg k2]
        show tN (h 0) ≤ tN (upd (upd (comR h (tN (h 0)) 5) (6 + 5 * tN (h 0) + 0) x) (6 + 5 * tN (h 0) + 2) b 0)
        rw [hd_com.1, tN_nI (by omega)]; omega
  have e7 : ∀ r : Nat → Int32, r 0 = h 0 → tN (h 0) ≤ tN (r 0) := fun r e => by rw [e]; exact Nat.le_refl _
  have k7 : ¬ (stAcc h x y).1 = 0 → tN (h 0) ≤ tN ((stAcc h x y).2.1 0) := fun hb => by
    unfold stAcc at hb ⊢
    split at hb
    · exact absurd rfl hb
    · split at hb
      · exact absurd rfl hb
      · split at hb
        · exact absurd rfl hb
        · rename_i q1 q2 q3
          rw [if_neg q1, if_neg q2, if_neg q3]
          exact e7 _ (show upd h (6 + 5 * tN x + 1) y 0 = h 0 from pk_un (by omega))
  match j with
  | 0 => exact c0 0 h1
  | 1 => exact c0 1 h1
  | 2 =>
    change ¬ (stBef h x y z).1 = 0 at h1
    show tN (h 0) ≤ tN ((stBef h x y z).2.1 0)
    unfold stBef at h1 ⊢
    split at h1
    · exact absurd rfl h1
    · split at h1
      · exact absurd rfl h1
      · split at h1
        · exact absurd rfl h1
        · split at h1
          · exact absurd rfl h1
          · split at h1
            · exact absurd rfl h1
            · rename_i q1 q2 q3 q4 q5
              rw [if_neg q1, if_neg q2, if_neg q3, if_neg q4, if_neg q5]
              exact e7 _ ((pk_un (by omega)).trans (pk_un (by omega)))
  | 3 =>
    change ¬ (stPas h (tN (h 0)) (tN (h 1))).1 = 0 at h1
    show tN (h 0) ≤ tN ((stPas h (tN (h 0)) (tN (h 1))).2.1 0)
    unfold stPas at h1 ⊢
    split at h1
    · exact absurd rfl h1
    · rename_i q1
      rw [if_neg q1]
      exact e7 _ (goR_0 g)
  | 4 =>
    change ¬ (stTel h x y).1 = 0 at h1
    show tN (h 0) ≤ tN ((stTel h x y).2.1 0)
    unfold stTel at h1 ⊢
    split at h1
    · exact absurd rfl h1
    · split at h1
      · exact absurd rfl h1
      · split at h1
        · exact absurd rfl h1
        · split at h1
          · exact absurd rfl h1
          · rename_i q1 q2 q3 q4
            rw [if_neg q1, if_neg q2, if_neg q3, if_neg q4]
            refine e7 _ ?_
            show telR h (tN x) y 0 = h 0
            unfold telR
            rw [pk_un (by decide), pk_un (by omega), pk_un (by omega)]
  | 5 =>
    change ¬ (stPut h (tN (h 1)) x y z).1 = 0 at h1
    show tN (h 0) ≤ tN ((stPut h (tN (h 1)) x y z).2.1 0)
    unfold stPut at h1 ⊢
    split at h1
    · exact absurd rfl h1
    · split at h1
      · exact absurd rfl h1
      · split at h1
        · exact absurd rfl h1
        · split at h1
          · exact absurd rfl h1
          · split at h1
            · exact absurd rfl h1
            · split at h1
              · exact absurd rfl h1
              · rename_i q1 q2 q3 q4 q5 q6
                rw [if_neg q1, if_neg q2, if_neg q3, if_neg q4, if_neg q5, if_neg q6]
                refine e7 _ ?_
                show ptR h (tN (h 1)) x y z 0 = h 0
                unfold ptR
                rw [pk_un (by omega), pk_un (by omega), pk_un (by omega), pk_un (by omega), pk_un (by decide)]
  | 6 =>
    change ¬ (stTak h (tN (h 1)) x).1 = 0 at h1
    show tN (h 0) ≤ tN ((stTak h (tN (h 1)) x).2.1 0)
    unfold stTak at h1 ⊢
    split at h1
    · exact absurd rfl h1
    · rename_i q1
      rw [if_neg q1]
      exact e7 _ (drpR_lo (by decide) (by decide))
  | 7 => exact k7 h1
  | i + 8 => exact k7 h1
theorem rw_stp' {h : Nat → Int32} {j : Nat} {x y z : Int32} (g : RW h) (ht : ¬ (stp h j x y z).1 = 0) : RW (stp h j x y z).2.1 := by
  rcases Nat.lt_or_ge j 8 with q | q
  · exact rw_stp q g ht
  · rw [stp_7 j (by omega), ← stp_7 (z := z) 7 (by omega)] at ht ⊢
    exact rw_stp (by omega) g ht
/-- some changes one after another -/
theorem ex_n {T : Nat → Int32} {L : Nat} : ∀ (d e : Nat) (h : Nat → Int32) (c : Nat), RW h → (exS T L d e h c).2.2.1 ≤ c + d ∧ (¬ (exS T L d e h c).1 = 0 → tN (h 0) ≤ tN ((exS T L d e h c).2.1 0))
  | 0, _, h, c, _ => ⟨Nat.le_refl _, fun _ => Nat.le_refl _⟩
  | d + 1, e, h, c, g => by
    unfold exS
    by_cases q1 : (stE T L h e).1 = 0
    · rw [if_pos q1]
      exact ⟨by show c ≤ _; omega, fun z => absurd rfl z⟩
    · rw [if_neg q1]
      have n1 : tN (h 0) ≤ tN ((stE T L h e).2.1 0) := st_n g q1
      by_cases q2 : nxV T L (cmE T L e) 59 = 0
      · rw [if_pos q2]
        exact ⟨by show c + 1 ≤ _; omega, fun _ => n1⟩
      · rw [if_neg q2]
        obtain ⟨k1, k2⟩ := ex_n d (cmE T L e + 1) (stE T L h e).2.1 (c + 1) (rw_stp' g q1)
        exact ⟨by omega, fun z => Nat.le_trans n1 (k2 z)⟩
/-- a change's answer is no refusal's number -/
theorem st_a {h : Nat → Int32} {j : Nat} {x y z : Int32} (W : WF h (tN (h 0)) (tN (h 1))) (h1 : ¬ (stp h j x y z).1 = 0) : ¬ (stp h j x y z).2.2.1 = -1001 := by
  have g := W.1
  have g1 := g.2.1
  have gm := g.2.2.2.1
  have o1 : ∀ u, ¬ oneH h u = 0 → tN u < 6 := fun u hu => by
    have := (rngN (show ¬ rngB u 0 (h 0 - 1) = 0 from hu) g.1 (by omega)).2
    omega
  have c0 : ∀ b, ¬ (stCom h (tN (h 0)) x b).1 = 0 → ¬ (stCom h (tN (h 0)) x b).2.2.1 = -1001 := fun b hb => by
    unfold stCom at hb ⊢
    by_cases k1 : rngB x (-20) 20 = 0
    · rw [if_pos k1] at hb; exact absurd rfl hb
    · rw [if_neg k1] at hb ⊢
      by_cases k2 : tN (h 0) = 6
      · rw [if_pos k2] at hb; exact absurd rfl hb
      · rw [if_neg k2]
        exact nI_nm (by omega)
  have k7 : ¬ (stAcc h x y).1 = 0 → ¬ (stAcc h x y).2.2.1 = -1001 := fun hb => by
    unfold stAcc at hb ⊢
    split at hb
    · exact absurd rfl hb
    · split at hb
      · exact absurd rfl hb
      · split at hb
        · exact absurd rfl hb
        · rename_i q1 q2 q3
          rw [if_neg q1, if_neg q2, if_neg q3]
          exact okN_nm (g.2.2.2.2.1 _ (o1 _ q1))
  match j with
  | 0 => exact c0 0 h1
  | 1 => exact c0 1 h1
  | 2 =>
    change ¬ (stBef h x y z).1 = 0 at h1
    show ¬ (stBef h x y z).2.2.1 = -1001
    unfold stBef at h1 ⊢
    split at h1
    · exact absurd rfl h1
    · split at h1
      · exact absurd rfl h1
      · split at h1
        · exact absurd rfl h1
        · split at h1
          · exact absurd rfl h1
          · split at h1
            · exact absurd rfl h1
            · rename_i q1 q2 q3 q4 q5
              rw [if_neg q1, if_neg q2, if_neg q3, if_neg q4, if_neg q5]
              exact okN_nm (g.2.2.2.2.2.1 _ _ (o1 _ q1) (o1 _ q2))
  | 3 =>
    change ¬ (stPas h (tN (h 0)) (tN (h 1))).1 = 0 at h1
    show ¬ (stPas h (tN (h 0)) (tN (h 1))).2.2.1 = -1001
    unfold stPas at h1 ⊢
    split at h1
    · exact absurd rfl h1
    · rename_i q1
      rw [if_neg q1]
      obtain ⟨c, hc, e⟩ := gmV_n (h := h) (n := tN (h 0)) (tN (h 0))
      show ¬ gmV h (tN (h 0)) (tN (h 0)) = -1001
      rw [e]; exact nI_nm (by omega)
  | 4 =>
    change ¬ (stTel h x y).1 = 0 at h1
    show ¬ (stTel h x y).2.2.1 = -1001
    unfold stTel at h1 ⊢
    split at h1
    · exact absurd rfl h1
    · split at h1
      · exact absurd rfl h1
      · split at h1
        · exact absurd rfl h1
        · split at h1
          · exact absurd rfl h1
          · rename_i q1 q2 q3 q4
            rw [if_neg q1, if_neg q2, if_neg q3, if_neg q4]
            exact tI_nm (tel_tI (W.2.2.1 _ (o1 _ q1)) (g.2.2.2.2.1 _ (o1 _ q1)) q2)
  | 5 =>
    change ¬ (stPut h (tN (h 1)) x y z).1 = 0 at h1
    show ¬ (stPut h (tN (h 1)) x y z).2.2.1 = -1001
    unfold stPut at h1 ⊢
    split at h1
    · exact absurd rfl h1
    · split at h1
      · exact absurd rfl h1
      · split at h1
        · exact absurd rfl h1
        · split at h1
          · exact absurd rfl h1
          · split at h1
            · exact absurd rfl h1
            · split at h1
              · exact absurd rfl h1
              · rename_i q1 q2 q3 q4 q5 q6
                rw [if_neg q1, if_neg q2, if_neg q3, if_neg q4, if_neg q5, if_neg q6]
                exact nI_nm (by omega)
  | 6 =>
    change ¬ (stTak h (tN (h 1)) x).1 = 0 at h1
    show ¬ (stTak h (tN (h 1)) x).2.2.1 = -1001
    unfold stTak at h1 ⊢
    split at h1
    · exact absurd rfl h1
    · rename_i q1
      rw [if_neg q1]
      exact nI_nm (by omega)
  | 7 => exact k7 h1
  | i + 8 => exact k7 h1
/-- the core of the ghost is kept: the row, what can be undone, what was saved, and how long the text is -/
def CoE (ν μ : Mem) : Prop := (∀ j, j < 96 → ν 277 j = μ 277 j) ∧ ν 276 4 = μ 276 4 ∧ ν 280 = μ 280 ∧ ν 276 6 = μ 276 6 ∧ ν 281 = μ 281 ∧ ν 276 11 = μ 276 11
/-- one more row is kept -/
def ChOK (ν μ : Mem) : Prop := ν 276 6 = μ 276 6 ∧ ν 281 = μ 281 ∧ gL ν = 0 ∧ gn μ ≤ gn ν ∧ (μ 276 4 = nI (gu μ) → ν 276 4 = nI (kpU (gu μ) + 1)) ∧ (∀ i, i < kpU (gu μ) → ∀ j, j < 96 → rowK ν i j = rowK μ (if gu μ = 8 then i + 1 else i) j) ∧ ∀ j, j < 96 → rowK ν (kpU (gu μ)) j = μ 277 j
section CKK
variable {σ μ ν ρ : Mem} {h : Nat → Int32} {i : Nat} {x y z r : Int32}
theorem CoE.rf : CoE μ μ := ⟨fun _ _ => rfl, rfl, rfl, rfl, rfl, rfl⟩
theorem CoE.tr (a : CoE ν ρ) (b : CoE ρ μ) : CoE ν μ := ⟨fun j hj => (a.1 j hj).trans (b.1 j hj), a.2.1.trans b.2.1, a.2.2.1.trans b.2.2.1, a.2.2.2.1.trans b.2.2.2.1, a.2.2.2.2.1.trans b.2.2.2.2.1, a.2.2.2.2.2.trans b.2.2.2.2.2⟩
theorem CoE.gR {w d x : Int32} : CoE (gR μ w d x) μ := ⟨fun j _ => by rw [gR_c (by decide)], gR_j (by decide), gR_c (by decide), gR_j (by decide), gR_c (by decide), gR_j (by decide)⟩
theorem CoE.ln : CoE (lnS μ ρ) μ := ⟨fun j _ => by rw [lnS_c (by decide) (by decide)], lnS_j (by decide), lnS_c (by decide) (by decide), lnS_j (by decide), lnS_c (by decide) (by decide), lnS_j (by decide)⟩
theorem CoE.n (a : CoE ν μ) : gn ν = gn μ ∧ gm ν = gm μ ∧ gu ν = gu μ ∧ gL ν = gL μ := ⟨congrArg tN (a.1 0 (by omega)), congrArg tN (a.1 1 (by omega)), congrArg tN a.2.1, congrArg tN a.2.2.2.2.2⟩
theorem ch_u (W : WF (μ 277) (gn μ) (gm μ)) (q : ¬ (stp (μ 277) i x y z).1 = 0) : (chG μ i x y z).1 = (stp (μ 277) i x y z).2.2.1 ∧ (chG μ i x y z).2 = gK μ (stp (μ 277) i x y z).2.1 ∧ ¬ (chG μ i x y z).1 = -1001 := by
  unfold chG
  rw [if_neg q]
  exact ⟨rfl, rfl, st_a W q⟩
theorem ch_w (q : (stp (μ 277) i x y z).1 = 0) : (chG μ i x y z).1 = -1001 ∧ (chG μ i x y z).2 = gR μ (stp (μ 277) i x y z).2.2.2.1 (stp (μ 277) i x y z).2.2.2.2 0 := by
  unfold chG
  rw [if_pos q]
  exact ⟨rfl, rfl⟩
theorem gK_ok (hu : gu μ ≤ 8) (hL : gL μ = 0) (hn : gn μ ≤ tN (h 0)) : ChOK (gK μ h) μ := by
  obtain ⟨m1, m2, m3⟩ := gK_md (μ := μ) h
  obtain ⟨a1, a2, a3, a4, a5, a6⟩ := m1
  refine ⟨a4, a2, ?_, ?_, fun e => (a6 _ hu e).1, ?_, ?_⟩
  · show tN (gK μ h 276 11) = 0
    rw [gK_j (by decide)]; exact hL
  · show gn μ ≤ tN (gK μ h 277 0)
    rw [a1 0 (by omega)]; exact hn
  · intro i hi j hj
    unfold rowK
    rw [gK_80]
    show (if 96 * i + j < 96 * kpU (gu μ) then _ else _) = _
    rw [if_pos (by omega)]
    by_cases c : gu μ = 8
    · rw [if_pos c, if_pos c]
      show μ 280 (96 + (96 * i + j)) = μ 280 (96 * (i + 1) + j)
      exact congrArg _ (by omega)
    · rw [if_neg c, if_neg c]
  · intro j hj
    unfold rowK
    rw [gK_80]
    show (if 96 * kpU (gu μ) + j < 96 * kpU (gu μ) then _ else μ 277 (96 * kpU (gu μ) + j - 96 * kpU (gu μ))) = _
    rw [if_neg (by omega)]
    exact congrArg _ (by omega)
/-- refused: the core is kept; done: one more row is -/
theorem ch_1 (C : CRel σ μ) (hL : gL μ = 0) (c : ¬ (chG μ i x y z).1 = -1001) : ChOK (chG μ i x y z).2 μ := by
  by_cases q : (stp (μ 277) i x y z).1 = 0
  · exact absurd (ch_w q).1 c
  · rw [(ch_u C.gw q).2.1]
    exact gK_ok C.gj.2.2.2.1 hL (st_n C.gw.1 q)
theorem ch_0 (C : CRel σ μ) (c : (chG μ i x y z).1 = -1001) : CoE (chG μ i x y z).2 μ := by
  by_cases q : (stp (μ 277) i x y z).1 = 0
  · rw [(ch_w q).2]; exact CoE.gR
  · exact absurd c (ch_u C.gw q).2.2
/-- some commands -/
theorem txK_k {f : Nat → Int32} : ∀ k, (∀ c, c ≠ 276 → c ≠ 284 → txK μ f k c = μ c) ∧ ∀ j, j ≠ 11 → j ≠ 20 → txK μ f k 276 j = μ 276 j
  | 0 => ⟨fun _ _ _ => rfl, fun _ _ _ => rfl⟩
  | k + 1 => by
    obtain ⟨a, b⟩ := txK_k (f := f) k
    rw [txK_s]
    unfold apeM thM
    refine ⟨fun c h1 h2 => ?_, fun j h1 h2 => ?_⟩
    · split
      · rw [sg_n h1]; exact a c h1 h2
      · rw [sg_n h2, sg_n h1, sg_n h1]; exact a c h1 h2
    · split
      · rw [sg_at, if_neg (by omega)]; exact b j h1 h2
      · rw [sg_n (by decide), sg_at, if_neg (by omega), sg_at, if_neg (by omega)]; exact b j h1 h2
theorem cm_core {ρ : Mem} (hl : gL ρ ≤ 60) (g9 : RW (ρ 277)) (hu9 : gu ρ ≤ 8) (h7 : ρ 277 = μ 277) (h4 : ρ 276 4 = μ 276 4) (h80 : ρ 280 = μ 280) (h6 : ρ 276 6 = μ 276 6) (h81 : ρ 281 = μ 281) (hL : μ 276 11 = 0) : ((cmG ρ).1 < 0 ∧ CoE (cmG ρ).2 μ) ∨ (¬ (cmG ρ).1 < 0 ∧ ChOK (cmG ρ).2 μ) := by
  have kb : ∀ f, CoE (cmB ρ f) μ := fun f => ⟨fun j _ => by rw [cmB_c (by decide), h7], (cmB_j (by decide)).trans h4, (cmB_c (by decide)).trans h80, (cmB_j (by decide)).trans h6, (cmB_c (by decide)).trans h81, by rw [hL]; exact cmB_w.1⟩
  unfold cmG
  by_cases q1 : (cmP ρ (gL ρ)).1 = 0
  · rw [if_pos q1]
    exact Or.inl ⟨by show (-1001 : Int32) < 0; decide, kb _⟩
  · rw [if_neg q1]
    by_cases q2 : (cmX ρ (gL ρ)).1 = 0
    · rw [if_pos q2]
      exact Or.inl ⟨by show (-1002 : Int32) < 0; decide, CoE.gR.tr (kb _)⟩
    · rw [if_neg q2]
      obtain ⟨e1, e2⟩ := ex_n (T := ρ 284) (L := gL ρ) (gL ρ + 2) 0 (ρ 277) 0 g9
      refine Or.inr ⟨nI_pos (by have : (cmX ρ (gL ρ)).2.2.1 ≤ 0 + (gL ρ + 2) := e1; omega), ?_⟩
      have k := kb (-1)
      have hu : gu (cmB ρ (-1)) = gu μ := k.n.2.2.1
      have hu8 : gu μ ≤ 8 := by
        rw [← show gu ρ = gu μ from congrArg tN h4]; exact hu9
      have hl0 : gL (cmB ρ (-1)) = 0 := by rw [k.n.2.2.2]; show tN (μ 276 11) = 0; rw [hL]; decide
      have hn0 : gn (cmB ρ (-1)) ≤ tN ((cmX ρ (gL ρ)).2.1 0) := by
        have e3 : tN (ρ 277 0) ≤ tN ((cmX ρ (gL ρ)).2.1 0) := e2 q2
        rw [k.n.1]
        show tN (μ 277 0) ≤ _
        rw [← h7]; exact e3
      generalize (cmX ρ (gL ρ)).2.1 = hx at hn0 ⊢
      have o := gK_ok (μ := cmB ρ (-1)) (h := hx) (by rw [hu]; exact hu8) hl0 hn0
      obtain ⟨o1, o2, o3, o4, o5, o6, o7⟩ := o
      rw [hu] at o5 o6 o7
      refine ⟨o1.trans k.2.2.2.1, o2.trans k.2.2.2.2.1, o3, by rw [← k.n.1]; exact o4, fun e => o5 (k.2.1.trans e), fun i hi j hj => ?_, fun j hj => (o7 j hj).trans (k.1 j hj)⟩
      rw [o6 i hi j hj]
      unfold rowK
      rw [k.2.2.1]
end CKK

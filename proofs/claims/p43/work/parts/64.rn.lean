/-! a round, in step -/
theorem bmod_s {x : Int} (h : -2000 ≤ x) (h2 : x ≤ 2000) : x.bmod (2 ^ 32) = x := by
  unfold Int.bmod
  simp only [show ((2 ^ 32 : Nat) : Int) = 4294967296 from rfl]
  split <;> omega
theorem ms_b {h : Nat → Int32} {p : Nat} (w2 : ∀ q, q < 6 → tI (h (6 + 5 * q + 0))) (r4 : okN (h (6 + 5 * p + 1))) (r5 : ∀ q, q < 6 → okN (h (36 + 6 * p + q))) (hp : p < 6) : ∀ k, k ≤ 6 → ∃ W : Nat, 1 ≤ W ∧ W ≤ 10 + 9 * k ∧ sumR (fun q => h (36 + 6 * p + q)) (h (6 + 5 * p + 1) + 1) k = nI W ∧ -20 * (W : Int) ≤ (msR h p k).toInt ∧ (msR h p k).toInt ≤ 20 * W
  | 0, _ => by
    obtain ⟨a, ha, ea⟩ := r4
    obtain ⟨j, hj, ej⟩ := tI_n (w2 p hp)
    refine ⟨a + 1, by omega, by omega, ?_, ?_⟩
    · show h (6 + 5 * p + 1) + 1 = _
      rw [ea, nI_1]
    · show _ ≤ (h (6 + 5 * p + 0) * (h (6 + 5 * p + 1) + 1)).toInt ∧ (h (6 + 5 * p + 0) * (h (6 + 5 * p + 1) + 1)).toInt ≤ _
      have key : ∀ j, j ≤ 40 → ∀ a, a ≤ 9 → -20 * ((a + 1 : Nat) : Int) ≤ ((nI j - nI 20) * (nI a + 1)).toInt ∧ ((nI j - nI 20) * (nI a + 1)).toInt ≤ 20 * ((a + 1 : Nat) : Int) := by decide +kernel
      rw [ej, ea]
      exact key j hj a ha
  | k + 1, hk => by
    obtain ⟨W, h1, h2, h3, h4, h5⟩ := ms_b w2 r4 r5 hp k (by omega)
    obtain ⟨a, ha, ea⟩ := r5 k (by omega)
    obtain ⟨j, hj, ej⟩ := tI_n (w2 k (by omega))
    refine ⟨W + a, by omega, by omega, ?_, ?_⟩
    · show sumR _ _ k + h (36 + 6 * p + k) = _
      rw [h3, ea, nI_add]
    · have key : ∀ j : Nat, j ≤ 40 → ∀ a : Nat, a ≤ 9 → -20 * (a : Int) ≤ ((nI j - nI 20) * nI a).toInt ∧ ((nI j - nI 20) * nI a).toInt ≤ 20 * (a : Int) := by decide +kernel
      obtain ⟨k1, k2⟩ := key j hj a ha
      have e : (msR h p (k + 1)).toInt = (msR h p k).toInt + ((nI j - nI 20) * nI a).toInt := by
        show (msR h p k + h (6 + 5 * k + 0) * h (36 + 6 * p + k)).toInt = _
        rw [ej, ea, Int32.toInt_add]
        exact bmod_s (by omega) (by omega)
      rw [e]
      omega
theorem mn_tI {h : Nat → Int32} {n mb p : Nat} (w : WF h n mb) (hp : p < 6) : tI (mnR h n p) := by
  obtain ⟨⟨r0, r1, r2, r3, r4, r5, r6⟩, w1, w2, -⟩ := w
  obtain ⟨W, h1, h2, h3, h4, h5⟩ := ms_b (h := h) w2 (r4 p hp) (fun q hq => r5 p q hp hq) hp n r1
  unfold mnR
  have e : h (6 + 5 * p + 1) + 1 + wtR h n p = nI W := by unfold wtR; rw [← sumR_a]; exact h3
  rw [e]
  unfold tI
  generalize msR h p n = z at *
  rw [Int32.toInt_div, nI_toInt (by omega)]
  have key : -20 ≤ z.toInt.tdiv (W : Int) ∧ z.toInt.tdiv (W : Int) ≤ 20 := by
    rcases Int.le_total 0 z.toInt with c | c
    · obtain ⟨m, hm⟩ := Int.eq_ofNat_of_zero_le c
      rw [hm, ← Int.ofNat_tdiv]
      have : m / W ≤ 20 := Nat.div_le_of_le_mul (by rw [Nat.mul_comm]; omega)
      generalize m / W = q at this ⊢
      omega
    · obtain ⟨m, hm⟩ := Int.eq_ofNat_of_zero_le (a := -z.toInt) (by omega)
      have e2 : z.toInt = -(m : Int) := by omega
      rw [e2, Int.neg_tdiv, ← Int.ofNat_tdiv]
      have : m / W ≤ 20 := Nat.div_le_of_le_mul (by rw [Nat.mul_comm]; omega)
      generalize m / W = q at this ⊢
      omega
  rw [bmod_s (by omega) (by omega)]
  exact key
theorem mv_tI {h : Nat → Int32} {n mb p : Nat} (w : WF h n mb) (hp : p < 6) : tI (h (6 + 5 * p + 0) + mvR h n p) := by
  obtain ⟨j, hj, ej⟩ := tI_n (w.2.2.1 p hp)
  obtain ⟨i, hi, ei⟩ := tI_n (mn_tI w hp)
  obtain ⟨s, hs, es⟩ := st_nI w.1 hp
  unfold mvR
  rw [ej, ei, es]
  have ez : (nI i - nI 20 - (nI j - nI 20) : Int32) = nI i - nI j := by
    have key : ∀ i, i ≤ 40 → ∀ j, j ≤ 40 → (nI i - nI 20 - (nI j - nI 20) : Int32) = nI i - nI j := by decide +kernel
    exact key i hi j hj
  rw [ez]
  have z1 : (nI i - nI j : Int32).toInt = (i : Int) - j := pk_sub_toInt (by omega) (by omega)
  have z2 : ∀ s, s ≤ 10 → (nI s : Int32).toInt = (s : Int) ∧ (-nI s : Int32).toInt = -(s : Int) := by decide +kernel
  obtain ⟨s1, s2⟩ := z2 s hs
  have hA : ∀ s, s ≤ 10 → ∀ j, j ≤ 40 → (nI j - nI 20 + nI s : Int32).toInt = (j : Int) + s - 20 ∧ (nI j - nI 20 + -nI s : Int32).toInt = (j : Int) - s - 20 := by decide +kernel
  obtain ⟨a1, a2⟩ := hA s hs j hj
  have hB : (nI j - nI 20 + (nI i - nI j) : Int32).toInt = (i : Int) - 20 := by
    have key : ∀ i, i ≤ 40 → ∀ j, j ≤ 40 → (nI j - nI 20 + (nI i - nI j) : Int32).toInt = (i : Int) - 20 := by decide +kernel
    exact key i hi j hj
  unfold tI mxI mnI
  by_cases c : (nI i - nI j : Int32) < nI s
  · rw [if_pos c]
    have c2 := Int32.lt_iff_toInt_lt.mp c
    by_cases d : -nI s < (nI i - nI j : Int32)
    · rw [if_pos d, hB]; omega
    · rw [if_neg d, a2]
      have d2 := Int32.le_iff_toInt_le.mp (Int32.not_lt.mp d)
      omega
  · rw [if_neg c]
    have c2 := Int32.le_iff_toInt_le.mp (Int32.not_lt.mp c)
    by_cases d : (-nI s : Int32) < nI s
    · rw [if_pos d, a1]; omega
    · rw [if_neg d, a2]
      have d2 := Int32.le_iff_toInt_le.mp (Int32.not_lt.mp d)
      omega
theorem crQ_e {T U : Nat → Int32} {t : Q4} {n : Nat} (hn : n ≤ 6) (g : gdQ n t) (h : ∀ p, p < 6 → T p = U p) : crQ T t = crQ U t ∧ ovQ T t = ovQ U t := by
  obtain ⟨⟨a, c, a1, a2, a3, a4⟩, -, -⟩ := g
  have e : ovQ T t = ovQ U t := by
    unfold ovQ
    rw [a3, a4, tN_nI (by omega), tN_nI (by omega), h a (by omega), h c (by omega)]
  exact ⟨by unfold crQ; rw [e], e⟩
theorem nOv_e {T U : Nat → Int32} : ∀ L : List Q4, (∀ t, t ∈ L → ovQ T t = ovQ U t) → nOv T L = nOv U L
  | [], _ => rfl
  | t :: L, h => by
    unfold nOv
    rw [h t List.mem_cons_self, nOv_e L (fun s hs => h s (List.mem_cons_of_mem _ hs))]
/-- after the creaks and the breaks a row's beams are well made again -/
theorem BmL_cr {T : Nat → Int32} {L : List Q4} {n : Nat} (g : BmL L n) : BmL ((L.map (crQ T)).filter kpQ) n := by
  refine ⟨fun t ht => ?_, ?_⟩
  · obtain ⟨h1, h2⟩ := List.mem_filter.mp ht
    obtain ⟨s, hs, rfl⟩ := List.mem_map.mp h1
    obtain ⟨g1, g2, k, hk, ek⟩ := g.1 s hs
    have hlt : (crQ T s).2.2.2 < 3 := of_decide_eq_true h2
    unfold crQ at hlt ⊢
    split at hlt
    · rename_i c
      rw [if_pos c]
      exact ⟨g1, g2, k, hk, ek⟩
    · rename_i c
      rw [if_neg c]
      refine ⟨g1, g2, k + 1, ?_, by show s.2.2.2 + 1 = _; rw [ek, nI_1]⟩
      have hlt : s.2.2.2 + 1 < 3 := hlt
      rw [ek, nI_1] at hlt
      have := (nI_ltI (b := 3) (by omega) (by omega)).mp hlt
      omega
  · refine List.Pairwise.filter _ ?_
    rw [List.pairwise_map]
    refine g.2.imp fun {s t} hst => ?_
    have e : ∀ s : Q4, (crQ T s).1 = s.1 ∧ (crQ T s).2.1 = s.2.1 := fun s => by unfold crQ; split <;> exact ⟨rfl, rfl⟩
    unfold apQ
    rw [(e s).1, (e s).2, (e t).1, (e t).2]
    exact hst

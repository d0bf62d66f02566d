/-! questions of who is foremost -/
section QBS
variable {σ μ : Mem} {n mb : Nat} {x y z w : Int32}
theorem best_bs {h : Nat → Int32} {p : Nat} {f : Nat → Int32} (hp0 : plR h p p = 0) (hp : p < 1000) : ∀ k, k ≤ 1000 → (∀ q, q < k → f q = plR h p q) → 0 ≤ (best f k).1 ∧ (best f k).1 = plR h p (bsR h p k) ∧ (best f k).2 = (if bsR h p k = p then -1 else nI (bsR h p k)) ∧ bsR h p k < 1000
  | 0, _, _ => ⟨by show (0 : Int32) ≤ 0; decide, hp0.symm, (if_pos rfl).symm, hp⟩
  | k + 1, hk, he => by
    obtain ⟨a0, a1, a2, a3⟩ := best_bs hp0 hp k (by omega) (fun q hq => he q (by omega))
    have eb : best f (k + 1) = if f k ≤ (best f k).1 then best f k else (f k, nI k) := rfl
    rw [eb, bsR_s, he k (by omega), a1]
    by_cases c : plR h p k ≤ plR h p (bsR h p k)
    · rw [if_pos c, if_pos c]; exact ⟨a0, a1, a2, a3⟩
    · rw [if_neg c, if_neg c]
      refine ⟨?_, rfl, ?_, by omega⟩
      · show 0 ≤ plR h p k
        rw [← a1] at c
        exact Int32.le_of_lt (Int32.lt_of_le_of_lt a0 (Int32.not_le.mp c))
      · show nI k = _
        rw [if_neg]
        intro e
        subst e
        rw [hp0, ← a1] at c
        exact c a0
theorem q_pul (hw : WF (μ 277) n mb) (hg : HR σ 1 (μ 277)) : pulXT σ n x = pulT μ n x ∧ (pulXT σ n x = 0 → pulXS σ n x = pulV μ n x) := by
  unfold pulXT pulT pulV
  rw [q_hold hw hg]
  by_cases c : one1 μ x = 0
  · rw [if_pos c, if_pos c]; exact ⟨rfl, fun h0 => absurd h0 (by decide)⟩
  · rw [if_neg c, if_neg c, if_neg c]
    obtain ⟨p1, p2⟩ := q_p hw c
    have hn := hw.1.2.1
    have hp0 : plR (μ 277) (tN x) (tN x) = 0 := by unfold plR; rw [hw.2.2.2.2.1 _ p2, Int32.zero_mul]
    obtain ⟨b0, b1, b2, b3⟩ := best_bs (f := fun q => σ (1 + 1 + 7 + tN x) q * abI (σ (1 + 1 + 1) (tN x) - σ (1 + 1 + 1) q)) hp0 (by omega) n (by omega) (fun q hq => by
      unfold plR
      show σ (1 + 1 + 7 + tN x) q * abI (σ (1 + 1 + 1) (tN x) - σ (1 + 1 + 1) q) = _
      rw [show σ (1 + 1 + 7 + tN x) q = _ from (hg.1.2 _ p2).2.2.2 q (by omega), show σ (1 + 1 + 1) (tN x) = _ from (hg.1.2 _ p2).1, show σ (1 + 1 + 1) q = _ from (hg.1.2 q (by omega)).1])
    have e : pulXS σ n x = if bsR (μ 277) (tN x) n = tN x then -1 else nI (bsR (μ 277) (tN x) n) := b2
    rw [e]
    by_cases d : bsR (μ 277) (tN x) n = tN x
    · rw [if_pos d, if_neg (by decide), if_pos (by rw [d])]; exact ⟨rfl, fun h0 => absurd h0 (by decide)⟩
    · rw [if_neg d, if_pos (nI_pos' (by omega)), if_neg (fun q => d ((nI_eq (by omega) (by omega)).mp q))]
      exact ⟨rfl, fun _ => by rw [if_neg (fun q => d ((nI_eq (by omega) (by omega)).mp q))]⟩
theorem q_gre (hw : WF (μ 277) n mb) (hg : HR σ 1 (μ 277)) : greXT σ n z = greT (μ 277) n z ∧ (greXT σ n z = 0 → greXS σ n z = greV (μ 277) n z) := by
  have hn := hw.1.2.1
  have e : ∀ k, k ≤ n → best (fun q => σ (1 + 1 + 1) q * (if z = 0 then 1 else -1)) k = gbs (μ 277) z k := fun k hk => by
    unfold best gbs
    refine fo_e k (fun q hq => ?_)
    funext a
    have e1 : σ (1 + 1 + 1) q * (if z = 0 then 1 else -1) = greF (μ 277) z q := by
      rw [show σ (1 + 1 + 1) q = _ from (hg.1.2 q (by omega)).1]
      unfold greF
      by_cases c : z = 0
      · rw [if_pos c, if_pos c, Int32.mul_one]
      · rw [if_neg c, if_neg c, Int32.mul_neg, Int32.mul_one]
    show (if σ (1 + 1 + 1) q * (if z = 0 then 1 else -1) ≤ a.1 then a else (σ (1 + 1 + 1) q * (if z = 0 then 1 else -1), nI q)) = _
    rw [e1]
    by_cases c : greF (μ 277) z q ≤ a.1
    · rw [if_pos c, if_neg (Int32.not_lt.mpr c)]
    · rw [if_neg c, if_pos (Int32.not_le.mp c)]
  have e2 : greXS σ n z = (gbs (μ 277) z n).2 := congrArg Prod.snd (e n (Nat.le_refl _))
  unfold greXT greT greV
  rw [e2]
  refine ⟨rfl, fun h0 => ?_⟩
  by_cases c : 0 ≤ (gbs (μ 277) z n).2
  · rw [if_pos c]
  · rw [if_neg c] at h0; exact absurd h0 (by decide)
theorem me_e (hw : WF (μ 277) n mb) (hg : HR σ 1 (μ 277)) {p : Nat} (hp : p < 6) : measV σ (1 + 1) n w p = meR (μ 277) n p w := by
  unfold measV meR
  rw [show σ (1 + 1 + 1) p = _ from (hg.1.2 p hp).1, show σ (1 + 1 + 2) p = _ from (hg.1.2 p hp).2.1, pr_wt hg.1 hw.1.2.1 hp]
theorem me_sm (hw : WF (μ 277) n mb) {p : Nat} (hp : p < 6) : -1000 ≤ (meR (μ 277) n p w).toInt ∧ (meR (μ 277) n p w).toInt ≤ 1000 := by
  have hn := hw.1.2.1
  unfold meR
  split
  · have := hw.2.2.1 p hp; unfold tI at this; omega
  · split
    · obtain ⟨a, ha, ea⟩ := ab_tI (hw.2.2.1 p hp)
      rw [ea, nI_toInt (by omega)]; omega
    · split
      · have := okN_i (hw.1.2.2.2.2.1 p hp); omega
      · obtain ⟨k, hk, e⟩ := okN_sum (f := fun q => μ 277 (36 + 6 * p + q)) n (fun q hq => hw.1.2.2.2.2.2.1 p q hp (by omega))
        have e2 : wtR (μ 277) n p = nI k := e
        rw [e2, nI_toInt (by omega)]; omega
theorem ahead_e {a b : Int32} {q p : Nat} (ha : -1000 ≤ a.toInt ∧ a.toInt ≤ 1000) (hb : -1000 ≤ b.toInt ∧ b.toInt ≤ 1000) : aheadB a b (nI q) (nI p) = rkI (a - b) q p := by
  obtain ⟨e1, e2⟩ := sm_0 ha hb
  unfold aheadB rkI
  by_cases c : b < a
  · rw [if_pos c, if_pos (e1.mpr c)]
  · rw [if_neg c, if_neg (fun z => c (e1.mp z))]
    by_cases d : a = b
    · rw [if_pos d, if_pos (e2.mpr d)]
    · rw [if_neg d, if_neg (fun z => d (e2.mp z))]
theorem cntB_e {f g : Nat → Int32} {n : Nat} (h : ∀ q, q < n → f q = g q) : cntB f n = cntB g n := by
  unfold cntB
  exact fo_e n (fun q hq => by funext a; rw [h q hq])
theorem q_ran (hw : WF (μ 277) n mb) (hg : HR σ 1 (μ 277)) : ranXT σ n w x = ranT (μ 277) n w x ∧ (ranXT σ n w x = 0 → ranXS σ n w x = ranV (μ 277) n w x) := by
  have hn := hw.1.2.1
  have e : ranXS σ n w x = rkS (μ 277) n w x := by
    unfold ranXS rkS
    refine srch_e n 0 (fun k _ hk => ?_)
    unfold rkC
    refine cntB_e (fun q hq => ?_)
    rw [me_e hw hg (show q < 6 by omega), me_e hw hg (show k < 6 by omega)]
    exact ahead_e (me_sm hw (by omega)) (me_sm hw (by omega))
  unfold ranXT ranT ranV
  rw [e]
  unfold rngB
  by_cases a : w < 0
  · rw [if_pos a, if_pos a, if_pos rfl]; exact ⟨rfl, fun h0 => absurd h0 (by decide)⟩
  · rw [if_neg a, if_neg a]
    by_cases b : 3 < w
    · rw [if_neg (Int32.not_le.mpr b), if_pos b, if_pos rfl]; exact ⟨rfl, fun h0 => absurd h0 (by decide)⟩
    · have h10 : ¬ (1 : Int32) = 0 := by decide
      rw [if_pos (Int32.not_lt.mp b), if_neg b]
      simp only [h10, ↓reduceIte]
      by_cases c : rkS (μ 277) n w x < 0
      · have c2 : ¬ 0 ≤ rkS (μ 277) n w x := Int32.not_le.mpr c
        simp only [c, c2, ↓reduceIte]
        exact ⟨trivial, fun h0 => absurd h0 (by decide)⟩
      · have c2 : 0 ≤ rkS (μ 277) n w x := Int32.not_lt.mp c
        simp only [c, c2, ↓reduceIte]
        exact ⟨trivial, fun _ => trivial⟩
theorem bm_sm (hw : WF (μ 277) n mb) {b : Nat} (hb : b < mb) : (0 ≤ (μ 277 (72 + 4 * b + 2)).toInt ∧ (μ 277 (72 + 4 * b + 2)).toInt ≤ 40) ∧ (0 ≤ (μ 277 (72 + 4 * b + 3)).toInt ∧ (μ 277 (72 + 4 * b + 3)).toInt ≤ 2) ∧ 0 ≤ (apR (μ 277) b).toInt ∧ (apR (μ 277) b).toInt ≤ 40 := by
  obtain ⟨-, ⟨k, hk, ek⟩, ⟨j, hj, ej⟩, -⟩ := hw.2.2.2.2.2.2.2.1 b hb
  rw [ek, ej, nI_toInt (by omega), nI_toInt (by omega)]
  obtain ⟨⟨o1, o2⟩, o3, o4⟩ := hw.1.2.2.2.2.2.2 b hb
  obtain ⟨i1, hi1, e1⟩ := tI_n (hw.2.2.1 _ o2)
  obtain ⟨i2, hi2, e2⟩ := tI_n (hw.2.2.1 _ o4)
  refine ⟨by omega, by omega, ?_⟩
  unfold apR
  rw [e1, e2]
  have key : ∀ i, i ≤ 40 → ∀ j, j ≤ 40 → 0 ≤ (abI (nI i - nI 20 - (nI j - nI 20))).toInt ∧ (abI (nI i - nI 20 - (nI j - nI 20))).toInt ≤ 40 := by decide +kernel
  exact key i1 hi1 i2 hi2
theorem weak_e (hw : WF (μ 277) n mb) (hg : HR σ 1 (μ 277)) {q b : Nat} (hq : q < mb) (hb : b < mb) : weakB σ (1 + 15) (1 + 1) q b = wkT (μ 277) b q := by
  have hm := hw.1.2.2.2.1
  by_cases hqb : q = b
  · subst hqb
    unfold weakB wkT
    rw [if_pos rfl, if_pos rfl, if_pos (Int32.le_refl _), if_pos rfl]
  obtain ⟨q1, q2, q3, q4⟩ := bm_e hw hg hq
  obtain ⟨b1, b2, b3, b4⟩ := bm_e hw hg hb
  obtain ⟨l1, c1, a1, a2⟩ := bm_sm hw hq
  obtain ⟨l2, c2, a3, a4⟩ := bm_sm hw hb
  unfold weakB
  rw [q3, q4, b3, b4, df_e hw hg hq, df_e hw hg hb]
  unfold wkT wkR wkE wkD rkI
  generalize apR (μ 277) q = Aq at *
  generalize apR (μ 277) b = Ab at *
  generalize μ 277 (72 + 4 * q + 2) = Lq at *
  generalize μ 277 (72 + 4 * b + 2) = Lb at *
  generalize μ 277 (72 + 4 * q + 3) = Cq at *
  generalize μ 277 (72 + 4 * b + 3) = Cb at *
  have s1 : (Lq - Aq).toInt = Lq.toInt - Aq.toInt := sm_lt (by omega) (by omega)
  have s2 : (Lb - Ab).toInt = Lb.toInt - Ab.toInt := sm_lt (by omega) (by omega)
  have s3 : (Lb - Ab - Lq).toInt = Lb.toInt - Ab.toInt - Lq.toInt := by rw [sm_lt (by omega) (by omega), s2]
  have s4 : (Lb - Ab - Lq + Aq).toInt = Lb.toInt - Ab.toInt - Lq.toInt + Aq.toInt := by rw [Int32.toInt_add, s3]; exact bmod_s (by omega) (by omega)
  have s5 : (Cq - Cb).toInt = Cq.toInt - Cb.toInt := sm_lt (by omega) (by omega)
  have z0 : (0 : Int32).toInt = 0 := rfl
  have i1 : (Lq - Aq = Lb - Ab) ↔ Lb - Ab - Lq + Aq = 0 := by
    rw [← Int32.toInt_inj, ← Int32.toInt_inj, s1, s2, s4, z0]; omega
  have i2 : (Lb - Ab ≤ Lq - Aq) ↔ ¬ 0 < Lb - Ab - Lq + Aq := by
    rw [Int32.le_iff_toInt_le, Int32.lt_iff_toInt_lt, s1, s2, s4, z0]; omega
  have i3 : (Cq = Cb) ↔ Cq - Cb = 0 := by rw [← Int32.toInt_inj, ← Int32.toInt_inj, s5, z0]; omega
  have i4 : (Cq ≤ Cb) ↔ ¬ 0 < Cq - Cb := by rw [Int32.le_iff_toInt_le, Int32.lt_iff_toInt_lt, s5, z0]; omega
  have z1 : ¬ (0 : Int32) < 0 := by decide
  rw [if_neg (fun z => hqb ((nI_eq (by omega) (by omega)).mp z))]
  by_cases d : Lq - Aq = Lb - Ab
  · have d2 := i1.mp d
    rw [if_pos d, d2, if_pos rfl]
    by_cases e : Cq = Cb
    · rw [if_pos e, i3.mp e, if_neg z1, if_pos rfl]
    · rw [if_neg e]
      by_cases f : Cq ≤ Cb
      · rw [if_pos f, if_neg (i4.mp f), if_neg (fun z => e (i3.mpr z))]
      · rw [if_neg f, if_pos (Classical.byContradiction fun z => f (i4.mpr z))]
  · rw [if_neg d, if_neg (fun z => d (i1.mpr z))]
    by_cases f : Lb - Ab ≤ Lq - Aq
    · rw [if_pos f, if_neg (i2.mp f), if_neg (fun z => d (i1.mpr z))]
    · rw [if_neg f, if_pos (Classical.byContradiction fun z => f (i2.mpr z))]
end QBS

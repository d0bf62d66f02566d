/-! lines: the worlds behind them; characters; the sums that means are made of -/
section QFS
variable {σ μ τ ν : Mem} {n mb p : Nat} {x : Int32}
theorem hold_1k {v : Int32} {n : Nat} (hn : v = nI n) (hn6 : n ≤ 1000) (x : Int32) : holdB x v = rngB x 0 (v - 1) := by
  unfold holdB rngB
  by_cases c : x < 0
  · rw [if_pos c, if_pos c]
  · rw [if_neg c, if_neg c, hn]
    obtain ⟨j, hj, rfl⟩ := nI_of c
    by_cases d : n ≤ j
    · rw [if_pos ((nI_leI (by omega) hj).mpr d), if_pos]
      rcases Nat.eq_zero_or_pos n with z | z
      · subst z
        exact Int32.lt_of_lt_of_le (show (nI 0 - 1 : Int32) < 0 by decide) (nI_pos' hj)
      · rw [show (1 : Int32) = nI 1 from rfl, pk_sub (by omega)]
        exact (nI_ltI (by omega) hj).mpr (by omega)
    · rw [if_neg (fun q => d ((nI_leI (by omega) hj).mp q)), if_neg]
      rw [show (1 : Int32) = nI 1 from rfl, pk_sub (by omega)]
      exact fun q => by have := (nI_ltI (by omega) hj).mp q; omega
theorem q_chr (h : LnR σ μ) : chrXT σ x = chrT μ x ∧ (chrXT σ x = 0 → σ 275 (tN x) = chrV μ x) := by
  obtain ⟨L, h1, h2, h3, h4, -⟩ := h
  have e : holdB x (σ 274 1) = rngB x 0 (μ 276 9 - 1) := by rw [h3, ← h2]; exact hold_1k h2 (by omega) x
  have e2 : chrXT σ x = if holdB x (σ 274 1) = 0 then 1 else 0 := by
    unfold chrXT holdB
    by_cases a : x < 0
    · rw [if_pos a, if_pos a, if_pos rfl]
    · rw [if_neg a, if_neg a]
      by_cases b : x < σ 274 1
      · rw [if_pos b, if_neg (Int32.not_le.mpr b), if_neg (by decide)]
      · rw [if_neg b, if_pos (Int32.not_lt.mp b), if_pos rfl]
  have e3 : chrXT σ x = chrT μ x := by rw [e2, e]; rfl
  refine ⟨e3, fun h0 => ?_⟩
  rw [e3] at h0
  unfold chrT at h0
  unfold chrV
  by_cases c : rngB x 0 (μ 276 9 - 1) = 0
  · rw [if_pos c] at h0; exact absurd h0 (by decide)
  · rw [if_neg c]
    exact h4 _ (rngN c h3 (by omega)).2
theorem LL.ln {B : Nat} (h : LL τ ν B) (hB : B ≤ 64) : LnR τ ν := by
  obtain ⟨L, h1, h2, h3, h4, h5, h6⟩ := h
  exact ⟨L, by omega, h2, h3, h4, h5, h6⟩
theorem LL.eq {B : Nat} (h : LL τ ν B) : τ 274 1 = ν 276 9 := by
  obtain ⟨L, -, h2, h3, -⟩ := h
  exact h2.trans h3.symm
theorem ln_rel (C : CRel σ μ) (F : ∀ c, c ≠ 274 → c ≠ 275 → τ c = σ c) (G : ∀ c, c ≠ 276 → c ≠ 283 → ν c = μ c) (G2 : ∀ j, j ≠ 9 → j ≠ 20 → ν 276 j = μ 276 j) (hl : LnR τ ν) : CRel τ ν := by
  obtain ⟨C1, C2, C3, C4, C5, C6, C7, C8⟩ := C
  refine ⟨(C1.c (fun c d1 d2 => F c (by omega) (by omega))).m (fun j _ => by rw [G _ (by omega) (by omega)]), C2.c (ZB_e C2.2.1 (F _ (by omega) (by omega))) (fun c d1 d2 => Or.inl (F c (by omega) (by omega))), (C3.c ⟨by rw [F 77 (by omega) (by omega)], by rw [F 77 (by omega) (by omega)]⟩ (fun c d1 d2 => F c (by omega) (by omega))).m (G2 4 (by omega) (by omega)) (G _ (by omega) (by omega)), (C4.c (by rw [F 0 (by omega) (by omega)]) (fun c d1 d2 => F c (by omega) (by omega))).m (G2 6 (by omega) (by omega)) (G _ (by omega) (by omega)), (C5.c (by rw [F 239 (by omega) (by omega)]) (F _ (by omega) (by omega))).m (G2 11 (by omega) (by omega)) (G _ (by omega) (by omega)), hl, ?_, ?_⟩
  · refine FtR.m (μ := μ) ?_ (G2 15 (by omega) (by omega))
    unfold FtR; rw [F 0 (by omega) (by omega)]; exact C7
  · refine RsR.m (μ := μ) ?_ (G2 16 (by omega) (by omega)) (G2 17 (by omega) (by omega)) (G2 18 (by omega) (by omega))
    unfold RsR; rw [F 0 (by omega) (by omega)]; exact C8
theorem lin_rel (C : CRel σ μ) (hw : WF (μ 277) n mb) (hp : p < n) : wpM σ (1 + 1) n p 274 1 = lnK (μ 277) (thM μ 0) p n 276 9 ∧ (∀ c, 276 ≤ c → wpM σ (1 + 1) n p c = σ c) ∧ CRel (wpM σ (1 + 1) n p) (lnK (μ 277) (thM μ 0) p n) := by
  have hn := hw.1.2.1
  obtain ⟨L, l1, l2, l3, l4, l5, l6⟩ := C.2.2.2.2.2.1
  have h := wp_ll (ν := thM μ 0) hw C.1.2 (show p < 6 by omega) l5 (fun j hj => by unfold thM; rw [sg_n (by decide)]; exact l6 j hj)
  have F := (LnP_wpM (σ := σ) (pb := 1 + 1) (i := p) n).1
  have G := LmP_lnK (h := μ 277) (σ := thM μ 0) (p := p) n
  refine ⟨h.eq, fun c hc => F c (by omega) (by omega), ln_rel C F (fun c c1 c2 => (G.1 c c1 c2).trans (by unfold thM; rw [sg_n c1])) (fun j j1 j2 => (G.2.1 j j1).trans (by unfold thM; rw [sg_at, if_neg (by omega)])) (h.ln (by omega))⟩
theorem bms_rel (C : CRel σ μ) (hw : WF (μ 277) n mb) : wbM σ (1 + 15) mb 274 1 = lbM (μ 277) (thM μ 0) mb 276 9 ∧ (∀ c, 276 ≤ c → wbM σ (1 + 15) mb c = σ c) ∧ CRel (wbM σ (1 + 15) mb) (lbM (μ 277) (thM μ 0) mb) := by
  obtain ⟨L, l1, l2, l3, l4, l5, l6⟩ := C.2.2.2.2.2.1
  have h := wb_ll (ν := thM μ 0) hw C.1.2 l5 (fun j hj => by unfold thM; rw [sg_n (by decide)]; exact l6 j hj)
  have F := (LnP_wbM (σ := σ) (bb := 1 + 15) mb).1
  have G := LmP_lbM (h := μ 277) (σ := thM μ 0) (m := mb) (fun q hq => by
    obtain ⟨-, -, ⟨v, hv, ev⟩, -⟩ := hw.2.2.2.2.2.2.2.1 q hq
    rw [ev, tN_nI (by omega)]; omega) mb (Nat.le_refl _)
  refine ⟨h.eq, fun c hc => F c (by omega) (by omega), ln_rel C F (fun c c1 c2 => (G.1 c c1 c2).trans (by unfold thM; rw [sg_n c1])) (fun j j1 j2 => (G.2.1 j j1).trans (by unfold thM; rw [sg_at, if_neg (by omega)])) (h.ln (by omega))⟩
/-- what the means are made of -/
theorem sum_tI {h : Nat → Int32} (ht : ∀ q, q < 6 → tI (h (6 + 5 * q + 0))) : ∀ n, n ≤ 6 → ∃ j, j ≤ 40 * n ∧ sumR (fun q => h (6 + 5 * q + 0)) 0 n = nI j - nI (20 * n)
  | 0, _ => ⟨0, Nat.le_refl _, rfl⟩
  | n + 1, hn => by
    obtain ⟨j, hj, ej⟩ := sum_tI ht n (by omega)
    obtain ⟨i, hi, ei⟩ := tI_n (ht n (by omega))
    refine ⟨j + i, by omega, ?_⟩
    show sumR (fun q => h (6 + 5 * q + 0)) 0 n + h (6 + 5 * n + 0) = _
    rw [ej, ei]
    have key : ∀ n, n ≤ 6 → ∀ a b : Int32, a - nI (20 * n) + (b - nI 20) = a + b - nI (20 * (n + 1)) := fun n hn a b => by
      have e : nI (20 * (n + 1)) = nI (20 * n) + nI 20 := by rw [nI_add]; congr 1
      rw [e, Int32.sub_eq_add_neg, Int32.sub_eq_add_neg, Int32.sub_eq_add_neg, Int32.neg_add, Int32.add_assoc, Int32.add_assoc, ← Int32.add_assoc (-nI (20 * n)), Int32.add_comm (-nI (20 * n)) b, Int32.add_assoc b, Int32.sub_eq_add_neg]
    rw [key n (by omega), nI_add]
theorem sum_120 (hw : WF (μ 277) n mb) : ∃ j, j ≤ 240 ∧ sumR (fun q => μ 277 (6 + 5 * q + 0)) 0 n = nI j - nI 120 := by
  have hn := hw.1.2.1
  obtain ⟨j, hj, ej⟩ := sum_tI hw.2.2.1 n hn
  have key : ∀ n, n ≤ 6 → ∀ j, j ≤ 240 → (nI j - nI (20 * n) : Int32) = nI (j + (120 - 20 * n)) - nI 120 := by decide +kernel
  exact ⟨j + (120 - 20 * n), by omega, by rw [ej]; exact key n hn j (by omega)⟩
theorem plm_6 {f : Nat → Int32} : ∀ n, ∃ j, j ≤ n ∧ plmR f n = nI j
  | 0 => ⟨0, Nat.le_refl _, rfl⟩
  | n + 1 => by
    obtain ⟨j, hj, ej⟩ := plm_6 (f := f) n
    have e : plmR f (n + 1) = if f n = 0 then plmR f n + 1 else plmR f n := rfl
    rw [e, ej]
    split
    · exact ⟨j + 1, by omega, nI_1 j⟩
    · exact ⟨j, by omega, rfl⟩
theorem sum_e (hw : WF (μ 277) n mb) (hg : HR σ 1 (μ 277)) : sumR (σ (1 + 1 + 1)) 0 n = sumR (fun q => μ 277 (6 + 5 * q + 0)) 0 n ∧ plmR (σ (1 + 1 + 1)) n = plmR (fun q => μ 277 (6 + 5 * q + 0)) n := by
  have hn := hw.1.2.1
  exact ⟨sumR_e n (fun q hq => (hg.1.2 q (by omega)).1), plm_e n (fun q hq => (hg.1.2 q (by omega)).1)⟩
end QFS

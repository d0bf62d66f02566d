/-! a round, in step: all of it; and every change -/
section LK6
variable {σ : Mem} {hb cb n mb : Nat} {h : Nat → Int32} {x y z : Int32}
theorem rnd_p {c : Nat} (h1 : hb + 1 ≤ c) (h2 : c < hb + 15) (hcb : hb + 20 ≤ cb) (hn : ¬ n = 0) : rndM σ hb n mb cb c = prM σ (hb + 1) n n c := by
  unfold rndM
  rw [if_neg hn, sg_n (by omega), sg_n (by omega), brk_ap (by omega)]
  unfold rnd2
  rw [sg_n (by omega)]
  funext j
  rw [crk_ap, if_neg (fun z => absurd z.1 (by omega))]
  unfold rnd1
  rw [sg_n (by omega)]
theorem rnd1_bm {c : Nat} (h1 : hb + 15 ≤ c) (h2 : c < hb + 20) (hcb : hb + 20 ≤ cb) : rnd1 σ hb n cb c = σ c := rnd1_c (by omega)
theorem lc_c {τ : Mem} {bb m : Nat} (e : ∀ c, bb + 1 ≤ c → c < bb + 5 → τ c = σ c) : lsC τ bb m = lsC σ bb m := by
  unfold lsC bmC
  rw [e _ (by omega) (by omega), e (bb + 2) (by omega) (by omega), e (bb + 3) (by omega) (by omega), e (bb + 4) (by omega) (by omega)]
theorem goR_hi : goR h n mb 2 = (gbN h n mb).1 2 + 1 ∧ ∀ j, j ≠ 2 → goR h n mb j = (gbN h n mb).1 j := ⟨pk_us, fun j hj => pk_un hj⟩
theorem lsR_go : lsR (goR h n mb) (gbN h n mb).2 = lsR (gbN h n mb).1 (gbN h n mb).2 := ls_ext ls_len fun q hq => by
  rw [ls_at hq]; unfold bmR
  rw [goR_hi.2 _ (by omega), goR_hi.2 _ (by omega), goR_hi.2 _ (by omega), goR_hi.2 _ (by omega)]
/-- what a round does to the beams of a row -/
theorem gb_ls (w : WF h n mb) : lsR (gbN h n mb).1 (gbN h n mb).2 = ((lsR h mb).map (crQ (fun p => goR h n mb (6 + 5 * p + 0)))).filter kpQ ∧ (gbN h n mb).1 4 = h 4 + nI (nOv (fun p => goR h n mb (6 + 5 * p + 0)) (lsR h mb)) ∧ (gbN h n mb).1 5 = h 5 + nI (mb - (gbN h n mb).2) ∧ (gbN h n mb).2 ≤ mb ∧ (gbN h n mb).1 1 = nI (gbN h n mb).2 ∧ (gbN h n mb).1 2 = h 2 ∧ (gbN h n mb).1 3 = h 3 := by
  have r := w.1
  obtain ⟨r0, r1, r2, r3, r4, r5, r6⟩ := w.1
  have hg : ∀ j, j < 6 ∨ 36 ≤ j → gpK (mvR h n) h n j = h j := fun j hj => gpK_out hj n r1
  have hO : ∀ q, q < mb → okB (gpK (mvR h n) h n) q := fun q hq => okB_c (fun w hw => hg _ (by omega)) (r6 q hq)
  have L : lsR (gpK (mvR h n) h n) mb = lsR h mb := ls_ext ls_len fun q hq => by
    rw [ls_at hq]; unfold bmR
    rw [hg _ (by omega), hg _ (by omega), hg _ (by omega), hg _ (by omega)]
  obtain ⟨a1, a2, a3, a4⟩ := ls_gbw (T := fun p => goR h n mb (6 + 5 * p + 0)) mb (r := gpK (mvR h n) h n) (b := 0) (m := mb) (by omega) r3 (by rw [hg _ (by omega)]; exact r2) (fun p hp => (goR_lo r (by omega) (by omega) (by omega) (by omega) (by omega)).symm) hO (fun q _ hq => by rw [hg _ (by omega)]; exact (w.2.2.2.2.2.2.2.1 q hq).2.2.1)
  obtain ⟨b1, b2, b3, b4⟩ := gbw_ok mb (r := gpK (mvR h n) h n) (b := 0) (m := mb) (by omega) (by rw [hg _ (by omega)]; exact r2) r3 hO
  rw [L] at a1 a2
  rw [List.take_zero, List.drop_zero, List.nil_append] at a1
  rw [List.drop_zero, hg 4 (by omega)] at a2
  rw [hg 5 (by omega)] at a3
  exact ⟨a1, a2, a3, a4, b2, by rw [← hg 2 (by omega)]; exact b4 2 (by omega) (by omega) (by omega) (by omega), by rw [← hg 3 (by omega)]; exact b4 3 (by omega) (by omega) (by omega) (by omega)⟩
theorem WF.go (w : WF h n mb) : WF (goR h n mb) n (gbN h n mb).2 := by
  have r := w.1
  obtain ⟨c1, c2, c3, c4, c5, c6, c7⟩ := gb_ls w
  have ho := (goK_ok w.1 1)
  have hm6 := r.2.2.2.1
  have hw : ∀ j, 36 ≤ j → j < 72 → goR h n mb j = h j := fun j j1 j2 => goR_w r j1 j2
  obtain ⟨w1, w2, w3, w4, w5, w6, w7, w8⟩ := w.2
  have kb : BmL (lsR (goR h n mb) (gbN h n mb).2) n := by
    rw [lsR_go, c1]; exact BmL_cr (lR_bm w)
  refine ⟨ho, w1.go r, fun p hp => ?_, fun p q hp hq => by rw [hw _ (by omega) (by omega), hw _ (by omega) (by omega)]; exact w3 p q hp hq, fun p hp => by rw [hw _ (by omega) (by omega)]; exact w4 p hp, fun p h1 hp k hk => ?_, fun p q hp hq h1 => by rw [hw _ (by omega) (by omega)]; exact w6 p q hp hq h1, ((BmW_L r.2.1).mpr kb).2, ?_⟩
  · rw [(goR_p r hp).1]
    split
    · exact mv_tI w hp
    · exact w2 p hp
  · obtain ⟨p0, p1, p2, p3, p4⟩ := goR_p r hp
    have hlt : ¬ p < n := by omega
    rw [if_neg hlt] at p0 p1 p4
    rcases (show k = 0 ∨ k = 1 ∨ k = 2 ∨ k = 3 ∨ k = 4 by omega) with rfl | rfl | rfl | rfl | rfl
    · rw [p0]; exact w5 p h1 hp 0 (by omega)
    · rw [p1]; exact w5 p h1 hp 1 (by omega)
    · rw [p2]; exact w5 p h1 hp 2 (by omega)
    · rw [p3]; exact w5 p h1 hp 3 (by omega)
    · rw [p4]; exact w5 p h1 hp 4 (by omega)
  · rw [goR_hi.2 3 (by omega), c7, w8]
    exact sumR_e 6 (fun q hq => ((goR_p r hq).2.2.2.1).symm)
theorem car_rnd (w : WF h n mb) (g : HR σ hb h) (hcb : hb + 20 ≤ cb) (h5 : σ cb 5 = 0) : StR (rndM σ hb n mb cb) hb cb (stPas h n mb) := by
  unfold stPas
  by_cases hn : n = 0
  · rw [if_pos hn]
    unfold rndM
    rw [if_pos hn, g.2.2.2.1]
    exact StR_r w g hcb (by decide)
  · rw [if_neg hn]
    have r := w.1
    have s := w.2.1
    obtain ⟨c1, c2, c3, c4, c5, c6, c7⟩ := gb_ls w
    have hm6 := r.2.2.2.1
    have gP := g.1
    have P := PRel.go g.1 r s
    have X : ∀ c, hb + 1 ≤ c → c < hb + 15 → rndM σ hb n mb cb c = prM σ (hb + 1) n n c := fun c d1 d2 => rnd_p d1 d2 hcb hn
    -- the beams
    have hT : ∀ p, p < 6 → rnd1 σ hb n cb (hb + 1 + 1) p = goR h n mb (6 + 5 * p + 0) := fun p hp => by
      unfold rnd1; rw [sg_n (by omega)]; exact (P.2 p hp).1
    have L1 : lsC (rnd1 σ hb n cb) (hb + 15) mb = lsR h mb := by
      rw [lc_c (σ := σ) (fun c d1 d2 => rnd1_bm (by omega) (by omega) hcb)]
      exact ((BRel_L r.2.2.1 hm6).mp g.2.2.1).2
    have gd := (lR_bm w).1
    have L2 : lsC (rnd2 σ hb n mb cb) (hb + 15) mb = (lsR h mb).map (crQ (fun p => goR h n mb (6 + 5 * p + 0))) := by
      have e : lsC (rnd2 σ hb n mb cb) (hb + 15) mb = lsC (crk (rnd1 σ hb n cb) (hb + 15) (hb + 1) mb) (hb + 15) mb := lc_c (fun c d1 d2 => by unfold rnd2; rw [sg_n (by omega)])
      rw [e, lc_crk, L1]
      exact List.map_congr_left fun t ht => (crQ_e r.2.1 (gd t ht) hT).1
    have K : cntB (overB (rnd1 σ hb n cb) (hb + 15) (hb + 1)) mb = nI (nOv (fun p => goR h n mb (6 + 5 * p + 0)) (lsR h mb)) := by
      rw [cnt_ov, L1, nOv_e _ (fun t ht => (crQ_e r.2.1 (gd t ht) hT).2)]
    obtain ⟨B1, B2⟩ := lc_brk mb (σ := rnd2 σ hb n mb cb) (bb := hb + 15) (Nat.le_refl mb)
    rw [L2, List.take_of_length_le (by rw [List.length_map, ls_len]; omega), List.drop_eq_nil_of_le (by rw [List.length_map, ls_len]; omega), List.append_nil, ← c1] at B1
    have em : (brk (hb + 15) mb (rnd2 σ hb n mb cb) mb).2 = (gbN h n mb).2 := by
      have := congrArg List.length B1
      rw [lc_len, ls_len] at this
      exact this
    have XB : ∀ c, hb + 15 ≤ c → c < hb + 20 → rndM σ hb n mb cb c = (brk (hb + 15) mb (rnd2 σ hb n mb cb) mb).1 c := fun c d1 d2 => by
      unfold rndM; rw [if_neg hn, sg_n (by omega), sg_n (by omega)]
    have hB2 : BOK (rnd2 σ hb n mb cb) (hb + 15) mb := by
      obtain ⟨b1, b2⟩ := (BRel_L r.2.2.1 hm6).mp g.2.2.1
      have q2 : ∀ c, hb + 15 ≤ c → c < hb + 15 + 4 → rnd2 σ hb n mb cb c = σ c := fun c d1 d2 => rnd2_c (by omega) (by omega) (by omega)
      have e1 : tN (h 1) = mb := by rw [r.2.2.1]; exact tN_nI (by omega)
      refine ⟨by rw [q2 _ (by omega) (by omega)]; exact b1.trans r.2.2.1, hm6, fun q hq => ?_⟩
      rw [q2 _ (by omega) (by omega), q2 (hb + 15 + 2) (by omega) (by omega)]
      have k0 := g.2.2.1.2 q (by omega) 0 (by omega)
      have k1 := g.2.2.1.2 q (by omega) 1 (by omega)
      obtain ⟨o1, o2⟩ := r.2.2.2.2.2.2 q hq
      exact ⟨by rw [show σ (hb + 15 + 1) q = _ from k0]; exact o1, by rw [show σ (hb + 15 + 2) q = _ from k1]; exact o2⟩
    have hBn := (BOK_brk mb hB2 (Nat.le_refl _)).1
    rw [em] at hBn
    refine ⟨⟨⟨?_, fun p hp => ?_⟩, fun p hp => ?_, ?_, ?_, ?_, ?_⟩, ⟨n, _, w.go⟩, Or.inr ⟨rfl, ?_, ?_⟩⟩
    · rw [X _ (by omega) (by omega)]; exact P.1
    · rw [X _ (by omega) (by omega), X (hb + 1 + 2) (by omega) (by omega), X (hb + 1 + 3) (by omega) (by omega), X (hb + 1 + 7 + p) (by omega) (by omega)]
      exact P.2 p hp
    · rw [X _ (by omega) (by omega), X (hb + 1 + 5) (by omega) (by omega), prM_ap, prM_ap, if_neg (by omega), if_neg (by omega), if_neg (by omega), if_neg (by omega), if_neg (by omega), if_pos rfl]
      obtain ⟨p0, p1, p2, p3, p4⟩ := goR_p (mb := mb) r hp
      have e3 : (oks (goR h n mb) (gmV h n n)).2.1 (6 + 5 * p + 3) = h (6 + 5 * p + 3) := p3
      have e4 : (oks (goR h n mb) (gmV h n n)).2.1 (6 + 5 * p + 4) = _ := p4
      rw [e3, e4, pr_move gP r s hp, (g.2.1 p hp).2]
      exact ⟨(g.2.1 p hp).1, rfl⟩
    · have k1 : goR h n mb 1 = nI (gbN h n mb).2 := (goR_hi.2 1 (by omega)).trans c5
      refine (BRel_L (h := goR h n mb) k1 (by omega)).mpr ⟨?_, ?_⟩
      · rw [XB _ (by omega) (by omega), hBn, k1]
      · rw [lc_c (σ := (brk (hb + 15) mb (rnd2 σ hb n mb cb) mb).1) (fun c d1 d2 => XB c (by omega) (by omega)), lsR_go, ← B1, em]
    · show _ = goR h n mb 2
      rw [goR_hi.1, c6, ← g.2.2.2.1]
      unfold rndM; rw [if_neg hn, sg_ss]
    · show _ = goR h n mb 4
      rw [goR_hi.2 4 (by omega), c2, ← g.2.2.2.2.1, ← K]
      unfold rndM; rw [if_neg hn, sg_at, if_neg (by omega), sg_at, if_neg (by omega), brk_ap (by omega)]
      unfold rnd2; rw [sg_ss]
    · show _ = goR h n mb 5
      rw [goR_hi.2 5 (by omega), c3, ← g.2.2.2.2.2, ← em]
      unfold rndM; rw [if_neg hn, sg_at, if_neg (by omega), sg_ss]
    · unfold rndM
      rw [if_neg hn, sg_n (by omega), sg_n (by omega), brk_ap (by omega)]
      unfold rnd2; rw [sg_n (by omega), crk_ap, if_neg (fun z => absurd z.1 (by omega))]
      unfold rnd1; rw [sg_at, if_neg (by omega), prM_ap, if_neg (by omega), if_neg (by omega), if_neg (by omega), if_neg (by omega)]
      exact h5
    · unfold rndM
      rw [if_neg hn, sg_n (by omega), sg_n (by omega), brk_ap (by omega)]
      unfold rnd2; rw [sg_n (by omega), crk_ap, if_neg (fun z => absurd z.1 (by omega))]
      unfold rnd1; rw [sg_ss]
      exact pr_moved gP r s
/-- every change, in step -/
theorem car_st {j : Nat} (w : WF h n mb) (g : HR σ hb h) (hcb : hb + 20 ≤ cb) (h5 : σ cb 5 = 0) (hx : 1 ≤ nmC j → σ cb 1 = x) (hy : 2 ≤ nmC j → σ cb 2 = y) (hz : 3 ≤ nmC j → σ cb 3 = z) (hj : j < 8) : StR (carH σ hb n mb cb j) hb cb (stp h j x y z) := by
  obtain ⟨-, e1, e2⟩ := w.1.rw
  unfold stp
  rw [e1, e2]
  rcases (show j = 0 ∨ j = 1 ∨ j = 2 ∨ j = 3 ∨ j = 4 ∨ j = 5 ∨ j = 6 ∨ j = 7 by omega) with rfl | rfl | rfl | rfl | rfl | rfl | rfl | rfl
  · exact car_adm w g hcb h5 (hx (by decide)) (Or.inl rfl)
  · exact car_adm w g hcb h5 (hx (by decide)) (Or.inr rfl)
  · exact car_fri w g hcb h5 (hx (by decide)) (hy (by decide)) (hz (by decide))
  · exact car_rnd w g hcb h5
  · exact car_tel w g hcb h5 (hx (by decide)) (hy (by decide))
  · exact car_put w g hcb h5 (hx (by decide)) (hy (by decide)) (hz (by decide))
  · exact car_rem w g hcb h5 (hx (by decide))
  · exact car_hab w g hcb h5 (hx (by decide)) (hy (by decide))
end LK6

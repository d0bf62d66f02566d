/-! beams taken, in step -/
theorem ls_drp {h : Nat → Int32} {i mb : Nat} (hi : i < mb) : lsR (drpR h i mb) (mb - 1) = (lsR h mb).eraseIdx i := by
  refine ls_ext (by rw [List.length_eraseIdx, ls_len, if_pos hi]) fun b hb => ?_
  rw [List.getElem?_eraseIdx]
  have E : ∀ w, w < 4 → drpR h i mb (72 + 4 * b + w) = if b < i then h (72 + 4 * b + w) else h (72 + 4 * (b + 1) + w) := fun w hw => by
    unfold drpR shR
    by_cases c : b < i
    · rw [if_neg (by omega), pk_un (by omega), if_pos c]
    · rw [if_pos (by omega), pk_un (by omega), if_neg c]
      exact congrArg h (by omega)
  by_cases c : b < i
  · rw [if_pos c, ls_at (by omega)]
    unfold bmR
    rw [E 0 (by omega), E 1 (by omega), E 2 (by omega), E 3 (by omega), if_pos c, if_pos c, if_pos c, if_pos c]
  · rw [if_neg c, ls_at (by omega)]
    unfold bmR
    rw [E 0 (by omega), E 1 (by omega), E 2 (by omega), E 3 (by omega), if_neg c, if_neg c, if_neg c, if_neg c]
theorem lc_take {σ : Mem} {bb i mb : Nat} (hi : i < mb) : lsC (takeB σ bb i mb) bb (mb - 1) = (lsC σ bb mb).eraseIdx i := by
  refine lc_ext (by rw [List.length_eraseIdx, lc_len, if_pos hi]) fun b hb => ?_
  rw [List.getElem?_eraseIdx]
  have E : ∀ w, 1 ≤ w → w ≤ 4 → takeB σ bb i mb (bb + w) b = if b < i then σ (bb + w) b else σ (bb + w) (b + 1) := fun w w1 w2 => by
    unfold takeB
    rw [sg_n (by omega)]
    unfold shB
    by_cases c : b < i
    · rw [if_neg (by omega), if_pos c]
    · rw [if_pos (by omega), if_neg c]
  by_cases c : b < i
  · rw [if_pos c, lc_at (by omega)]
    unfold bmC
    rw [E 1 (by omega) (by omega), E 2 (by omega) (by omega), E 3 (by omega) (by omega), E 4 (by omega) (by omega), if_pos c, if_pos c, if_pos c, if_pos c]
  · rw [if_neg c, lc_at (by omega)]
    unfold bmC
    rw [E 1 (by omega) (by omega), E 2 (by omega) (by omega), E 3 (by omega) (by omega), E 4 (by omega) (by omega), if_neg c, if_neg c, if_neg c, if_neg c]
theorem BmL.sub {L M : List Q4} {n : Nat} (h : M.Sublist L) (g : BmL L n) : BmL M n := ⟨fun t ht => g.1 t (h.subset ht), g.2.sublist h⟩
theorem lR_bm {h : Nat → Int32} {n mb : Nat} (w : WF h n mb) : BmL (lsR h mb) n := (BmW_L w.1.2.1).mp ⟨w.1.2.2.2.2.2.2, w.2.2.2.2.2.2.2.1⟩
theorem hold_rng {v : Int32} {n : Nat} (hv : v = nI n) (hn : n ≤ 6) (x : Int32) : holdB x v = rngB x 0 (v - 1) := hold_one (h := fun _ => v) hv hn x
section LK5
variable {σ : Mem} {hb cb n mb : Nat} {h : Nat → Int32} {x y z : Int32}
theorem car_rem (w : WF h n mb) (g : HR σ hb h) (hcb : hb + 20 ≤ cb) (h5 : σ cb 5 = 0) (hx : σ cb 1 = x) : StR (remM σ hb mb cb) hb cb (stTak h mb x) := by
  have hm6 := w.1.2.2.2.1
  have h1 := w.1.2.2.1
  unfold remM stTak
  rw [hx, g.2.2.1.1, hold_rng h1 hm6]
  by_cases c1 : rngB x 0 (h 1 - 1) = 0
  · rw [if_pos c1, if_pos c1]; exact StR_r w g hcb (by decide)
  · rw [if_neg c1, if_neg c1]
    obtain ⟨x1, x2⟩ := rngN c1 h1 (by omega)
    generalize tN x = i at *
    have hi : ∀ j, j < 72 → j ≠ 1 → drpR h i mb j = h j := fun j j1 j2 => drpR_lo j2 j1
    have k1 : drpR h i mb 1 = nI (mb - 1) := drpR_1
    have kb : BmL (lsR (drpR h i mb) (mb - 1)) n := by rw [ls_drp x2]; exact (lR_bm w).sub (List.eraseIdx_sublist _ _)
    have kl : lsC (takeB σ (hb + 15) i mb) (hb + 15) (mb - 1) = lsR (drpR h i mb) (mb - 1) := by
      rw [ls_drp x2, lc_take x2, ((BRel_L h1 hm6).mp g.2.2.1).2]
    have k4 : takeB σ (hb + 15) i mb (hb + 15) 4 = nI (mb - 1) := by unfold takeB; rw [sg_ss]
    have hc : ∀ c, c < hb + 15 ∨ hb + 20 ≤ c → takeB σ (hb + 15) i mb c = σ c := fun c hc => takeB_c (by omega)
    refine StR_o (w.bms (by omega) (fun j j1 j2 _ _ _ => hi j j1 j2) k1 kb) ?_ hcb (by rw [hc _ (by omega)]; exact h5)
    generalize takeB σ (hb + 15) i mb = τ at *
    generalize drpR h i mb = r at *
    obtain ⟨⟨g0, g1⟩, g2, -, g6, g7, g8⟩ := g
    refine ⟨⟨by rw [hc _ (by omega), hi _ (by omega) (by omega)]; exact g0, fun p hp => ?_⟩, fun p hp => ?_, (BRel_L k1 (by omega)).mpr ⟨k4.trans k1.symm, kl⟩, ?_, ?_, ?_⟩
    · rw [hc _ (by omega), hc (hb + 1 + 2) (by omega), hc (hb + 1 + 3) (by omega), hc (hb + 1 + 7 + p) (by omega), hi _ (by omega) (by omega), hi (6 + 5 * p + 1) (by omega) (by omega), hi (6 + 5 * p + 2) (by omega) (by omega)]
      obtain ⟨a1, a2, a3, a4⟩ := g1 p hp
      exact ⟨a1, a2, a3, fun q hq => by rw [hi _ (by omega) (by omega)]; exact a4 q hq⟩
    · rw [hc _ (by omega), hc (hb + 1 + 5) (by omega), hi _ (by omega) (by omega), hi (6 + 5 * p + 4) (by omega) (by omega)]; exact g2 p hp
    · rw [hc _ (by omega), hi _ (by omega) (by omega)]; exact g6
    · rw [hc _ (by omega), hi _ (by omega) (by omega)]; exact g7
    · rw [hc _ (by omega), hi _ (by omega) (by omega)]; exact g8
end LK5

/-! the other changes, in step: friends, habits, facts, beams put and taken -/
section LK2
variable {σ : Mem} {hb cb n mb : Nat} {h : Nat → Int32} {x y z : Int32}
theorem WF.wgt (w : WF h n mb) {a b : Nat} (ha : a < n) (hb : b < n) (hab : a ≠ b) (hz : okN z) : WF (upd (upd h (36 + 6 * a + b) z) (36 + 6 * b + a) z) n mb := by
  obtain ⟨⟨r0, r1, r2, r3, r4, r5, r6⟩, w1, w2, w3, w4, w5, w6, w7, w8⟩ := w
  have hi : ∀ j, j < 36 ∨ 72 ≤ j → upd (upd h (36 + 6 * a + b) z) (36 + 6 * b + a) z j = h j := fun j hj => by rw [pk_un (by omega), pk_un (by omega)]
  have E : ∀ p q, p < 6 → q < 6 → upd (upd h (36 + 6 * a + b) z) (36 + 6 * b + a) z (36 + 6 * p + q) = if (p = a ∧ q = b) ∨ (p = b ∧ q = a) then z else h (36 + 6 * p + q) := fun p q hp hq => by
    by_cases c1 : p = b ∧ q = a
    · rw [if_pos (Or.inr c1), c1.1, c1.2, pk_us]
    · rw [pk_un (by omega)]
      by_cases c2 : p = a ∧ q = b
      · rw [if_pos (Or.inl c2), c2.1, c2.2, pk_us]
      · rw [pk_un (by omega), if_neg (by omega)]
  generalize upd (upd h (36 + 6 * a + b) z) (36 + 6 * b + a) z = r at hi E
  refine ⟨⟨by rw [hi _ (by omega)]; exact r0, r1, by rw [hi _ (by omega)]; exact r2, r3, fun p hp => by rw [hi _ (by omega)]; exact r4 p hp, fun p q hp hq => ?_, fun q hq => okB_c (fun w hw => hi _ (by omega)) (r6 q hq)⟩, fun p hp => by rw [hi _ (by omega)]; exact w1 p hp, fun p hp => by rw [hi _ (by omega)]; exact w2 p hp, fun p q hp hq => ?_, fun p hp => ?_, fun p h1 hp w hw => by rw [hi _ (by omega)]; exact w5 p h1 hp w hw, fun p q hp hq h1 => ?_, fun b hb => ?_, ?_⟩
  · rw [E p q hp hq]; split
    · exact hz
    · exact r5 p q hp hq
  · rw [E p q hp hq, E q p hq hp]
    by_cases c : (p = a ∧ q = b) ∨ (p = b ∧ q = a)
    · rw [if_pos c, if_pos (by omega)]
    · rw [if_neg c, if_neg (by omega)]; exact w3 p q hp hq
  · rw [E p p hp hp, if_neg (by omega)]; exact w4 p hp
  · rw [E p q hp hq, if_neg (by omega)]; exact w6 p q hp hq h1
  · obtain ⟨b1, b3, b4, b5⟩ := w7 b hb
    rw [hi _ (by omega), hi _ (by omega), hi _ (by omega), hi _ (by omega)]
    exact ⟨b1, b3, b4, fun a ha => by rw [hi _ (by omega), hi _ (by omega)]; exact b5 a ha⟩
  · rw [hi 3 (by omega), w8]
    exact sumR_e 6 (fun q hq => (hi _ (by omega)).symm)
theorem car_fri (w : WF h n mb) (g : HR σ hb h) (hcb : hb + 20 ≤ cb) (h5 : σ cb 5 = 0) (hx : σ cb 1 = x) (hy : σ cb 2 = y) (hz : σ cb 3 = z) : StR (friM σ hb cb) hb cb (stBef h x y z) := by
  unfold friM stBef
  rw [hx, hy, hz, g.1.1, hold_one w.1.1 w.1.2.1, hold_one w.1.1 w.1.2.1]
  by_cases c1 : oneH h x = 0
  · rw [if_pos c1, if_pos c1]; exact StR_r w g hcb (by decide)
  · rw [if_neg c1, if_neg c1]
    by_cases c2 : oneH h y = 0
    · rw [if_pos c2, if_pos c2]; exact StR_r w g hcb (by decide)
    · rw [if_neg c2, if_neg c2]
      by_cases c3 : x = y
      · rw [if_pos c3, if_pos c3]; exact StR_r w g hcb (by decide)
      · rw [if_neg c3, if_neg c3]
        by_cases c4 : rngB z 0 9 = 0
        · rw [if_pos c4, if_pos c4]; exact StR_r w g hcb (by decide)
        · rw [if_neg c4, if_neg c4]
          have hn6 := w.1.2.1
          obtain ⟨x1, x2⟩ := rngN c1 w.1.1 (by omega)
          obtain ⟨y1, y2⟩ := rngN c2 w.1.1 (by omega)
          have hne : tN x ≠ tN y := fun q => c3 (by rw [x1, y1, q])
          have e : σ (hb + 1 + 7 + tN x) (tN y) = h (36 + 6 * tN x + tN y) := (g.1.2 _ (by omega)).2.2.2 _ (by omega)
          rw [e]
          by_cases c5 : h (36 + 6 * tN x + tN y) = z
          · rw [if_pos c5, if_pos c5]; exact StR_r w g hcb (by decide)
          · rw [if_neg c5, if_neg c5]
            refine StR_o (w.wgt x2 y2 hne (okN_r c4)) ?_ hcb (by rw [sg_n (by omega), sg_n (by omega)]; exact h5)
            generalize tN x = a at *
            generalize tN y = b at *
            have hi : ∀ j, j < 36 ∨ 72 ≤ j → upd (upd h (36 + 6 * a + b) z) (36 + 6 * b + a) z j = h j := fun j hj => by rw [pk_un (by omega), pk_un (by omega)]
            obtain ⟨⟨g0, g1⟩, g2, ⟨g3, g4⟩, g6, g7, g8⟩ := g
            refine ⟨⟨by rw [sg_n (by omega), sg_n (by omega), hi _ (by omega)]; exact g0, fun p hp => ⟨?_, ?_, ?_, fun q hq => ?_⟩⟩, fun p hp => ⟨?_, ?_⟩, ⟨?_, fun b' hb' w' hw' => ?_⟩, ?_, ?_, ?_⟩
            · rw [sg_n (by omega), sg_n (by omega), hi _ (by omega)]; exact (g1 p hp).1
            · rw [sg_n (by omega), sg_n (by omega), hi _ (by omega)]; exact (g1 p hp).2.1
            · rw [sg_n (by omega), sg_n (by omega), hi _ (by omega)]; exact (g1 p hp).2.2.1
            · rw [sg_at]
              by_cases k1 : p = b ∧ q = a
              · rw [if_pos ⟨by omega, k1.2⟩, k1.1, k1.2, pk_us]
              · rw [if_neg (by omega), sg_at, pk_un (by omega)]
                by_cases k2 : p = a ∧ q = b
                · rw [if_pos ⟨by omega, k2.2⟩, k2.1, k2.2, pk_us]
                · rw [if_neg (by omega), pk_un (by omega)]; exact (g1 p hp).2.2.2 q hq
            · rw [sg_n (by omega), sg_n (by omega), hi _ (by omega)]; exact (g2 p hp).1
            · rw [sg_n (by omega), sg_n (by omega), hi _ (by omega)]; exact (g2 p hp).2
            · rw [sg_n (by omega), sg_n (by omega), hi _ (by omega)]; exact g3
            · rw [sg_n (by omega), sg_n (by omega), hi _ (by omega)]; exact g4 b' (by rw [← hi 1 (by omega)]; exact hb') w' hw'
            · rw [sg_n (by omega), sg_n (by omega), hi _ (by omega)]; exact g6
            · rw [sg_n (by omega), sg_n (by omega), hi _ (by omega)]; exact g7
            · rw [sg_n (by omega), sg_n (by omega), hi _ (by omega)]; exact g8
/-- a row in which one person's tilt, habit and facts differ -/
theorem WF.per (w : WF h n mb) {a : Nat} (ha : a < n) {r : Nat → Int32} (hi : ∀ j, j ≠ 6 + 5 * a + 0 → j ≠ 6 + 5 * a + 1 → j ≠ 6 + 5 * a + 3 → j ≠ 3 → r j = h j) (k0 : tI (r (6 + 5 * a + 0))) (k1 : okN (r (6 + 5 * a + 1))) (k3 : r 3 = sumR (fun p => r (6 + 5 * p + 3)) 0 6) : WF r n mb := by
  obtain ⟨⟨r0, r1, r2, r3, r4, r5, r6⟩, w1, w2, w3, w4, w5, w6, w7, w8⟩ := w
  refine ⟨⟨by rw [hi _ (by omega) (by omega) (by omega) (by omega)]; exact r0, r1, by rw [hi _ (by omega) (by omega) (by omega) (by omega)]; exact r2, r3, fun p hp => ?_, fun p q hp hq => by rw [hi _ (by omega) (by omega) (by omega) (by omega)]; exact r5 p q hp hq, fun q hq => okB_c (fun w hw => hi _ (by omega) (by omega) (by omega) (by omega)) (r6 q hq)⟩, fun p hp => by rw [hi _ (by omega) (by omega) (by omega) (by omega)]; exact w1 p hp, fun p hp => ?_, fun p q hp hq => by rw [hi _ (by omega) (by omega) (by omega) (by omega), hi _ (by omega) (by omega) (by omega) (by omega)]; exact w3 p q hp hq, fun p hp => by rw [hi _ (by omega) (by omega) (by omega) (by omega)]; exact w4 p hp, fun p h1 hp w hw => by rw [hi _ (by omega) (by omega) (by omega) (by omega)]; exact w5 p h1 hp w hw, fun p q hp hq h1 => by rw [hi _ (by omega) (by omega) (by omega) (by omega)]; exact w6 p q hp hq h1, fun b hb => ?_, k3⟩
  · by_cases c : p = a
    · subst c; exact k1
    · rw [hi _ (by omega) (by omega) (by omega) (by omega)]; exact r4 p hp
  · by_cases c : p = a
    · subst c; exact k0
    · rw [hi _ (by omega) (by omega) (by omega) (by omega)]; exact w2 p hp
  · obtain ⟨b1, b3, b4, b5⟩ := w7 b hb
    rw [hi _ (by omega) (by omega) (by omega) (by omega), hi _ (by omega) (by omega) (by omega) (by omega), hi _ (by omega) (by omega) (by omega) (by omega), hi _ (by omega) (by omega) (by omega) (by omega)]
    exact ⟨b1, b3, b4, fun a ha => by rw [hi _ (by omega) (by omega) (by omega) (by omega), hi _ (by omega) (by omega) (by omega) (by omega)]; exact b5 a ha⟩
theorem car_hab (w : WF h n mb) (g : HR σ hb h) (hcb : hb + 20 ≤ cb) (h5 : σ cb 5 = 0) (hx : σ cb 1 = x) (hy : σ cb 2 = y) : StR (habM σ hb cb) hb cb (stAcc h x y) := by
  unfold habM stAcc
  rw [hx, hy, g.1.1, hold_one w.1.1 w.1.2.1]
  by_cases c1 : oneH h x = 0
  · rw [if_pos c1, if_pos c1]; exact StR_r w g hcb (by decide)
  · rw [if_neg c1, if_neg c1]
    by_cases c2 : rngB y 0 9 = 0
    · rw [if_pos c2, if_pos c2]; exact StR_r w g hcb (by decide)
    · rw [if_neg c2, if_neg c2]
      have hn6 := w.1.2.1
      obtain ⟨x1, x2⟩ := rngN c1 w.1.1 (by omega)
      have e : σ (hb + 1 + 2) (tN x) = h (6 + 5 * tN x + 1) := (g.1.2 _ (by omega)).2.1
      rw [e]
      by_cases c5 : h (6 + 5 * tN x + 1) = y
      · rw [if_pos c5, if_pos c5]; exact StR_r w g hcb (by decide)
      · rw [if_neg c5, if_neg c5]
        generalize tN x = a at *
        have hi : ∀ j, j ≠ 6 + 5 * a + 1 → upd h (6 + 5 * a + 1) y j = h j := fun j hj => pk_un hj
        refine StR_o (w.per x2 (fun j _ h1 _ _ => hi j h1) (by rw [hi _ (by omega)]; exact w.2.2.1 a (by omega)) (by rw [pk_us]; exact okN_r c2) ?_) ?_ hcb (by rw [sg_n (by omega)]; exact h5)
        · rw [hi 3 (by omega), w.2.2.2.2.2.2.2.2]
          exact sumR_e 6 (fun q hq => (hi _ (by omega)).symm)
        · obtain ⟨⟨g0, g1⟩, g2, ⟨g3, g4⟩, g6, g7, g8⟩ := g
          refine ⟨⟨by rw [sg_n (by omega), hi _ (by omega)]; exact g0, fun p hp => ⟨?_, ?_, ?_, fun q hq => ?_⟩⟩, fun p hp => ⟨?_, ?_⟩, ⟨?_, fun b' hb' w' hw' => ?_⟩, ?_, ?_, ?_⟩
          · rw [sg_n (by omega), hi _ (by omega)]; exact (g1 p hp).1
          · rw [sg_at]
            by_cases k : p = a
            · rw [if_pos ⟨rfl, k⟩, k, pk_us]
            · rw [if_neg (by omega), hi _ (by omega)]; exact (g1 p hp).2.1
          · rw [sg_n (by omega), hi _ (by omega)]; exact (g1 p hp).2.2.1
          · rw [sg_n (by omega), hi _ (by omega)]; exact (g1 p hp).2.2.2 q hq
          · rw [sg_n (by omega), hi _ (by omega)]; exact (g2 p hp).1
          · rw [sg_n (by omega), hi _ (by omega)]; exact (g2 p hp).2
          · rw [sg_n (by omega), hi _ (by omega)]; exact g3
          · rw [sg_n (by omega), hi _ (by omega)]; exact g4 b' (by rw [← hi 1 (by omega)]; exact hb') w' hw'
          · rw [sg_n (by omega), hi _ (by omega)]; exact g6
          · rw [sg_n (by omega), hi _ (by omega)]; exact g7
          · rw [sg_n (by omega), hi _ (by omega)]; exact g8
end LK2

/-! telling facts, in step -/
theorem sumR_1 {f g : Nat → Int32} {a : Nat} (e : ∀ p, p ≠ a → g p = f p) (ea : g a = f a + 1) : ∀ n, (n ≤ a → sumR g 0 n = sumR f 0 n) ∧ (a < n → sumR g 0 n = sumR f 0 n + 1)
  | 0 => ⟨fun _ => rfl, fun h => absurd h (by omega)⟩
  | n + 1 => by
    obtain ⟨h1, h2⟩ := sumR_1 e ea n
    constructor
    · intro h
      show sumR g 0 n + g n = sumR f 0 n + f n
      rw [h1 (by omega), e n (by omega)]
    · intro h
      show sumR g 0 n + g n = sumR f 0 n + f n + 1
      by_cases c : n = a
      · subst c
        rw [h1 (Nat.le_refl _), ea, Int32.add_assoc]
      · rw [h2 (by omega), e n c, Int32.add_assoc, Int32.add_comm 1, Int32.add_assoc]
theorem tI_n {x : Int32} (h : tI x) : ∃ j : Nat, j ≤ 40 ∧ x = nI j - nI 20 := by
  obtain ⟨h1, h2⟩ := h
  exact ⟨(x.toInt + 20).toNat, by omega, Int32.toInt_inj.mp (by rw [pk_sub_toInt (by omega) (by omega)]; omega)⟩
theorem ab_tI {x : Int32} (h : tI x) : ∃ a, a ≤ 20 ∧ abI x = nI a := by
  obtain ⟨j, hj, rfl⟩ := tI_n h
  have key : ∀ j, j ≤ 40 → abI (nI j - nI 20) = nI (if j < 20 then 20 - j else j - 20) := by decide +kernel
  exact ⟨_, by split <;> omega, key j hj⟩
theorem fr_n {h : Nat → Int32} {p : Nat} {y : Int32} (hh : okN (h (6 + 5 * p + 1))) (hy : ¬ rngB y 1 9 = 0) : ∃ b, b ≤ 9 ∧ frR h p y = nI b := by
  obtain ⟨d, hd, e⟩ := hh
  have hy2 : ¬ rngB y 0 9 = 0 := by
    unfold rngB at hy ⊢
    by_cases a : y < 1
    · rw [if_pos a] at hy; exact absurd rfl hy
    · rw [if_neg a] at hy
      rw [if_neg (fun q => a (Int32.lt_trans q (by decide)))]
      exact hy
  obtain ⟨y1, y2⟩ := rngL (n := 9) hy2 rfl (by decide)
  have key : ∀ c, c ≤ 9 → ∀ d, d ≤ 9 → mxI 0 (nI c - nI d / 3) = nI (c - d / 3) := by decide +kernel
  unfold frR
  rw [e, y1, key _ y2 d hd]
  exact ⟨_, by omega, rfl⟩
theorem tel_tI {h : Nat → Int32} {p : Nat} {y : Int32} (ht : tI (h (6 + 5 * p + 0))) (hh : okN (h (6 + 5 * p + 1))) (hy : ¬ rngB y 1 9 = 0) : tI (telT h p y) := by
  obtain ⟨a, ha, ea⟩ := ab_tI ht
  obtain ⟨b, hb, eb⟩ := fr_n hh hy
  unfold telT lfR
  rw [ea, eb]
  have key : ∀ a, a ≤ 20 → ∀ b, b ≤ 9 → (-20 ≤ (mxI 0 (nI a - nI b)).toInt ∧ (mxI 0 (nI a - nI b)).toInt ≤ 20) ∧ (-20 ≤ (-(mxI 0 (nI a - nI b))).toInt ∧ (-(mxI 0 (nI a - nI b))).toInt ≤ 20) := by decide +kernel
  obtain ⟨k1, k2⟩ := key a ha b hb
  split
  · exact k1
  · exact k2
theorem tel_e {h : Nat → Int32} {p : Nat} {y : Int32} (h0 : ¬ h (6 + 5 * p + 0) = 0) : tellV (h (6 + 5 * p + 0)) (h (6 + 5 * p + 1)) y = telT h p y := by
  unfold tellV telT lfR
  have ef : forceV y (h (6 + 5 * p + 1)) = frR h p y := mxI_c _ _
  rw [ef, mxI_c _ 0]
  unfold sgnV
  by_cases c : h (6 + 5 * p + 0) < 0
  · rw [if_pos c, if_neg (Int32.not_le.mpr c), Int32.neg_mul, Int32.one_mul]
  · rw [if_neg c, if_neg h0, if_pos (Int32.not_lt.mp c), Int32.one_mul]
section LK3
variable {σ : Mem} {hb cb n mb : Nat} {h : Nat → Int32} {x y z : Int32}
theorem car_tel (w : WF h n mb) (g : HR σ hb h) (hcb : hb + 20 ≤ cb) (h5 : σ cb 5 = 0) (hx : σ cb 1 = x) (hy : σ cb 2 = y) : StR (telM σ hb cb) hb cb (stTel h x y) := by
  unfold telM stTel
  rw [hx, hy, g.1.1, hold_one w.1.1 w.1.2.1]
  by_cases c1 : oneH h x = 0
  · rw [if_pos c1, if_pos c1]; exact StR_r w g hcb (by decide)
  · rw [if_neg c1, if_neg c1]
    by_cases c2 : rngB y 1 9 = 0
    · rw [if_pos c2, if_pos c2]; exact StR_r w g hcb (by decide)
    · rw [if_neg c2, if_neg c2]
      have hn6 := w.1.2.1
      obtain ⟨x1, x2⟩ := rngN c1 w.1.1 (by omega)
      have e0 : σ (hb + 1 + 1) (tN x) = h (6 + 5 * tN x + 0) := (g.1.2 _ (by omega)).1
      have e1 : σ (hb + 1 + 2) (tN x) = h (6 + 5 * tN x + 1) := (g.1.2 _ (by omega)).2.1
      have e3 : σ (hb + 1 + 4) (tN x) = h (6 + 5 * tN x + 3) := (g.2.1 _ (by omega)).1
      have ef : forceV y (h (6 + 5 * tN x + 1)) = frR h (tN x) y := mxI_c _ _
      rw [e0, e1, e3, ef]
      by_cases c3 : h (6 + 5 * tN x + 0) = 0
      · rw [if_pos c3, if_pos c3]; exact StR_r w g hcb (by decide)
      · rw [if_neg c3, if_neg c3, tel_e c3]
        by_cases c4 : frR h (tN x) y = 0
        · rw [if_pos c4, if_pos c4]; exact StR_r w g hcb (by decide)
        · rw [if_neg c4, if_neg c4]
          have hti := tel_tI (y := y) (w.2.2.1 (tN x) (by omega)) (w.1.2.2.2.2.1 (tN x) (by omega)) c2
          unfold telR
          generalize telT h (tN x) y = t at *
          generalize tN x = a at *
          have hi : ∀ j, j ≠ 6 + 5 * a + 0 → j ≠ 6 + 5 * a + 3 → j ≠ 3 → upd (upd (upd h (6 + 5 * a + 0) t) (6 + 5 * a + 3) (h (6 + 5 * a + 3) + 1)) 3 (h 3 + 1) j = h j := fun j h1 h2 h3 => by rw [pk_un h3, pk_un h2, pk_un h1]
          have k0 : upd (upd (upd h (6 + 5 * a + 0) t) (6 + 5 * a + 3) (h (6 + 5 * a + 3) + 1)) 3 (h 3 + 1) (6 + 5 * a + 0) = t := by rw [pk_un (by omega), pk_un (by omega), pk_us]
          have k3 : upd (upd (upd h (6 + 5 * a + 0) t) (6 + 5 * a + 3) (h (6 + 5 * a + 3) + 1)) 3 (h 3 + 1) (6 + 5 * a + 3) = h (6 + 5 * a + 3) + 1 := by rw [pk_un (by omega), pk_us]
          have k9 : upd (upd (upd h (6 + 5 * a + 0) t) (6 + 5 * a + 3) (h (6 + 5 * a + 3) + 1)) 3 (h 3 + 1) 3 = h 3 + 1 := pk_us
          generalize upd (upd (upd h (6 + 5 * a + 0) t) (6 + 5 * a + 3) (h (6 + 5 * a + 3) + 1)) 3 (h 3 + 1) = r at *
          refine StR_o (w.per x2 (fun j h1 _ h3 h4 => hi j h1 h3 h4) (by rw [k0]; exact hti) (by rw [hi _ (by omega) (by omega) (by omega)]; exact w.1.2.2.2.2.1 a (by omega)) ?_) ?_ hcb (by rw [sg_n (by omega), sg_n (by omega)]; exact h5)
          · rw [k9, w.2.2.2.2.2.2.2.2]
            exact ((sumR_1 (f := fun p => h (6 + 5 * p + 3)) (g := fun p => r (6 + 5 * p + 3)) (a := a) (fun p hp => hi _ (by omega) (by omega) (by omega)) k3 6).2 (by omega)).symm
          · obtain ⟨⟨g0, g1⟩, g2, ⟨g3, g4⟩, g6, g7, g8⟩ := g
            refine ⟨⟨by rw [sg_n (by omega), sg_n (by omega), hi _ (by omega) (by omega) (by omega)]; exact g0, fun p hp => ⟨?_, ?_, ?_, fun q hq => ?_⟩⟩, fun p hp => ⟨?_, ?_⟩, ⟨?_, fun b' hb' w' hw' => ?_⟩, ?_, ?_, ?_⟩
            · rw [sg_n (by omega), sg_at]
              by_cases k : p = a
              · rw [if_pos ⟨rfl, k⟩, k, k0]
              · rw [if_neg (by omega), hi _ (by omega) (by omega) (by omega)]; exact (g1 p hp).1
            · rw [sg_n (by omega), sg_n (by omega), hi _ (by omega) (by omega) (by omega)]; exact (g1 p hp).2.1
            · rw [sg_n (by omega), sg_n (by omega), hi _ (by omega) (by omega) (by omega)]; exact (g1 p hp).2.2.1
            · rw [sg_n (by omega), sg_n (by omega), hi _ (by omega) (by omega) (by omega)]; exact (g1 p hp).2.2.2 q hq
            · rw [sg_at]
              by_cases k : p = a
              · rw [if_pos ⟨rfl, k⟩, k, k3]
              · rw [if_neg (by omega), sg_n (by omega), hi _ (by omega) (by omega) (by omega)]; exact (g2 p hp).1
            · rw [sg_n (by omega), sg_n (by omega), hi _ (by omega) (by omega) (by omega)]; exact (g2 p hp).2
            · rw [sg_n (by omega), sg_n (by omega), hi _ (by omega) (by omega) (by omega)]; exact g3
            · rw [sg_n (by omega), sg_n (by omega), hi _ (by omega) (by omega) (by omega)]; exact g4 b' (by rw [← hi 1 (by omega) (by omega) (by omega)]; exact hb') w' hw'
            · rw [sg_n (by omega), sg_n (by omega), hi _ (by omega) (by omega) (by omega)]; exact g6
            · rw [sg_n (by omega), sg_n (by omega), hi _ (by omega) (by omega) (by omega)]; exact g7
            · rw [sg_n (by omega), sg_n (by omega), hi _ (by omega) (by omega) (by omega)]; exact g8
end LK3

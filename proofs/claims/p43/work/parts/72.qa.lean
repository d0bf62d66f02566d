/-! questions: the class and the reference answer the same -/
section QAS
variable {σ μ : Mem} {n mb : Nat} {x y z w : Int32}
theorem sm_lt {a b : Int32} (ha : -1000 ≤ a.toInt ∧ a.toInt ≤ 1000) (hb : -1000 ≤ b.toInt ∧ b.toInt ≤ 1000) : (a - b).toInt = a.toInt - b.toInt := by
  rw [Int32.toInt_sub]; exact bmod_s (by omega) (by omega)
theorem sm_0 {a b : Int32} (ha : -1000 ≤ a.toInt ∧ a.toInt ≤ 1000) (hb : -1000 ≤ b.toInt ∧ b.toInt ≤ 1000) : (0 < a - b ↔ b < a) ∧ (a - b = 0 ↔ a = b) := by
  have e := sm_lt ha hb
  constructor
  · rw [Int32.lt_iff_toInt_lt, Int32.lt_iff_toInt_lt, e]
    show (0 : Int) < _ ↔ _
    omega
  · constructor
    · intro h
      have := congrArg Int32.toInt h
      rw [e] at this
      exact Int32.toInt_inj.mp (by have h0 : (0 : Int32).toInt = 0 := rfl; omega)
    · intro h; rw [h, Int32.sub_self]
theorem okN_i {x : Int32} (h : okN x) : 0 ≤ x.toInt ∧ x.toInt ≤ 9 := by
  obtain ⟨k, hk, rfl⟩ := h
  rw [nI_toInt (by omega)]; omega
theorem q_hold (hw : WF (μ 277) n mb) (hg : HR σ 1 (μ 277)) : hB σ x = one1 μ x := by
  unfold hB
  rw [hg.1.1]; exact hold_one hw.1.1 hw.1.2.1 x
theorem q_holb (hw : WF (μ 277) n mb) (hg : HR σ 1 (μ 277)) : holdB x (σ (1 + 15) 4) = mn1 μ x := by
  rw [hg.2.2.1.1]; exact hold_rng hw.1.2.2.1 hw.1.2.2.2.1 x
theorem q_p (hw : WF (μ 277) n mb) (h : ¬ one1 μ x = 0) : tN x < n ∧ tN x < 6 := by
  have := rngN (n := n) h hw.1.1 (by have := hw.1.2.1; omega)
  exact ⟨this.2, by have := hw.1.2.1; omega⟩
theorem q_b (hw : WF (μ 277) n mb) (h : ¬ mn1 μ x = 0) : tN x < mb ∧ tN x < 6 := by
  have := rngN (n := mb) h hw.1.2.2.1 (by have := hw.1.2.2.2.1; omega)
  exact ⟨this.2, by have := hw.1.2.2.2.1; omega⟩
/-- the questions of one person -/
theorem q_np (hw : WF (μ 277) n mb) (hg : HR σ 1 (μ 277)) : npT σ x = (if one1 μ x = 0 then 1 else 0) := by unfold npT; rw [q_hold hw hg]
theorem q_1 {v v' : Int32} (hw : WF (μ 277) n mb) (hg : HR σ 1 (μ 277)) (he : tN x < n → tN x < 6 → v = v') (h0 : npT σ x = 0) : v = qV μ x v' := by
  rw [q_np hw hg] at h0
  by_cases c : one1 μ x = 0
  · rw [if_pos c] at h0; exact absurd h0 (by decide)
  · unfold qV; rw [if_neg c]; exact he (q_p hw c).1 (q_p hw c).2
theorem q_lean (hg : HR σ 1 (μ 277)) {p : Nat} (hp : p < 6) : sgnV (σ (1 + 1 + 1) p) 0 = sdR (μ 277) p := by
  unfold sdR; rw [show σ (1 + 1 + 1) p = _ from (hg.1.2 p hp).1]
theorem foR_e (hw : WF (μ 277) n mb) (hg : HR σ 1 (μ 277)) {p : Nat} (hp : p < 6) : cntR (σ (1 + 1 + 7 + p)) n = foR (μ 277) n p := by
  have hn := hw.1.2.1
  unfold cntR foR
  refine fo_e n (fun q hq => ?_)
  funext a
  rw [show σ (1 + 1 + 7 + p) q = _ from (hg.1.2 p hp).2.2.2 q (by omega)]
  obtain ⟨k, hk, e⟩ := hw.1.2.2.2.2.2.1 p q hp (by omega)
  rw [e]
  by_cases c : k = 0
  · subst c; rw [if_pos (by decide), if_pos (by decide)]
  · rw [if_neg (nI_ne0 (by omega) (by omega)), if_neg (nI_nle (by omega) (by omega))]
theorem q_pof (hw : WF (μ 277) n mb) (hg : HR σ 1 (μ 277)) : pofXT σ x y = pofT μ x y ∧ (pofXT σ x y = 0 → pofX σ n x y = pofV μ n x y) := by
  unfold pofXT pofT
  rw [q_hold hw hg]
  refine ⟨rfl, fun h0 => ?_⟩
  by_cases c : one1 μ x = 0
  · rw [if_pos c] at h0; exact absurd h0 (by decide)
  · rw [if_neg c] at h0
    obtain ⟨p1, p2⟩ := q_p hw c
    obtain ⟨a1, a2, a3, a4⟩ := hg.1.2 _ p2
    obtain ⟨b1, b2⟩ := hg.2.1 _ p2
    have e3 : (if σ (1 + 1 + 3) (tN x) = 0 then (0 : Int32) else 1) = μ 277 (6 + 5 * tN x + 2) := by
      rw [show σ (1 + 1 + 3) (tN x) = _ from a3]
      rcases hw.2.1 _ p2 with e | e <;> rw [e] <;> decide
    unfold pofX pofV
    rw [if_neg c, e3, show σ (1 + 1 + 1) (tN x) = _ from a1, show σ (1 + 1 + 2) (tN x) = _ from a2, show σ (1 + 1 + 4) (tN x) = _ from b1, show σ (1 + 1 + 5) (tN x) = _ from b2, foR_e hw hg p2, pr_wt hg.1 hw.1.2.1 p2, ← a2]
    have e4 : stepV (σ (1 + 1 + 2) (tN x)) (σ (1 + 1 + 3) (tN x)) = stR (μ 277) (tN x) := pr_step hg.1 hw.2.1 p2
    rw [e4]
    by_cases c7 : y = 7
    · rw [if_pos c7]
    · rw [if_neg c7] at h0 ⊢
      by_cases c0 : y = 0
      · rw [if_pos c0, if_pos c0]
      rw [if_neg c0] at h0 ⊢; rw [if_neg c0]
      by_cases c1 : y = 1
      · rw [if_pos c1, if_pos c1]
      rw [if_neg c1] at h0 ⊢; rw [if_neg c1]
      by_cases c2 : y = 2
      · rw [if_pos c2, if_pos c2]
      rw [if_neg c2] at h0 ⊢; rw [if_neg c2]
      by_cases c3 : y = 3
      · rw [if_pos c3, if_pos c3]
      rw [if_neg c3] at h0 ⊢; rw [if_neg c3]
      by_cases c4 : y = 4
      · rw [if_pos c4, if_pos c4]
      rw [if_neg c4] at h0 ⊢; rw [if_neg c4]
      by_cases c5 : y = 5
      · rw [if_pos c5, if_pos c5]
      rw [if_neg c5] at h0 ⊢; rw [if_neg c5]
      by_cases c6 : y = 6
      · rw [if_pos c6, if_pos c6]
      rw [if_neg c6] at h0
      exact absurd h0 (by decide)
theorem q_wgt (hw : WF (μ 277) n mb) (hg : HR σ 1 (μ 277)) : wgtXT σ x y = wgT μ x y ∧ (wgtXT σ x y = 0 → σ (1 + 1 + 7 + tN x) (tN y) = wgV μ x y) := by
  unfold wgtXT wgT wgV
  rw [q_hold hw hg, q_hold hw hg]
  refine ⟨rfl, fun h0 => ?_⟩
  by_cases c : one1 μ x = 0
  · rw [if_pos c] at h0; exact absurd h0 (by decide)
  · rw [if_neg c] at h0 ⊢
    by_cases d : one1 μ y = 0
    · rw [if_pos d] at h0; exact absurd h0 (by decide)
    · rw [if_neg d]
      exact (hg.1.2 _ (q_p hw c).2).2.2.2 _ (q_p hw d).2
theorem bm_e (hw : WF (μ 277) n mb) (hg : HR σ 1 (μ 277)) {b : Nat} (hb : b < mb) : σ (1 + 15 + 1) b = μ 277 (72 + 4 * b + 0) ∧ σ (1 + 15 + 2) b = μ 277 (72 + 4 * b + 1) ∧ σ (1 + 15 + 3) b = μ 277 (72 + 4 * b + 2) ∧ σ (1 + 15 + 4) b = μ 277 (72 + 4 * b + 3) := by
  have e : tN (μ 277 1) = mb := by rw [hw.1.2.2.1]; exact tN_nI (by have := hw.1.2.2.2.1; omega)
  have k := hg.2.2.1.2 b (by omega)
  exact ⟨k 0 (by omega), k 1 (by omega), k 2 (by omega), k 3 (by omega)⟩
theorem df_e (hw : WF (μ 277) n mb) (hg : HR σ 1 (μ 277)) {b : Nat} (hb : b < mb) : diffB σ (1 + 15) (1 + 1) b = apR (μ 277) b := by
  obtain ⟨k0, k1, -, -⟩ := bm_e hw hg hb
  obtain ⟨⟨o1, o2⟩, o3, o4⟩ := hw.1.2.2.2.2.2.2 b hb
  unfold diffB apR
  rw [k0, k1]
  have f0 : ∀ x : Int32, x.toNatClampNeg = tN x := fun _ => rfl
  rw [f0, f0, (hg.1.2 _ o2).1, (hg.1.2 _ o4).1]
theorem q_bof (hw : WF (μ 277) n mb) (hg : HR σ 1 (μ 277)) : bofXT σ x y = bofT μ x y ∧ (bofXT σ x y = 0 → bofX σ x y = bofV μ x y) := by
  unfold bofXT bofT bofV bofX
  rw [q_holb hw hg]
  by_cases c : mn1 μ x = 0
  · rw [if_pos c, if_pos c]; exact ⟨rfl, fun h0 => absurd h0 (by decide)⟩
  · rw [if_neg c, if_neg c, if_neg c]
    obtain ⟨b1, b2⟩ := q_b hw c
    obtain ⟨k0, k1, k2, k3⟩ := bm_e hw hg b1
    rw [k0, k1, k2, k3, df_e hw hg b1]
    by_cases c0 : y = 0
    · subst c0; exact ⟨by decide, fun _ => by rw [if_pos rfl, if_neg (by decide), if_neg (by decide)]; rfl⟩
    by_cases c1 : y = 1
    · subst c1; exact ⟨by decide, fun _ => by rw [if_neg (by decide), if_pos rfl, if_neg (by decide), if_neg (by decide)]; rfl⟩
    by_cases c2 : y = 2
    · subst c2; exact ⟨by decide, fun _ => by rw [if_neg (by decide), if_neg (by decide), if_pos rfl, if_neg (by decide), if_neg (by decide)]; rfl⟩
    by_cases c3 : y = 3
    · subst c3; exact ⟨by decide, fun _ => by rw [if_neg (by decide), if_neg (by decide), if_neg (by decide), if_pos rfl, if_neg (by decide), if_neg (by decide)]; rfl⟩
    by_cases c4 : y = 4
    · subst c4; exact ⟨by decide, fun _ => by rw [if_neg (by decide), if_neg (by decide), if_neg (by decide), if_neg (by decide), if_neg (by decide), if_pos rfl]⟩
    rw [if_neg c0, if_neg c1, if_neg c2, if_neg c3, if_neg c4]
    refine ⟨?_, fun h0 => absurd h0 (by decide)⟩
    rw [if_pos]
    by_cases d : rngB y 0 4 = 0
    · exact d
    · obtain ⟨y1, y2⟩ := rngL (n := 4) d rfl (by decide)
      rcases (show tN y = 0 ∨ tN y = 1 ∨ tN y = 2 ∨ tN y = 3 ∨ tN y = 4 by omega) with e | e | e | e | e <;> rw [e] at y1
      · exact absurd y1 c0
      · exact absurd y1 c1
      · exact absurd y1 c2
      · exact absurd y1 c3
      · exact absurd y1 c4
theorem q_fce (hw : WF (μ 277) n mb) (hg : HR σ 1 (μ 277)) : fceXT σ x y = fceT μ x y ∧ (fceXT σ x y = 0 → facXF σ x y = fceV μ x y) := by
  unfold fceXT fceT fceV facXF
  rw [q_hold hw hg]
  refine ⟨rfl, fun h0 => ?_⟩
  by_cases c : one1 μ x = 0
  · rw [if_pos c] at h0; exact absurd h0 (by decide)
  · rw [if_neg c] at h0 ⊢
    by_cases d : rngB y 1 9 = 0
    · rw [if_pos d] at h0; exact absurd h0 (by decide)
    · rw [if_neg d, show σ (1 + 1 + 2) (tN x) = _ from (hg.1.2 _ (q_p hw c).2).2.1]
      exact mxI_c _ _
theorem q_fac (hw : WF (μ 277) n mb) (hg : HR σ 1 (μ 277)) : facXT σ x y = facT μ x y ∧ (facXT σ x y = 0 → facX σ x y = facV μ x y) := by
  unfold facXT facT facV facX facXF facXA
  rw [q_hold hw hg]
  by_cases c : one1 μ x = 0
  · rw [if_pos c, if_pos c]; exact ⟨rfl, fun h0 => absurd h0 (by decide)⟩
  · rw [if_neg c, if_neg c, if_neg c]
    by_cases d : rngB y 1 9 = 0
    · rw [if_pos d, if_pos d]; exact ⟨rfl, fun h0 => absurd h0 (by decide)⟩
    · rw [if_neg d, if_neg d, if_neg d]
      obtain ⟨p1, p2⟩ := q_p hw c
      obtain ⟨a1, a2, -, -⟩ := hg.1.2 _ p2
      rw [show σ (1 + 1 + 1) (tN x) = _ from a1, show σ (1 + 1 + 2) (tN x) = _ from a2, show forceV y (μ 277 (6 + 5 * tN x + 1)) = frR (μ 277) (tN x) y from mxI_c _ _]
      obtain ⟨a, ha, ea⟩ := ab_tI (hw.2.2.1 _ p2)
      obtain ⟨b, hb, eb⟩ := fr_n (y := y) (hw.1.2.2.2.2.1 _ p2) d
      unfold atR
      rw [ea, eb]
      by_cases e : a = 0
      · subst e
        rw [if_pos (by decide), if_pos (by decide), if_pos (by decide), if_pos (by decide)]
        refine ⟨rfl, fun _ => ?_⟩
        have key : ∀ b, b ≤ 9 → (0 : Int32) = nI (fcR (nI b) (nI 0) 40 0) := by decide +kernel
        exact key b hb
      · have a3 : ¬ nI a = 0 := nI_ne0 (by omega) (by omega)
        have a4 : ¬ nI a ≤ 0 := nI_nle (by omega) (by omega)
        simp only [a3, a4, ↓reduceIte]
        by_cases f : b = 0
        · subst f
          have b3 : ¬ (1 : Int32) ≤ nI 0 := by decide
          simp only [b3, nI_0, ↓reduceIte]
          exact ⟨rfl, fun h0 => absurd h0 (by decide)⟩
        · have b3 : (1 : Int32) ≤ nI b := nI_le (a := 1) (by omega) (by omega)
          have b4 : ¬ nI b = 0 := nI_ne0 (by omega) (by omega)
          simp only [b3, b4, ↓reduceIte]
          refine ⟨trivial, fun _ => ?_⟩
          have key : ∀ a, a ≤ 20 → ∀ b, b ≤ 9 → ¬ b = 0 → (nI a + nI b - 1) / nI b = nI (fcR (nI b) (nI a) 40 0) := by decide +kernel
          exact key a ha b hb f
theorem fac_hz (hw : WF (μ 277) n mb) (d : ¬ rngB y 1 9 = 0) : ∀ p, p < 6 → ¬ frR (μ 277) p y = 0 → atR (μ 277) p ≤ nI 40 * frR (μ 277) p y := fun p hp hne => by
  obtain ⟨a, ha, ea⟩ := ab_tI (hw.2.2.1 p hp)
  obtain ⟨b, hb, eb⟩ := fr_n (y := y) (hw.1.2.2.2.2.1 p hp) d
  unfold atR
  rw [ea, eb, pk_mul]
  refine nI_le ?_ (by omega)
  by_cases f : b = 0
  · subst f; rw [eb] at hne; exact absurd nI_0 hne
  · have : 40 * 1 ≤ 40 * b := Nat.mul_le_mul_left 40 (by omega)
    omega
theorem q_tin {h : Nat → Int32} (hw : WF (μ 277) n mb) (hg : HR σ 1 (μ 277)) : tinXT σ x y = tinT μ x y ∧ (tinXT σ x y = 0 → (goK (μ 277) n mb (tN y)).1 (6 + 5 * tN x + 0) = tinV μ n mb x y) := by
  unfold tinXT tinT tinV
  rw [q_hold hw hg]
  by_cases c : one1 μ x = 0
  · rw [if_pos c, if_pos c]; exact ⟨rfl, fun h0 => absurd h0 (by decide)⟩
  · rw [if_neg c, if_neg c, if_neg c]
    unfold rngB
    by_cases a : y < 0
    · rw [if_pos a, if_pos a, if_pos rfl]; exact ⟨rfl, fun h0 => absurd h0 (by decide)⟩
    · rw [if_neg a, if_neg a]
      by_cases b : 30 < y
      · rw [if_neg (Int32.not_le.mpr b), if_pos b, if_pos rfl]; exact ⟨rfl, fun h0 => absurd h0 (by decide)⟩
      · rw [if_pos (Int32.not_lt.mp b), if_neg b, if_neg (by decide)]; exact ⟨rfl, fun _ => by rw [if_neg (by decide)]⟩
theorem q_rst : rstXT (μ 277) n mb = rstiT (μ 277) n mb ∧ (rstXT (μ 277) n mb = 0 → nI (rsR (μ 277) n mb 100 0) = rstiV (μ 277) n mb) := by
  refine ⟨rfl, fun h0 => ?_⟩
  unfold rstXT at h0
  unfold rstiV
  by_cases a : n = 0
  · rw [if_pos a] at h0; exact absurd h0 (by decide)
  · rw [if_neg a] at h0 ⊢
    by_cases b : 99 < rsR (μ 277) n mb 100 0
    · rw [if_pos b] at h0; exact absurd h0 (by decide)
    · rw [if_neg b]
end QAS

/-! a house of the class and a row of the reference tell the same; they stay so in each change -/
def tI (x : Int32) : Prop := -20 ≤ x.toInt ∧ x.toInt ≤ 20
/-- what a beam of a row is, in full -/
def BmW (h : Nat → Int32) (n mb : Nat) : Prop := ∀ b, b < mb → (tN (h (72 + 4 * b + 0)) < tN (h (72 + 4 * b + 1)) ∧ tN (h (72 + 4 * b + 1)) < n) ∧ (∃ k, k ≤ 40 ∧ h (72 + 4 * b + 2) = nI k) ∧ (∃ k, k ≤ 2 ∧ h (72 + 4 * b + 3) = nI k) ∧ ∀ a, a < b → ¬ (h (72 + 4 * a + 0) = h (72 + 4 * b + 0) ∧ h (72 + 4 * a + 1) = h (72 + 4 * b + 1))
/-- a row, well made in full -/
def WF (h : Nat → Int32) (n mb : Nat) : Prop := RowOK h n mb ∧ SB h ∧ (∀ p, p < 6 → tI (h (6 + 5 * p + 0))) ∧ (∀ p q, p < 6 → q < 6 → h (36 + 6 * p + q) = h (36 + 6 * q + p)) ∧ (∀ p, p < 6 → h (36 + 6 * p + p) = 0) ∧
  (∀ p, n ≤ p → p < 6 → ∀ w, w < 5 → h (6 + 5 * p + w) = 0) ∧ (∀ p q, p < 6 → q < 6 → n ≤ p ∨ n ≤ q → h (36 + 6 * p + q) = 0) ∧ BmW h n mb ∧ h 3 = sumR (fun p => h (6 + 5 * p + 3)) 0 6
def HR (τ : Mem) (hb : Nat) (h : Nat → Int32) : Prop := PRel τ (hb + 1) h ∧ (∀ p, p < 6 → τ (hb + 1 + 4) p = h (6 + 5 * p + 3) ∧ τ (hb + 1 + 5) p = h (6 + 5 * p + 4)) ∧ BRel τ (hb + 15) h ∧ τ hb 2 = h 2 ∧ τ hb 3 = h 4 ∧ τ hb 4 = h 5
theorem HR_c {σ τ : Mem} {hb : Nat} {h : Nat → Int32} (e : ∀ c, hb ≤ c → c < hb + 20 → τ c = σ c) (g : HR σ hb h) : HR τ hb h := by
  obtain ⟨⟨g0, g1⟩, g2, ⟨g3, g4⟩, g5, g6, g7⟩ := g
  refine ⟨⟨by rw [e _ (by omega) (by omega)]; exact g0, fun p hp => ?_⟩, fun p hp => ?_, ⟨by rw [e _ (by omega) (by omega)]; exact g3, fun b hb' w hw => by rw [e _ (by omega) (by omega)]; exact g4 b hb' w hw⟩, ?_, ?_, ?_⟩
  · rw [e _ (by omega) (by omega), e (hb + 1 + 2) (by omega) (by omega), e (hb + 1 + 3) (by omega) (by omega), e (hb + 1 + 7 + p) (by omega) (by omega)]
    exact g1 p hp
  · rw [e _ (by omega) (by omega), e (hb + 1 + 5) (by omega) (by omega)]; exact g2 p hp
  · rw [e _ (by omega) (by omega)]; exact g5
  · rw [e _ (by omega) (by omega)]; exact g6
  · rw [e _ (by omega) (by omega)]; exact g7
theorem HR_hok {σ : Mem} {hb n mb : Nat} {h : Nat → Int32} (w : WF h n mb) (g : HR σ hb h) (z : ZB σ (hb + 1 + 3)) : HOK σ hb n mb := by
  obtain ⟨⟨r0, r1, r2, r3, r4, r5, r6⟩, -⟩ := w
  have e1 : tN (h 1) = mb := by rw [r2]; exact tN_nI (by omega)
  refine ⟨g.1.1.trans r0, r1, ⟨g.2.2.1.1.trans r2, r3, fun q hq => ?_⟩, z⟩
  have k0 := g.2.2.1.2 q (by omega) 0 (by omega)
  have k1 := g.2.2.1.2 q (by omega) 1 (by omega)
  obtain ⟨o1, o2⟩ := r6 q hq
  exact ⟨by rw [show σ (hb + 15 + 1) q = _ from k0]; exact o1, by rw [show σ (hb + 15 + 2) q = _ from k1]; exact o2⟩
/-- what a change left: refused with its reason, or done with its answer -/
def StR (τ : Mem) (hb cb : Nat) (t : StT) : Prop := HR τ hb t.2.1 ∧ (∃ n mb, WF t.2.1 n mb) ∧ ((t.1 = 0 ∧ ¬ t.2.2.2.1 = 0 ∧ τ cb 5 = t.2.2.2.1 ∧ τ cb 6 = t.2.2.2.2) ∨ (t.1 = 1 ∧ τ cb 5 = 0 ∧ τ cb 4 = t.2.2.1))
theorem StR_r {σ : Mem} {hb cb n mb : Nat} {h : Nat → Int32} {w d : Int32} (wf : WF h n mb) (g : HR σ hb h) (hcb : hb + 20 ≤ cb) (hw : ¬ w = 0) : StR (refM σ cb w d) hb cb (rfs h w d) :=
  ⟨HR_c (fun c h1 h2 => refM_c (by omega)) g, ⟨n, mb, wf⟩, Or.inl ⟨rfl, hw, by unfold refM; simp [sg_at]; rfl, by unfold refM; rw [sg_ss]; rfl⟩⟩
theorem StR_o {σ : Mem} {hb cb n mb : Nat} {h : Nat → Int32} {a : Int32} (wf : WF h n mb) (g : HR σ hb h) (hcb : hb + 20 ≤ cb) (h5 : σ cb 5 = 0) : StR (sg σ cb 4 a) hb cb (oks h a) :=
  ⟨HR_c (fun c h1 h2 => sg_n (by omega)) g, ⟨n, mb, wf⟩, Or.inr ⟨rfl, by simp [sg_at]; exact h5, by rw [sg_ss]; rfl⟩⟩
theorem hold_one {h : Nat → Int32} {n : Nat} (hn : h 0 = nI n) (hn6 : n ≤ 6) (x : Int32) : holdB x (h 0) = oneH h x := by
  unfold holdB oneH rngB
  by_cases c : x < 0
  · rw [if_pos c, if_pos c]
  · rw [if_neg c, if_neg c, hn]
    obtain ⟨j, hj, rfl⟩ := nI_of c
    by_cases d : n ≤ j
    · rw [if_pos ((nI_leI (by omega) hj).mpr d), if_pos]
      rcases Nat.eq_zero_or_pos n with z | z
      · subst z
        exact Int32.lt_of_lt_of_le (show (nI 0 - 1 : Int32) < 0 by decide) (nI_pos' hj)
      · rw [show (1 : Int32) = nI 1 from rfl, pk_sub (by omega)]
        exact (nI_ltI (by omega) hj).mpr (by omega)
    · rw [if_neg (fun q => d ((nI_leI (by omega) hj).mp q)), if_neg]
      rw [show (1 : Int32) = nI 1 from rfl, pk_sub (by omega)]
      exact fun q => by have := (nI_ltI (by omega) hj).mp q; omega
theorem com_e {h : Nat → Int32} {n : Nat} {x b : Int32} (hz : ∀ w, w < 5 → h (6 + 5 * n + w) = 0) (j : Nat) : upd (upd (comR h n 5) (6 + 5 * n + 0) x) (6 + 5 * n + 2) b j = if j = 0 then nI (n + 1) else if j = 6 + 5 * n + 0 then x else if j = 6 + 5 * n + 2 then b else h j := by
  by_cases a : j = 6 + 5 * n + 2
  · subst a; rw [pk_us, if_neg (by omega), if_neg (by omega), if_pos rfl]
  · rw [pk_un a]
    by_cases c : j = 6 + 5 * n + 0
    · subst c; rw [pk_us, if_neg (by omega), if_pos rfl]
    · rw [pk_un c, if_neg c, if_neg a]
      unfold comR putR
      by_cases d : 6 + 5 * n ≤ j ∧ j < 6 + 5 * n + 5
      · have := hz (j - (6 + 5 * n)) (by omega)
        rw [show 6 + 5 * n + (j - (6 + 5 * n)) = j by omega] at this
        rw [if_pos d, if_neg (by omega), this]
      · rw [if_neg d]
        by_cases f : j = 0
        · subst f; rw [if_pos rfl]; exact pk_us
        · rw [if_neg f, pk_un f]
theorem rng_tI {x : Int32} (h : ¬ rngB x (-20) 20 = 0) : tI x := by
  unfold rngB at h
  by_cases a : x < -20
  · rw [if_pos a] at h; exact absurd rfl h
  · rw [if_neg a] at h
    by_cases b : 20 < x
    · rw [if_pos b] at h; exact absurd rfl h
    · have a2 := Int32.le_iff_toInt_le.mp (Int32.not_lt.mp a)
      have b2 := Int32.le_iff_toInt_le.mp (Int32.not_lt.mp b)
      exact ⟨a2, b2⟩
section LK
variable {σ : Mem} {hb cb n mb : Nat} {h : Nat → Int32} {x y z : Int32}
theorem WF.adm {b : Int32} (w : WF h n mb) (hn : n < 6) (hx : tI x) (hb1 : b = 0 ∨ b = 1) : WF (upd (upd (comR h n 5) (6 + 5 * n + 0) x) (6 + 5 * n + 2) b) (n + 1) mb := by
  obtain ⟨⟨r0, r1, r2, r3, r4, r5, r6⟩, w1, w2, w3, w4, w5, w6, w7, w8⟩ := w
  have E := com_e (x := x) (b := b) (w5 n (Nat.le_refl _) hn)
  generalize upd (upd (comR h n 5) (6 + 5 * n + 0) x) (6 + 5 * n + 2) b = r at E
  have hi : ∀ j, j = 1 ∨ j = 3 ∨ 36 ≤ j → r j = h j := fun j hj => by rw [E, if_neg (by omega), if_neg (by omega), if_neg (by omega)]
  have ho : ∀ p w, w < 5 → w ≠ 0 → w ≠ 2 → r (6 + 5 * p + w) = h (6 + 5 * p + w) := fun p w h1 h2 h3 => by rw [E, if_neg (by omega), if_neg (by omega), if_neg (by omega)]
  refine ⟨⟨by rw [E, if_pos rfl], by omega, by rw [hi 1 (Or.inl rfl)]; exact r2, r3, fun p hp => by rw [ho p 1 (by omega) (by omega) (by omega)]; exact r4 p hp, fun p q hp hq => by rw [hi _ (by omega)]; exact r5 p q hp hq, fun q hq => okB_c (fun w hw => hi _ (by omega)) (r6 q hq)⟩, fun p hp => ?_, fun p hp => ?_, fun p q hp hq => by rw [hi _ (by omega), hi _ (by omega)]; exact w3 p q hp hq, fun p hp => by rw [hi _ (by omega)]; exact w4 p hp, fun p h1 hp w hw => ?_, fun p q hp hq h1 => by rw [hi _ (by omega)]; exact w6 p q hp hq (by omega), fun b hb => ?_, ?_⟩
  · by_cases c : p = n
    · subst c; rw [E, if_neg (by omega), if_neg (by omega), if_pos rfl]; exact hb1
    · rw [E, if_neg (by omega), if_neg (by omega), if_neg (by omega)]; exact w1 p hp
  · by_cases c : p = n
    · subst c; rw [E, if_neg (by omega), if_pos rfl]; exact hx
    · rw [E, if_neg (by omega), if_neg (by omega), if_neg (by omega)]; exact w2 p hp
  · rw [E, if_neg (by omega), if_neg (by omega), if_neg (by omega)]; exact w5 p (by omega) hp w hw
  · obtain ⟨⟨b1, b2⟩, b3, b4, b5⟩ := w7 b hb
    rw [hi _ (by omega), hi _ (by omega), hi _ (by omega), hi _ (by omega)]
    exact ⟨⟨b1, by omega⟩, b3, b4, fun a ha => by rw [hi _ (by omega), hi _ (by omega)]; exact b5 a ha⟩
  · rw [hi 3 (by omega), w8]
    exact sumR_e 6 (fun q hq => (ho q 3 (by omega) (by omega) (by omega)).symm)
theorem car_adm {b : Int32} (w : WF h n mb) (g : HR σ hb h) (hcb : hb + 20 ≤ cb) (h5 : σ cb 5 = 0) (hx : σ cb 1 = x) (hb1 : b = 0 ∨ b = 1) : StR (admM σ hb n cb b) hb cb (stCom h n x b) := by
  unfold admM stCom
  rw [hx]
  by_cases c1 : rngB x (-20) 20 = 0
  · rw [if_pos c1, if_pos c1]; exact StR_r w g hcb (by decide)
  · rw [if_neg c1, if_neg c1]
    by_cases c2 : n = 6
    · rw [if_pos c2, if_pos c2]; exact StR_r w g hcb (by decide)
    · rw [if_neg c2, if_neg c2]
      have hn : n < 6 := by have := w.1.2.1; omega
      refine StR_o (w.adm hn (rng_tI c1) hb1) ?_ hcb (by rw [sg_n (by omega), sg_n (by omega), sg_n (by omega)]; exact h5)
      have E := com_e (x := x) (b := b) (w.2.2.2.2.2.1 n (Nat.le_refl _) hn)
      generalize upd (upd (comR h n 5) (6 + 5 * n + 0) x) (6 + 5 * n + 2) b = r at E
      obtain ⟨⟨g0, g1⟩, g2, ⟨g3, g4⟩, g6, g7, g8⟩ := g
      have hi : ∀ j, (1 ≤ j ∧ j < 6) ∨ 36 ≤ j → r j = h j := fun j hj => by rw [E, if_neg (by omega), if_neg (by omega), if_neg (by omega)]
      have ho : ∀ p w, w < 5 → w ≠ 0 → w ≠ 2 → r (6 + 5 * p + w) = h (6 + 5 * p + w) := fun p w h1 h2 h3 => by rw [E, if_neg (by omega), if_neg (by omega), if_neg (by omega)]
      refine ⟨⟨by rw [sg_ss, E, if_pos rfl], fun p hp => ⟨?_, ?_, ?_, fun q hq => ?_⟩⟩, fun p hp => ⟨?_, ?_⟩, ⟨?_, fun b' hb' w' hw' => ?_⟩, ?_, ?_, ?_⟩
      · rw [sg_n (by omega), sg_n (by omega), sg_at]
        by_cases c : p = n
        · rw [if_pos ⟨rfl, c⟩, c, E, if_neg (by omega), if_pos rfl]
        · rw [if_neg (fun q => c q.2), E, if_neg (by omega), if_neg (by omega), if_neg (by omega)]; exact (g1 p hp).1
      · rw [sg_n (by omega), sg_n (by omega), sg_n (by omega), ho p 1 (by omega) (by omega) (by omega)]; exact (g1 p hp).2.1
      · rw [sg_n (by omega), sg_at]
        by_cases c : p = n
        · rw [if_pos ⟨rfl, c⟩, c, E, if_neg (by omega), if_neg (by omega), if_pos rfl]
        · rw [if_neg (fun q => c q.2), sg_n (by omega), E, if_neg (by omega), if_neg (by omega), if_neg (by omega)]; exact (g1 p hp).2.2.1
      · rw [sg_n (by omega), sg_n (by omega), sg_n (by omega), hi _ (by omega)]; exact (g1 p hp).2.2.2 q hq
      · rw [sg_n (by omega), sg_n (by omega), sg_n (by omega), ho p 3 (by omega) (by omega) (by omega)]; exact (g2 p hp).1
      · rw [sg_n (by omega), sg_n (by omega), sg_n (by omega), ho p 4 (by omega) (by omega) (by omega)]; exact (g2 p hp).2
      · rw [sg_n (by omega), sg_n (by omega), sg_n (by omega), hi 1 (by omega)]; exact g3
      · rw [sg_n (by omega), sg_n (by omega), sg_n (by omega), hi _ (by omega)]; exact g4 b' (by rw [← hi 1 (by omega)]; exact hb') w' hw'
      · rw [sg_n (by omega), sg_n (by omega), sg_n (by omega), hi 2 (by omega)]; exact g6
      · rw [sg_n (by omega), sg_n (by omega), sg_n (by omega), hi 4 (by omega)]; exact g7
      · rw [sg_n (by omega), sg_n (by omega), sg_n (by omega), hi 5 (by omega)]; exact g8
end LK

/-! persons: the class's blocks and the reference's row tell the same -/
/-- the persons' part of a row, as block pb holds it -/
def PRel (τ : Mem) (pb : Nat) (h : Nat → Int32) : Prop :=
  τ pb 7 = h 0 ∧ ∀ p, p < 6 → τ (pb + 1) p = h (6 + 5 * p + 0) ∧ τ (pb + 2) p = h (6 + 5 * p + 1) ∧ τ (pb + 3) p = h (6 + 5 * p + 2) ∧ ∀ q, q < 6 → τ (pb + 7 + p) q = h (36 + 6 * p + q)
def SB (h : Nat → Int32) : Prop := ∀ p, p < 6 → h (6 + 5 * p + 2) = 0 ∨ h (6 + 5 * p + 2) = 1
theorem sumR_a {f : Nat → Int32} {a : Int32} : ∀ n, sumR f a n = a + sumR f 0 n
  | 0 => by show a = a + 0; rw [Int32.add_zero]
  | n + 1 => by
    show sumR f a n + f n = a + (sumR f 0 n + f n)
    rw [sumR_a n, Int32.add_assoc]
theorem sumR_e {f g : Nat → Int32} {a : Int32} : ∀ n, (∀ q, q < n → f q = g q) → sumR f a n = sumR g a n
  | 0, _ => rfl
  | n + 1, h => by
    show sumR f a n + f n = sumR g a n + g n
    rw [sumR_e n (fun q hq => h q (by omega)), h n (by omega)]
theorem fo_e {α : Type} {f g : Nat → α → α} {a : α} : ∀ n, (∀ q, q < n → f q = g q) → fo f a n = fo g a n
  | 0, _ => rfl
  | n + 1, h => by
    show f n (fo f a n) = g n (fo g a n)
    rw [fo_e n (fun q hq => h q (by omega)), h n (by omega)]
theorem smI {x : Int32} (h1 : -10 ≤ x.toInt) (h2 : x.toInt ≤ 10) : ∃ j : Nat, j ≤ 20 ∧ x = nI j - nI 10 :=
  ⟨(x.toInt + 10).toNat, by omega, Int32.toInt_inj.mp (by rw [pk_sub_toInt (by omega) (by omega)]; omega)⟩
theorem st_nI {h : Nat → Int32} {n mb p : Nat} (r : RowOK h n mb) (hp : p < 6) : ∃ m, m ≤ 10 ∧ stR h p = nI m := by
  obtain ⟨k, hk, e⟩ := r.2.2.2.2.1 p hp
  unfold stR
  rw [e]
  have key : ∀ k, k ≤ 9 → (10 - nI k : Int32) = nI (10 - k) ∧ (10 - nI k : Int32) / 2 = nI ((10 - k) / 2) := by decide +kernel
  obtain ⟨e1, e2⟩ := key k hk
  split
  · exact ⟨_, by omega, e2⟩
  · exact ⟨_, by omega, e1⟩
theorem mv_b {h : Nat → Int32} {n mb p : Nat} (r : RowOK h n mb) (hp : p < 6) : -10 ≤ (mvR h n p).toInt ∧ (mvR h n p).toInt ≤ 10 := by
  obtain ⟨m, hm, e⟩ := st_nI r hp
  unfold mvR
  rw [e]
  have e1 : ∀ m, m ≤ 10 → (-nI m : Int32).toInt = -(m : Int) ∧ (nI m : Int32).toInt = (m : Int) := by decide +kernel
  obtain ⟨n1, n2⟩ := e1 m hm
  generalize mnR h n p - h (6 + 5 * p + 0) = z
  unfold mxI mnI
  by_cases a : z < nI m
  · rw [if_pos a]
    have a2 := Int32.lt_iff_toInt_lt.mp a
    by_cases b : -nI m < z
    · rw [if_pos b]
      have b2 := Int32.lt_iff_toInt_lt.mp b
      omega
    · rw [if_neg b]; omega
  · rw [if_neg a]
    split <;> omega
theorem ab_10 {x : Int32} (h : -10 ≤ x.toInt ∧ x.toInt ≤ 10) : 0 ≤ abI x := by
  obtain ⟨j, hj, rfl⟩ := smI h.1 h.2
  have key : ∀ j, j ≤ 20 → 0 ≤ abI (nI j - nI 10) := by decide +kernel
  exact key j hj
theorem mv_ab {h : Nat → Int32} {n mb p : Nat} (r : RowOK h n mb) (_ : SB h) (hp : p < 6) : 0 ≤ abI (mvR h n p) := ab_10 (mv_b r hp)
section PRS
variable {τ : Mem} {pb n mb : Nat} {h : Nat → Int32}
theorem pr_wt (g : PRel τ pb h) (hn : n ≤ 6) {p : Nat} (hp : p < 6) : sumR (τ (pb + 7 + p)) 0 n = wtR h n p :=
  sumR_e n (fun q hq => (g.2 p hp).2.2.2 q (by omega))
theorem pr_wsm (g : PRel τ pb h) (hn : n ≤ 6) {p : Nat} (hp : p < 6) : wsmV τ pb p n = msR h p n := by
  unfold wsmV msR
  rw [(g.2 p hp).1, (g.2 p hp).2.1]
  exact fo_e n (fun q hq => by funext a; rw [(g.2 q (by omega)).1, (g.2 p hp).2.2.2 q (by omega)])
theorem pr_mean (g : PRel τ pb h) (r : RowOK h n mb) {p : Nat} (hp : p < 6) : meanV τ pb n p = mnR h n p := by
  have hn := r.2.1
  have e : sumR (τ (pb + 7 + p)) (τ (pb + 2) p + 1) n = h (6 + 5 * p + 1) + 1 + wtR h n p := by
    rw [sumR_a, pr_wt g hn hp, (g.2 p hp).2.1]
  unfold meanV mnR
  rw [e, pr_wsm g hn hp, if_pos]
  obtain ⟨k, hk, ek⟩ := r.2.2.2.2.1 p hp
  obtain ⟨j, hj, ej⟩ := okN_sum (f := fun q => h (36 + 6 * p + q)) n (fun q hq => r.2.2.2.2.2.1 p q hp (by omega))
  have e2 : wtR h n p = nI j := ej
  rw [ek, e2, nI_1, nI_add]
  exact nI_le (a := 1) (by omega) (by omega)
theorem pr_step (g : PRel τ pb h) (s : SB h) {p : Nat} (hp : p < 6) : stepV (τ (pb + 2) p) (τ (pb + 3) p) = stR h p := by
  unfold stepV stR
  rw [(g.2 p hp).2.1, (g.2 p hp).2.2.1]
  rcases s p hp with e | e
  · rw [e, if_pos rfl, if_neg (by decide)]
  · rw [e, if_neg (by decide), if_pos rfl]
theorem pr_move (g : PRel τ pb h) (r : RowOK h n mb) (s : SB h) {p : Nat} (hp : p < 6) : moveV τ pb n p = mvR h n p := by
  unfold moveV mvR
  rw [pr_step g s hp, pr_mean g r hp, (g.2 p hp).1]
theorem mnI_c (x y : Int32) : mnI x y = mnI y x := by
  unfold mnI
  by_cases a : y < x
  · rw [if_pos a, if_neg (Int32.not_lt.mpr (Int32.le_of_lt a))]
  · rw [if_neg a]
    by_cases b : x < y
    · rw [if_pos b]
    · rw [if_neg b]; exact Int32.le_antisymm (Int32.not_lt.mp a) (Int32.not_lt.mp b)
theorem mxI_c (x y : Int32) : mxI x y = mxI y x := by
  unfold mxI
  by_cases a : x < y
  · rw [if_pos a, if_neg (Int32.not_lt.mpr (Int32.le_of_lt a))]
  · rw [if_neg a]
    by_cases b : y < x
    · rw [if_pos b]
    · rw [if_neg b]; exact Int32.le_antisymm (Int32.not_lt.mp b) (Int32.not_lt.mp a)
/-- one person's fields behind a round, the others' untouched -/
theorem gpS_at {mv r : Nat → Int32} {p q : Nat} : gpS mv p r (6 + 5 * q + 0) = (if q = p then r (6 + 5 * q + 0) + mv p else r (6 + 5 * q + 0)) ∧ gpS mv p r (6 + 5 * q + 1) = (if q = p then habV (r (6 + 5 * q + 1)) (abI (mv p)) else r (6 + 5 * q + 1)) ∧ gpS mv p r (6 + 5 * q + 2) = r (6 + 5 * q + 2) ∧ gpS mv p r (6 + 5 * q + 3) = r (6 + 5 * q + 3) ∧ gpS mv p r (6 + 5 * q + 4) = (if q = p then r (6 + 5 * q + 4) + abI (mv p) else r (6 + 5 * q + 4)) := by
  have key : ∀ j, j ≠ 6 + 5 * p + 1 → gpS mv p r j = gp2 mv p r j := fun j hj => by
    unfold gpS
    split
    · unfold gp3; split
      · rw [pk_un hj]
      · rfl
    · rw [pk_un hj]; unfold gp3; split
      · rw [pk_un hj]
      · rfl
  have k2 : ∀ j, j ≠ 6 + 5 * p + 0 → j ≠ 6 + 5 * p + 4 → gp2 mv p r j = r j := fun j h1 h2 => by
    unfold gp2 gp1; rw [pk_un h2, pk_un h1]
  have e1 : gp2 mv p r (6 + 5 * p + 1) = r (6 + 5 * p + 1) := k2 _ (by omega) (by omega)
  refine ⟨?_, ?_, ?_, ?_, ?_⟩
  · rw [key _ (by omega)]
    by_cases hq : q = p
    · subst hq
      rw [if_pos rfl]; unfold gp2; rw [pk_un (by omega)]; unfold gp1; exact pk_us
    · rw [if_neg hq, k2 _ (by omega) (by omega)]
  · by_cases hq : q = p
    · subst hq
      rw [if_pos rfl]
      unfold gpS habV
      by_cases a : abI (mv q) = 0
      · have a3 : abI (mv q) < 3 := by rw [a]; decide
        rw [if_pos a3, if_pos a]; unfold gp3; rw [if_pos a, pk_us, e1, mnI_c]
      · rw [if_neg a]
        by_cases b : abI (mv q) < 3
        · rw [if_pos b, if_pos b]; unfold gp3; rw [if_neg a, e1]
        · rw [if_neg b, if_neg b, pk_us]; unfold gp3; rw [if_neg a, e1, mxI_c]
    · rw [if_neg hq, key _ (by omega), k2 _ (by omega) (by omega)]
  · rw [key _ (by omega), k2 _ (by omega) (by omega)]
  · rw [key _ (by omega), k2 _ (by omega) (by omega)]
  · rw [key _ (by omega)]
    by_cases hq : q = p
    · subst hq
      rw [if_pos rfl]; unfold gp2; rw [pk_us]; unfold gp1; rw [pk_un (by omega)]
    · rw [if_neg hq, k2 _ (by omega) (by omega)]
theorem gpK_at {mv : Nat → Int32} {q : Nat} : ∀ k, gpK mv h k (6 + 5 * q + 0) = (if q < k then h (6 + 5 * q + 0) + mv q else h (6 + 5 * q + 0)) ∧ gpK mv h k (6 + 5 * q + 1) = (if q < k then habV (h (6 + 5 * q + 1)) (abI (mv q)) else h (6 + 5 * q + 1)) ∧ gpK mv h k (6 + 5 * q + 2) = h (6 + 5 * q + 2) ∧ gpK mv h k (6 + 5 * q + 3) = h (6 + 5 * q + 3) ∧ gpK mv h k (6 + 5 * q + 4) = (if q < k then h (6 + 5 * q + 4) + abI (mv q) else h (6 + 5 * q + 4))
  | 0 => ⟨by rw [if_neg (by omega)]; rfl, by rw [if_neg (by omega)]; rfl, rfl, rfl, by rw [if_neg (by omega)]; rfl⟩
  | k + 1 => by
    obtain ⟨a0, a1, a2, a3, a4⟩ := gpK_at (mv := mv) (q := q) k
    obtain ⟨b0, b1, b2, b3, b4⟩ := gpS_at (mv := mv) (r := gpK mv h k) (p := k) (q := q)
    have e : gpK mv h (k + 1) = gpS mv k (gpK mv h k) := rfl
    rw [e, b0, b1, b2, b3, b4, a0, a1, a2, a3, a4]
    by_cases c1 : q = k
    · subst c1
      refine ⟨?_, ?_, rfl, rfl, ?_⟩ <;> rw [if_pos rfl, if_neg (Nat.lt_irrefl q), if_pos (Nat.lt_succ_self q)]
    · have c3 : q < k + 1 ↔ q < k := ⟨fun z => by omega, fun z => by omega⟩
      refine ⟨?_, ?_, rfl, rfl, ?_⟩ <;> rw [if_neg c1] <;> by_cases c2 : q < k <;> simp only [c3, c2, ↓reduceIte]
theorem goR_lo (r : RowOK h n mb) {j : Nat} (hj : j < 72) (h1 : j ≠ 1) (h2 : j ≠ 2) (h4 : j ≠ 4) (h5 : j ≠ 5) : goR h n mb j = gpK (mvR h n) h n j := by
  obtain ⟨g0, g1, g2, g3, g4, g5, g6⟩ := r
  obtain ⟨a1, a2, a3, a4⟩ := gbw_ok mb (r := gpK (mvR h n) h n) (b := 0) (m := mb) (by omega) (by rw [gpK_out (by omega) n g1]; exact g2) g3 (fun q hq => okB_c (fun w hw => gpK_out (by omega) n g1) (g6 q hq))
  unfold goR
  rw [pk_un h2]
  exact a4 j hj h1 h4 h5
theorem goR_0 (r : RowOK h n mb) : goR h n mb 0 = h 0 := by
  rw [goR_lo r (by omega) (by omega) (by omega) (by omega) (by omega)]
  exact gpK_out (Or.inl (by omega)) n r.2.1
theorem goR_w (r : RowOK h n mb) {j : Nat} (h1 : 36 ≤ j) (h2 : j < 72) : goR h n mb j = h j := by
  rw [goR_lo r h2 (by omega) (by omega) (by omega) (by omega)]
  exact gpK_out (Or.inr h1) n r.2.1
theorem goR_p (r : RowOK h n mb) {q : Nat} (hq : q < 6) : goR h n mb (6 + 5 * q + 0) = (if q < n then h (6 + 5 * q + 0) + mvR h n q else h (6 + 5 * q + 0)) ∧ goR h n mb (6 + 5 * q + 1) = (if q < n then habV (h (6 + 5 * q + 1)) (abI (mvR h n q)) else h (6 + 5 * q + 1)) ∧ goR h n mb (6 + 5 * q + 2) = h (6 + 5 * q + 2) ∧ goR h n mb (6 + 5 * q + 3) = h (6 + 5 * q + 3) ∧ goR h n mb (6 + 5 * q + 4) = (if q < n then h (6 + 5 * q + 4) + abI (mvR h n q) else h (6 + 5 * q + 4)) := by
  rw [goR_lo r (by omega) (by omega) (by omega) (by omega) (by omega), goR_lo r (by omega) (by omega) (by omega) (by omega) (by omega), goR_lo r (by omega) (by omega) (by omega) (by omega) (by omega), goR_lo r (by omega) (by omega) (by omega) (by omega) (by omega), goR_lo r (by omega) (by omega) (by omega) (by omega) (by omega)]
  exact gpK_at n
theorem SB.go (s : SB h) (r : RowOK h n mb) : SB (goR h n mb) := fun p hp => by
  rw [(goR_p r hp).2.2.1]; exact s p hp
/-- a round of the class's persons is a round of the row's -/
theorem PRel.go (g : PRel τ pb h) (r : RowOK h n mb) (s : SB h) : PRel (prM τ pb n n) pb (goR h n mb) := by
  have hn := r.2.1
  refine ⟨?_, fun p hp => ⟨?_, ?_, ?_, fun q hq => ?_⟩⟩
  · rw [prM_ap, if_neg (by omega), if_neg (by omega), if_neg (by omega), if_neg (by omega), goR_0 r]; exact g.1
  · rw [prM_ap, if_neg (by omega), if_neg (by omega), if_pos rfl, (goR_p r hp).1, pr_move g r s hp, (g.2 p hp).1]
  · rw [prM_ap, if_pos rfl, (goR_p r hp).2.1, pr_move g r s hp, (g.2 p hp).2.1]
  · rw [prM_ap, if_neg (by omega), if_neg (by omega), if_neg (by omega), if_neg (by omega), (goR_p r hp).2.2.1]; exact (g.2 p hp).2.2.1
  · rw [prM_ap, if_neg (by omega), if_neg (by omega), if_neg (by omega), if_neg (by omega), goR_w r (by omega) (by omega)]; exact (g.2 p hp).2.2.2 q hq
theorem pr_moved (g : PRel τ pb h) (r : RowOK h n mb) (s : SB h) : cntB (fun q => abI (moveV τ pb n q)) n = gmV h n n := by
  have hn := r.2.1
  unfold cntB gmV
  refine fo_e n (fun q hq => ?_)
  funext a
  show (if abI (moveV τ pb n q) = 0 then a else a + 1) = _
  rw [pr_move g r s (show q < 6 by omega)]
  have hb := mv_ab r s (show q < 6 by omega)
  by_cases c : abI (mvR h n q) = 0
  · rw [if_pos c, if_pos (by rw [c]; decide)]
  · rw [if_neg c, if_neg (fun b => c (Int32.le_antisymm b hb))]
end PRS

/-! the reference's own functions, on its row h of numbers (σ 277) and on the memory -/
def refR (σ : Mem) (x y : Int32) : Mem := sg (sg (sg σ 276 16 x) 276 17 y) 276 18 0
def triM (σ : Mem) : Mem := sb (sg σ 276 20 0) 278 (fil (σ 277) (σ 278) 96)
theorem triM_c {σ : Mem} {c : Nat} (h1 : c ≠ 278) (h2 : c ≠ 276) : triM σ c = σ c := by
  unfold triM; rw [sb_n h1, sg_n h2]
theorem triM_276 {σ : Mem} {j : Nat} (h : j ≠ 20) : triM σ 276 j = σ 276 j := by
  unfold triM; rw [sb_n (by decide), sg_at, if_neg (fun z => h z.2)]
/-- k places of t, laid from place o on -/
def putR (r t : Nat → Int32) (o k : Nat) : Nat → Int32 := fun p => if o ≤ p ∧ p < o + k then t (p - o) else r p
theorem putR_0 {r t : Nat → Int32} {o : Nat} : putR r t o 0 = r := by
  funext p; unfold putR; rw [if_neg (by omega)]
theorem putR_s {r t : Nat → Int32} {o k : Nat} : upd (putR r t o k) (o + k) (t k) = putR r t o (k + 1) := by
  funext p
  unfold upd putR
  by_cases h : p = o + k
  · subst h; rw [if_pos rfl, if_pos (by omega), show o + k - o = k by omega]
  · rw [if_neg h]
    by_cases g : o ≤ p ∧ p < o + k
    · rw [if_pos g, if_pos (by omega)]
    · rw [if_neg g, if_neg (by omega)]
def kp0 (σ : Mem) (u : Nat) : Mem := if u = 8 then sg (sb σ 280 (fil (fun q => σ 280 (96 + q)) (σ 280) 672)) 276 4 (nI 7) else σ
def kpU (u : Nat) : Nat := if u = 8 then 7 else u
def keepM (σ : Mem) (u : Nat) : Mem := sg (sb (kp0 σ u) 280 (putR (kp0 σ u 280) (σ 278) (96 * kpU u) 96)) 276 4 (nI (kpU u + 1))
theorem kp0_c {σ : Mem} {u c : Nat} (h1 : c ≠ 280) (h2 : c ≠ 276) : kp0 σ u c = σ c := by
  unfold kp0; split
  · rw [sg_n h2, sb_n h1]
  · rfl
theorem kp0_u {σ : Mem} {u : Nat} (h : σ 276 4 = nI u) : kp0 σ u 276 4 = nI (kpU u) := by
  unfold kp0 kpU; split
  · rw [sg_ss]
  · exact h
theorem kpU_le {u : Nat} (h : u ≤ 8) : kpU u ≤ 7 := by
  unfold kpU; split <;> omega
def endV (b : Int32) (σ : Mem) : Int32 := if b = 0 then 0 else σ 276 19
def endM (b : Int32) (σ : Mem) (u : Nat) : Mem := if b = 0 then sg σ 276 20 1 else keepM σ u
def one1 (σ : Mem) (x : Int32) : Int32 := rngB x 0 (σ 277 0 - 1)
def tcB (σ : Mem) (x : Int32) : Int32 := if one1 σ x = 0 then 0 else 1
def tcM (σ : Mem) (x : Int32) : Mem := if one1 σ x = 0 then refR σ 3 (σ 277 0) else σ
theorem rngN {x y : Int32} {n : Nat} (h : ¬ rngB x 0 (y - 1) = 0) (hy : y = nI n) (hn : n ≤ 1000) : x = nI (tN x) ∧ tN x < n := by
  unfold rngB at h
  by_cases h1 : x < 0
  · rw [if_pos h1] at h; exact absurd rfl h
  · rw [if_neg h1] at h
    have h2 : ¬ y - 1 < x := fun h2 => by rw [if_pos h2] at h; exact absurd rfl h
    have h3 : 0 ≤ x := Int32.not_lt.mp h1
    have e := nI_tn h3
    refine ⟨e, ?_⟩
    unfold tN at e ⊢
    have h6 : x.toNatClampNeg < 2 ^ 31 := by
      have := Int32.toInt_lt x
      show x.toInt.toNat < _
      omega
    rw [hy, e] at h2
    have h4 := Int32.le_iff_toInt_le.mp (Int32.not_lt.mp h2)
    rw [nI_toInt h6] at h4
    rcases Nat.eq_zero_or_pos n with g | g
    · subst g
      exfalso
      have : (nI 0 - 1 : Int32).toInt = -1 := by decide
      omega
    · rw [show (1 : Int32) = nI 1 from rfl, pk_sub (by omega), nI_toInt (by omega)] at h4
      omega
theorem tcB_N {σ : Mem} {x : Int32} {n : Nat} (h : ¬ tcB σ x = 0) (hn : σ 277 0 = nI n) (hn6 : n ≤ 6) : x = nI (tN x) ∧ tN x < n := by
  unfold tcB at h
  by_cases g : one1 σ x = 0
  · rw [if_pos g] at h; exact absurd rfl h
  · exact rngN g hn (by omega)
/-- what a beam of the row must be -/
def okB (h : Nat → Int32) (b : Nat) : Prop := (h (72 + 4 * b + 0) = nI (tN (h (72 + 4 * b + 0))) ∧ tN (h (72 + 4 * b + 0)) < 6) ∧ (h (72 + 4 * b + 1) = nI (tN (h (72 + 4 * b + 1))) ∧ tN (h (72 + 4 * b + 1)) < 6)
def apR (h : Nat → Int32) (b : Nat) : Int32 := abI (h (6 + 5 * tN (h (72 + 4 * b + 0)) + 0) - h (6 + 5 * tN (h (72 + 4 * b + 1)) + 0))
def wtR (h : Nat → Int32) (n p : Nat) : Int32 := sumR (fun q => h (36 + 6 * p + q)) 0 n
def msR (h : Nat → Int32) (p k : Nat) : Int32 := fo (fun q a => a + h (6 + 5 * q + 0) * h (36 + 6 * p + q)) (h (6 + 5 * p + 0) * (h (6 + 5 * p + 1) + 1)) k
def mnR (h : Nat → Int32) (n p : Nat) : Int32 := msR h p n / (h (6 + 5 * p + 1) + 1 + wtR h n p)
def stR (h : Nat → Int32) (p : Nat) : Int32 := if h (6 + 5 * p + 2) = 1 then (10 - h (6 + 5 * p + 1)) / 2 else 10 - h (6 + 5 * p + 1)
def mvR (h : Nat → Int32) (n p : Nat) : Int32 := mxI (-stR h p) (mnI (stR h p) (mnR h n p - h (6 + 5 * p + 0)))
def comR (h : Nat → Int32) (n k : Nat) : Nat → Int32 := putR (upd h 0 (nI (n + 1))) (fun _ => 0) (6 + 5 * n) k
def comB (n : Nat) (x : Int32) : Int32 := if rngB x (-20) 20 = 0 then 0 else if n = 6 then 0 else 1
def comM (σ : Mem) (n : Nat) (x b : Int32) : Mem := if rngB x (-20) 20 = 0 then refR σ 1 0 else if n = 6 then refR σ 2 6 else sg (sg (sg (sb σ 277 (comR (σ 277) n 5)) 277 (6 + 5 * n + 0) x) 277 (6 + 5 * n + 2) b) 276 19 (nI n)
def befB (σ : Mem) (x y w : Int32) : Int32 := if tcB σ x = 0 then 0 else if tcB σ y = 0 then 0 else if x = y then 0 else if rngB w 0 9 = 0 then 0 else if σ 277 (36 + 6 * tN x + tN y) = w then 0 else 1
def befM (σ : Mem) (x y w : Int32) : Mem :=
  if tcB σ x = 0 then tcM σ x else if tcB σ y = 0 then tcM σ y else if x = y then refR σ 4 x else if rngB w 0 9 = 0 then refR σ 1 0 else if σ 277 (36 + 6 * tN x + tN y) = w then refR σ 5 w
  else sg (sg (sg σ 277 (36 + 6 * tN x + tN y) w) 277 (36 + 6 * tN y + tN x) w) 276 19 (σ 277 (36 + 6 * tN x + tN y))
theorem tcM_1 {σ : Mem} {x : Int32} (h : ¬ tcB σ x = 0) : tcM σ x = σ := by
  unfold tcB at h; unfold tcM
  by_cases g : one1 σ x = 0
  · rw [if_pos g] at h; exact absurd rfl h
  · rw [if_neg g]
/-- beam b of m goes: the later ones one place down -/
def shR (r : Nat → Int32) (b k : Nat) : Nat → Int32 := fun j => if 72 + 4 * b ≤ j ∧ j < k then r (j + 4) else r j
theorem shR_0 {r : Nat → Int32} {b : Nat} : shR r b (72 + 4 * b) = r := by
  funext j; unfold shR; rw [if_neg (by omega)]
theorem shR_s {r : Nat → Int32} {b k : Nat} (h : 72 + 4 * b ≤ k) : upd (shR r b k) k (r (k + 4)) = shR r b (k + 1) := by
  funext j
  unfold upd shR
  by_cases g : j = k
  · subst g; rw [if_pos rfl, if_pos (by omega)]
  · rw [if_neg g]
    by_cases g2 : 72 + 4 * b ≤ j ∧ j < k
    · rw [if_pos g2, if_pos (by omega)]
    · rw [if_neg g2, if_neg (by omega)]
def drpR (h : Nat → Int32) (b m : Nat) : Nat → Int32 := shR (upd h 1 (nI (m - 1))) b (72 + 4 * (m - 1))
theorem rngB_nar {x lo hi : Int32} : narrow .boolean (.int (rngB x lo hi)) = .int (rngB x lo hi) := by
  unfold rngB; split
  · rfl
  · split <;> rfl
theorem refR_k {σ : Mem} {x y : Int32} {j : Nat} (h : j ≠ 16 ∧ j ≠ 17 ∧ j ≠ 18) : refR σ x y 276 j = σ 276 j := by
  unfold refR; simp [sg_at, h]
theorem tcM_k {σ : Mem} {x : Int32} {j : Nat} (h : j ≠ 16 ∧ j ≠ 17 ∧ j ≠ 18) : tcM σ x 276 j = σ 276 j := by
  unfold tcM; split
  · exact refR_k h
  · rfl
theorem comM_k {σ : Mem} {n : Nat} {x b : Int32} {j : Nat} (h : j ≠ 16 ∧ j ≠ 17 ∧ j ≠ 18 ∧ j ≠ 19) : comM σ n x b 276 j = σ 276 j := by
  unfold comM; split
  · exact refR_k ⟨h.1, h.2.1, h.2.2.1⟩
  · split
    · exact refR_k ⟨h.1, h.2.1, h.2.2.1⟩
    · simp [sg_at, sbAp, h]
theorem befM_k {σ : Mem} {x y w : Int32} {j : Nat} (h : j ≠ 16 ∧ j ≠ 17 ∧ j ≠ 18 ∧ j ≠ 19) : befM σ x y w 276 j = σ 276 j := by
  have h3 : j ≠ 16 ∧ j ≠ 17 ∧ j ≠ 18 := ⟨h.1, h.2.1, h.2.2.1⟩
  unfold befM; repeat' split
  all_goals first | exact tcM_k h3 | exact refR_k h3 | simp [sg_at, h]

/-! the reference's own functions, on: changes and questions -/
def pasB (n : Nat) : Int32 := if n = 0 then 0 else 1
def pasM (σ : Mem) (n mb : Nat) : Mem := if n = 0 then refR σ 10 (σ 277 2) else sg (goM σ n mb) 276 19 (gmV (σ 277) n n)
def frR (h : Nat → Int32) (p : Nat) (x : Int32) : Int32 := mxI 0 (x - h (6 + 5 * p + 1) / 3)
def lfR (h : Nat → Int32) (p : Nat) (x : Int32) : Int32 := mxI 0 (abI (h (6 + 5 * p + 0)) - frR h p x)
def telT (h : Nat → Int32) (p : Nat) (x : Int32) : Int32 := if 0 ≤ h (6 + 5 * p + 0) then lfR h p x else -lfR h p x
def telR (h : Nat → Int32) (p : Nat) (x : Int32) : Nat → Int32 := upd (upd (upd h (6 + 5 * p + 0) (telT h p x)) (6 + 5 * p + 3) (h (6 + 5 * p + 3) + 1)) 3 (h 3 + 1)
def rtlB (σ : Mem) (x y : Int32) : Int32 := if tcB σ x = 0 then 0 else if rngB y 1 9 = 0 then 0 else if σ 277 (6 + 5 * tN x + 0) = 0 then 0 else if frR (σ 277) (tN x) y = 0 then 0 else 1
def rtlM (σ : Mem) (x y : Int32) : Mem :=
  if tcB σ x = 0 then tcM σ x else if rngB y 1 9 = 0 then refR σ 1 0 else if σ 277 (6 + 5 * tN x + 0) = 0 then refR σ 6 (σ 277 (6 + 5 * tN x + 1)) else if frR (σ 277) (tN x) y = 0 then refR σ 7 y
  else sg (sb σ 277 (telR (σ 277) (tN x) y)) 276 19 (telT (σ 277) (tN x) y)
/-- the first beam between two, from place k on -/
def fbR (h : Nat → Int32) (lo hi : Int32) (b : Nat) : Int32 := if h (72 + 4 * b + 0) = lo then (if h (72 + 4 * b + 1) = hi then 1 else 0) else 0
def ptR (h : Nat → Int32) (mb : Nat) (x y z : Int32) : Nat → Int32 := upd (upd (upd (upd (upd h 1 (nI (mb + 1))) (72 + 4 * mb) (mnI x y)) (72 + 4 * mb + 1) (mxI x y)) (72 + 4 * mb + 2) z) (72 + 4 * mb + 3) 0
def fnR (h : Nat → Int32) (mb : Nat) (x y : Int32) : Int32 := srch (fbR h (mnI x y) (mxI x y)) 1 mb 0
def ptB (σ : Mem) (mb : Nat) (x y z : Int32) : Int32 := if tcB σ x = 0 then 0 else if tcB σ y = 0 then 0 else if x = y then 0 else if rngB z 0 40 = 0 then 0 else if 0 ≤ fnR (σ 277) mb x y then 0 else if mb = 6 then 0 else 1
def ptM (σ : Mem) (mb : Nat) (x y z : Int32) : Mem :=
  if tcB σ x = 0 then tcM σ x else if tcB σ y = 0 then tcM σ y else if x = y then refR σ 4 x else if rngB z 0 40 = 0 then refR σ 1 0 else if 0 ≤ fnR (σ 277) mb x y then refR σ 9 (fnR (σ 277) mb x y) else if mb = 6 then refR σ 2 6
  else sg (sb σ 277 (ptR (σ 277) mb x y z)) 276 19 (nI mb)
def mn1 (σ : Mem) (x : Int32) : Int32 := rngB x 0 (σ 277 1 - 1)
def tkB (σ : Mem) (x : Int32) : Int32 := if mn1 σ x = 0 then 0 else 1
def tkM (σ : Mem) (mb : Nat) (x : Int32) : Mem := if mn1 σ x = 0 then refR σ 8 (σ 277 1) else sg (sb σ 277 (drpR (σ 277) (tN x) mb)) 276 19 (nI (mb - 1))
def acB (σ : Mem) (x y : Int32) : Int32 := if tcB σ x = 0 then 0 else if rngB y 0 9 = 0 then 0 else if σ 277 (6 + 5 * tN x + 1) = y then 0 else 1
def acM (σ : Mem) (x y : Int32) : Mem :=
  if tcB σ x = 0 then tcM σ x else if rngB y 0 9 = 0 then refR σ 1 0 else if σ 277 (6 + 5 * tN x + 1) = y then refR σ 5 y else sg (sg σ 277 (6 + 5 * tN x + 1) y) 276 19 (σ 277 (6 + 5 * tN x + 1))
theorem goM_k {σ : Mem} {n mb j : Nat} : goM σ n mb 276 j = σ 276 j := by
  unfold goM; simp [sbAp]
theorem pasM_k {σ : Mem} {n mb : Nat} {j : Nat} (h : j ≠ 16 ∧ j ≠ 17 ∧ j ≠ 18 ∧ j ≠ 19) : pasM σ n mb 276 j = σ 276 j := by
  unfold pasM; split
  · exact refR_k ⟨h.1, h.2.1, h.2.2.1⟩
  · rw [sg_at, if_neg (fun z => h.2.2.2 z.2), goM_k]
theorem rtlM_k {σ : Mem} {x y : Int32} {j : Nat} (h : j ≠ 16 ∧ j ≠ 17 ∧ j ≠ 18 ∧ j ≠ 19) : rtlM σ x y 276 j = σ 276 j := by
  have h3 : j ≠ 16 ∧ j ≠ 17 ∧ j ≠ 18 := ⟨h.1, h.2.1, h.2.2.1⟩
  unfold rtlM; repeat' split
  all_goals first | exact tcM_k h3 | exact refR_k h3 | simp [sg_at, sbAp, h]
theorem ptM_k {σ : Mem} {mb : Nat} {x y z : Int32} {j : Nat} (h : j ≠ 16 ∧ j ≠ 17 ∧ j ≠ 18 ∧ j ≠ 19) : ptM σ mb x y z 276 j = σ 276 j := by
  have h3 : j ≠ 16 ∧ j ≠ 17 ∧ j ≠ 18 := ⟨h.1, h.2.1, h.2.2.1⟩
  unfold ptM; repeat' split
  all_goals first | exact tcM_k h3 | exact refR_k h3 | simp [sg_at, sbAp, h]
theorem tkM_k {σ : Mem} {mb : Nat} {x : Int32} {j : Nat} (h : j ≠ 16 ∧ j ≠ 17 ∧ j ≠ 18 ∧ j ≠ 19) : tkM σ mb x 276 j = σ 276 j := by
  have h3 : j ≠ 16 ∧ j ≠ 17 ∧ j ≠ 18 := ⟨h.1, h.2.1, h.2.2.1⟩
  unfold tkM; repeat' split
  all_goals first | exact refR_k h3 | simp [sg_at, sbAp, h]
theorem acM_k {σ : Mem} {x y : Int32} {j : Nat} (h : j ≠ 16 ∧ j ≠ 17 ∧ j ≠ 18 ∧ j ≠ 19) : acM σ x y 276 j = σ 276 j := by
  have h3 : j ≠ 16 ∧ j ≠ 17 ∧ j ≠ 18 := ⟨h.1, h.2.1, h.2.2.1⟩
  unfold acM; repeat' split
  all_goals first | exact tcM_k h3 | exact refR_k h3 | simp [sg_at, h]
theorem tcB_1 {σ : Mem} {x : Int32} (h : ¬ one1 σ x = 0) (hn : ∃ n, n ≤ 6 ∧ σ 277 0 = nI n) : x = nI (tN x) ∧ tN x < 6 := by
  obtain ⟨n, h1, h2⟩ := hn
  obtain ⟨a, b⟩ := rngN h h2 (by omega)
  exact ⟨a, by omega⟩
/-- questions: the answer, and what was thrown -/
def thM (σ : Mem) (x : Int32) : Mem := sg σ 276 20 x
def qV (σ : Mem) (x v : Int32) : Int32 := if one1 σ x = 0 then 0 else v
def qM (σ : Mem) (x : Int32) : Mem := thM σ (if one1 σ x = 0 then 1 else 0)
def foR (h : Nat → Int32) (n p : Nat) : Int32 := fo (fun q a => if h (36 + 6 * p + q) ≤ 0 then a else a + 1) 0 n
def plR (h : Nat → Int32) (p q : Nat) : Int32 := h (36 + 6 * p + q) * abI (h (6 + 5 * p + 0) - h (6 + 5 * q + 0))
/-- the best place so far, told by its number -/
def bsR (h : Nat → Int32) (p : Nat) (k : Nat) : Nat := fo (fun q a => if plR h p q ≤ plR h p a then a else q) p k
theorem bsR_lt {h : Nat → Int32} {p : Nat} (hp : p < 6) : ∀ k, k ≤ 6 → bsR h p k < 6
  | 0, _ => hp
  | k + 1, hk => by
    show (if plR h p k ≤ plR h p (bsR h p k) then bsR h p k else k) < 6
    split
    · exact bsR_lt hp k (by omega)
    · omega
/-- how many facts, counted up: v facts are told, the force is f, a is left -/
def fcR (f a : Int32) : Nat → Nat → Nat
  | 0, v => v
  | d + 1, v => if a ≤ nI v * f then v else fcR f a d (v + 1)
def goK (h : Nat → Int32) (n mb : Nat) : Nat → (Nat → Int32) × Nat
  | 0 => (h, mb)
  | k + 1 => (goR (goK h n mb k).1 n (goK h n mb k).2, (gbN (goK h n mb k).1 n (goK h n mb k).2).2)
theorem goK_ok {h : Nat → Int32} {n mb : Nat} (g : RowOK h n mb) : ∀ k, RowOK (goK h n mb k).1 n (goK h n mb k).2
  | 0 => g
  | k + 1 => (goK_ok g k).go.1
/-- how many moves were made in k rounds -/
def gsV (h : Nat → Int32) (n mb k : Nat) : Int32 := fo (fun q a => a + gmV (goK h n mb q).1 n n) 0 k
theorem fo_s {α : Type} {f : Nat → α → α} {a : α} {k : Nat} : fo f a (k + 1) = f k (fo f a k) := rfl
theorem gmV_s {h : Nat → Int32} {n k : Nat} : gmV h n (k + 1) = if abI (mvR h n k) ≤ 0 then gmV h n k else gmV h n k + 1 := by
  unfold gmV
  rw [fo_s]
theorem gmV_N {h : Nat → Int32} {n : Nat} : ∀ k, ∃ j, j ≤ k ∧ gmV h n k = nI j
  | 0 => ⟨0, Nat.le_refl _, rfl⟩
  | k + 1 => by
    obtain ⟨j, hj, e⟩ := gmV_N (h := h) (n := n) k
    rw [gmV_s]
    split
    · exact ⟨j, by omega, e⟩
    · exact ⟨j + 1, by omega, by rw [e, nI_1]⟩
theorem gsV_s {h : Nat → Int32} {n mb k : Nat} : gsV h n mb (k + 1) = gsV h n mb k + gmV (goK h n mb k).1 n n := by
  unfold gsV
  rw [fo_s]
theorem gsV_N {h : Nat → Int32} {n mb : Nat} (hn : n ≤ 6) : ∀ k, ∃ j, j ≤ 6 * k ∧ gsV h n mb k = nI j
  | 0 => ⟨0, Nat.le_refl _, rfl⟩
  | k + 1 => by
    obtain ⟨j, hj, e⟩ := gsV_N (h := h) (mb := mb) hn k
    obtain ⟨i, hi, e2⟩ := gmV_N (h := (goK h n mb k).1) (n := n) n
    exact ⟨j + i, by omega, by rw [gsV_s, e, e2, nI_add]⟩
/-- the memory but for the reference's scratch (row 277, and 282, 279) -/
def OffG (τ σ : Mem) : Prop := ∀ c, c ≠ 277 → c ≠ 279 → c ≠ 282 → τ c = σ c
/-- the first of the d rounds from k on in which nothing moves, else k + d -/
def rsR (h : Nat → Int32) (n mb : Nat) : Nat → Nat → Nat
  | 0, k => k
  | d + 1, k => if gmV (goK h n mb k).1 n n ≤ 0 then k else rsR h n mb d (k + 1)
/-- whether a beam lo, hi is among the first k -/
def isR (h : Nat → Int32) (lo hi : Int32) (k : Nat) : Int32 := fo (fun b a => if a = 0 then (if h (72 + 4 * b + 0) = lo then (if h (72 + 4 * b + 1) = hi then 1 else 0) else 0) else 1) 0 k
/-- in which of the rounds from k + 1 on the beam is gone: 0 if in none of the next d -/
def brR (h : Nat → Int32) (n mb : Nat) (lo hi : Int32) : Nat → Nat → Nat
  | 0, _ => 0
  | d + 1, k => if isR (goK h n mb (k + 1)).1 lo hi (goK h n mb (k + 1)).2 = 0 then k + 1 else brR h n mb lo hi d (k + 1)
theorem sgn_e (x : Int32) : (x >>> ((31 : Int32) &&& 31)) ||| ((-x).toUInt32 >>> ((31 : Int32).toUInt32 &&& Int32.toUInt32 31)).toInt32 = sgnV x 0 := by
  have h31 := pk_shr x ((31 : Int32) &&& 31) 31 (by decide)
  have hl := Int32.le_toInt x
  have hg := Int32.toInt_lt x
  rw [Int.shiftRight_eq_div_pow] at h31
  unfold sgnV
  by_cases hx : x < 0
  · rw [if_pos hx]
    have h0 : x.toInt < 0 := by simpa using Int32.lt_iff_toInt_lt.mp hx
    have e : x >>> ((31 : Int32) &&& 31) = -1 := by
      apply Int32.toInt_inj.mp
      rw [h31]
      show _ = (-1 : Int)
      omega
    rw [e]
    apply Int32.toBitVec_inj.mp
    rw [Int32.toBitVec_or]
    exact BitVec.allOnes_or
  · rw [if_neg hx]
    by_cases h0 : x = 0
    · subst h0; decide
    · rw [if_neg h0]
      have h1 : 0 ≤ x.toInt := by simpa using Int32.le_iff_toInt_le.mp (Int32.not_lt.mp hx)
      have h2 : x.toInt ≠ 0 := fun h => h0 (Int32.toInt_inj.mp h)
      have e : x >>> ((31 : Int32) &&& 31) = 0 := by
        apply Int32.toInt_inj.mp
        rw [h31]
        show _ = (0 : Int)
        omega
      rw [e]
      have e2 : ((-x).toUInt32 >>> ((31 : Int32).toUInt32 &&& Int32.toUInt32 31)).toInt32 = 1 := by
        apply Int32.toBitVec_inj.mp
        apply BitVec.eq_of_toNat_eq
        rw [pk_ushr (-x) 31 31 (by decide), Int32.toBitVec_neg, BitVec.toNat_neg]
        have h3 : (x.toBitVec.toNat : Int) = x.toInt := by
          have := BitVec.toInt_eq_toNat_cond x.toBitVec
          have h4 : x.toInt = x.toBitVec.toInt := rfl
          have h5 := x.toBitVec.isLt
          rw [h4, this]
          rw [h4, this] at h1 hg
          split at h1
          · rw [if_pos (by assumption)]
          · omega
        show _ = 1
        omega
      rw [e2]
      decide
theorem sb_sb {σ : Mem} {b : Nat} {ρ ρ' : Nat → Int32} : sb (sb σ b ρ) b ρ' = sb σ b ρ' := by
  funext c
  by_cases h : c = b
  · subst h; rw [sb_s, sb_s]
  · rw [sb_n h, sb_n h, sb_n h]
theorem gpK_s1 {mv h : Nat → Int32} {k : Nat} (c : abI (mv k) < 3) : gpK mv h (k + 1) = gp3 mv k (gpK mv h k) := if_pos c
theorem gpK_s2 {mv h : Nat → Int32} {k : Nat} (c : ¬ abI (mv k) < 3) : gpK mv h (k + 1) = upd (gp3 mv k (gpK mv h k)) (6 + 5 * k + 1) (mxI 0 (gp3 mv k (gpK mv h k) (6 + 5 * k + 1) - 1)) := if_neg c

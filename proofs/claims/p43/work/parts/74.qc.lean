/-! more questions: the weakest beam, reasons, accounts, the mean again, when a beam breaks -/
section QCS
variable {σ μ : Mem} {n mb : Nat} {x y z w : Int32}
theorem q_wea (hw : WF (μ 277) n mb) (hg : HR σ 1 (μ 277)) : weaXT σ mb x = weaT (μ 277) mb x ∧ (weaXT σ mb x = 0 → weaXS σ mb x = weaV (μ 277) mb x) := by
  have e : weaXS σ mb x = wkS (μ 277) mb x := by
    unfold weaXS wkS
    refine srch_e mb 0 (fun k _ hk => ?_)
    exact cntB_e (fun q hq => weak_e hw hg hq (by omega))
  unfold weaXT weaT weaV
  rw [e]
  by_cases c : wkS (μ 277) mb x < 0
  · have c2 : ¬ 0 ≤ wkS (μ 277) mb x := Int32.not_le.mpr c
    simp only [c, c2, ↓reduceIte]
    exact ⟨trivial, fun h0 => absurd h0 (by decide)⟩
  · have c2 : 0 ≤ wkS (μ 277) mb x := Int32.not_lt.mp c
    simp only [c, c2, ↓reduceIte]
    exact ⟨trivial, fun _ => trivial⟩
theorem q_rea (hr : RsR σ μ) : reaXT σ x = reaT μ x ∧ (reaXT σ x = 0 → reaX σ x = reaV μ x) := by
  unfold reaXT reaT reaX reaV
  rw [hr.1, hr.2.1, hr.2.2]
  unfold rngB
  by_cases a : x < 0
  · rw [if_pos a, if_pos a, if_pos rfl]; exact ⟨rfl, fun h0 => absurd h0 (by decide)⟩
  · rw [if_neg a, if_neg a]
    have h10 : ¬ (1 : Int32) = 0 := by decide
    by_cases b : 2 < x
    · rw [if_neg (Int32.not_le.mpr b), if_pos b, if_pos rfl]; exact ⟨rfl, fun h0 => absurd h0 (by decide)⟩
    · rw [if_pos (Int32.not_lt.mp b), if_neg b]
      simp only [h10, ↓reduceIte]
      by_cases c : μ 276 16 = 0
      · simp only [c, ↓reduceIte]
        exact ⟨trivial, fun h0 => absurd h0 (by decide)⟩
      · simp only [c, ↓reduceIte]
        exact ⟨trivial, fun _ => trivial⟩
theorem sumR_z {f : Nat → Int32} {n : Nat} : ∀ m, n ≤ m → (∀ q, n ≤ q → q < m → f q = 0) → sumR f 0 m = sumR f 0 n
  | 0, h, _ => by rw [Nat.le_zero.mp h]
  | m + 1, h, hz => by
    by_cases c : n = m + 1
    · rw [c]
    · show sumR f 0 m + f m = _
      rw [hz m (by omega) (by omega), Int32.add_zero, sumR_z m (by omega) (fun q h1 h2 => hz q h1 (by omega))]
theorem plm_e {f g : Nat → Int32} : ∀ n, (∀ q, q < n → f q = g q) → plmR f n = plmR g n := fun n h => by
  unfold plmR
  exact fo_e n (fun q hq => by funext a; rw [h q hq])
theorem q_acc (C : CRel σ μ) (hw : WF (μ 277) n mb) : accX σ n x = accV μ n x ∨ ¬ accT x = 0 := by
  obtain ⟨⟨-, hg⟩, -, ⟨jn, u, -, -, -, e9, e9', -⟩, -, ⟨L, -, eL, eL', -⟩, -⟩ := C
  have hn := hw.1.2.1
  have e1 : fo (fun q a => a + cntR (σ (1 + 1 + 7 + q)) n) 0 n = fo (fun q a => a + foR (μ 277) n q) 0 n := fo_e n (fun q hq => by funext a; rw [foR_e hw hg (by omega)])
  have e3 : plmR (σ (1 + 1 + 1)) n = plmR (fun q => μ 277 (6 + 5 * q + 0)) n := plm_e n (fun q hq => (hg.1.2 q (by omega)).1)
  have e5 : sumR (σ (1 + 1 + 4)) 0 n = μ 277 3 := by
    rw [hw.2.2.2.2.2.2.2.2, sumR_z (f := fun p => μ 277 (6 + 5 * p + 3)) 6 hn (fun q h1 h2 => hw.2.2.2.2.2.1 q h1 h2 3 (by omega))]
    exact sumR_e n (fun q hq => (hg.2.1 q (by omega)).1)
  have e8 : sumR (σ (1 + 1 + 1)) 0 n = sumR (fun q => μ 277 (6 + 5 * q + 0)) 0 n := sumR_e n (fun q hq => (hg.1.2 q (by omega)).1)
  have k0 : σ (1 + 1) 7 = μ 277 0 := hg.1.1
  have k2 : σ (1 + 15) 4 = μ 277 1 := hg.2.2.1.1
  have k4 : σ 1 2 = μ 277 2 := hg.2.2.2.1
  have k6 : σ 1 3 = μ 277 4 := hg.2.2.2.2.1
  have k7 : σ 1 4 = μ 277 5 := hg.2.2.2.2.2
  unfold accX accV accT
  rw [e1, e3, e5, e8, k0, k2, k4, k6, k7, e9.trans e9'.symm, eL.trans eL'.symm]
  by_cases c : x = 10
  · left; subst c; rfl
  · by_cases d : x = 9
    · left; subst d; rfl
    · simp only [c, d, ↓reduceIte]
      split
      · left; rfl
      split
      · left; rfl
      split
      · left; rfl
      split
      · left; rfl
      split
      · left; rfl
      split
      · left; rfl
      split
      · left; rfl
      split
      · left; rfl
      split
      · left; rfl
      · right; decide
theorem add_n {t : Int32} {a : Int32} : ∀ m, fo (fun _ b => b + t) a m = a + nI m * t
  | 0 => by show a = a + nI 0 * t; rw [nI_0, Int32.zero_mul, Int32.add_zero]
  | m + 1 => by
    show fo (fun _ b => b + t) a m + t = _
    rw [add_n m, ← nI_1, Int32.add_mul, Int32.one_mul, Int32.add_assoc]
theorem add_1 {a : Int32} : ∀ m, fo (fun _ b => b + 1) a m = a + nI m
  | 0 => by show a = a + nI 0; rw [nI_0, Int32.add_zero]
  | m + 1 => by
    show fo (fun _ b => b + 1) a m + 1 = _
    rw [add_1 m, ← nI_1, Int32.add_assoc]
theorem q_aga {h : Nat → Int32} {p : Nat} {u : Nat → Nat} {T : Nat → Int32} (hw : WF h n mb) (hp : p < n) (hT : ∀ q, q < n → T q = h (6 + 5 * q + 0)) (hu : ∀ q, q < n → (if q = p then h (6 + 5 * p + 1) + 1 else h (36 + 6 * p + q)) = nI (u q)) : mAddV T u n = mnR h n p := by
  have hn := hw.1.2.1
  have hpp := hw.2.2.2.2.1 p (by omega)
  have A : ∀ k, k ≤ n → addPV u k + (if p < k then 0 else h (6 + 5 * p + 1) + 1) = sumR (fun q => h (36 + 6 * p + q)) (h (6 + 5 * p + 1) + 1) k ∧ addSV T u k + (if p < k then 0 else h (6 + 5 * p + 0) * (h (6 + 5 * p + 1) + 1)) = msR h p k := by
    intro k
    induction k with
    | zero =>
      intro _
      refine ⟨?_, ?_⟩
      · rw [if_neg (Nat.not_lt_zero _)]; exact Int32.zero_add _
      · rw [if_neg (Nat.not_lt_zero _)]; exact Int32.zero_add _
    | succ k ih =>
      intro hk
      obtain ⟨i1, i2⟩ := ih (by omega)
      have hk' := hu k (by omega)
      have eP : addPV u (k + 1) = addPV u k + nI (u k) := add_1 (u k)
      have eS : addSV T u (k + 1) = addSV T u k + nI (u k) * T k := add_n (u k)
      have sP : sumR (fun q => h (36 + 6 * p + q)) (h (6 + 5 * p + 1) + 1) (k + 1) = sumR (fun q => h (36 + 6 * p + q)) (h (6 + 5 * p + 1) + 1) k + h (36 + 6 * p + k) := rfl
      have sS : msR h p (k + 1) = msR h p k + h (6 + 5 * k + 0) * h (36 + 6 * p + k) := rfl
      rw [eP, eS, sP, sS, ← i1, ← i2, ← hk', hT k (by omega)]
      by_cases c : k = p
      · subst c
        rw [if_pos rfl, if_pos (Nat.lt_succ_self k), if_pos (Nat.lt_succ_self k), if_neg (Nat.lt_irrefl k), if_neg (Nat.lt_irrefl k), hpp, Int32.mul_zero]
        simp only [Int32.add_zero]
        exact ⟨trivial, by rw [Int32.mul_comm]⟩
      · rw [if_neg c]
        have e : p < k + 1 ↔ p < k := ⟨fun z => by omega, fun z => by omega⟩
        simp only [e]
        refine ⟨?_, ?_⟩
        · rw [Int32.add_assoc, Int32.add_assoc, Int32.add_comm (h (36 + 6 * p + k))]
        · rw [Int32.add_assoc, Int32.add_assoc, Int32.mul_comm (h (36 + 6 * p + k)), Int32.add_comm (h (6 + 5 * k + 0) * h (36 + 6 * p + k))]
  obtain ⟨a1, a2⟩ := A n (Nat.le_refl _)
  rw [if_pos hp, Int32.add_zero] at a1 a2
  unfold mAddV mnR wtR
  rw [a1, a2, ← sumR_a, if_pos]
  obtain ⟨W, h1, h2, h3, -⟩ := ms_b (h := h) hw.2.2.1 (hw.1.2.2.2.2.1 p (by omega)) (fun q hq => hw.1.2.2.2.2.2.1 p q (by omega) hq) (by omega) n hn
  rw [h3]
  exact nI_le (a := 1) h1 (by omega)
end QCS

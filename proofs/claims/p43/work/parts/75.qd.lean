/-! when a beam breaks -/
section QDS
variable {σ μ : Mem} {h : Nat → Int32} {n mb : Nat} {x y z w : Int32}
theorem isR_b {lo hi : Int32} : ∀ k, isR h lo hi k = 0 ∨ isR h lo hi k = 1
  | 0 => Or.inl rfl
  | k + 1 => by
    show (if isR h lo hi k = 0 then (if h (72 + 4 * k + 0) = lo then (if h (72 + 4 * k + 1) = hi then (1 : Int32) else 0) else 0) else 1) = 0 ∨ _ = 1
    show (if isR h lo hi k = 0 then (if h (72 + 4 * k + 0) = lo then (if h (72 + 4 * k + 1) = hi then (1 : Int32) else 0) else 0) else 1) = 0 ∨ (if isR h lo hi k = 0 then (if h (72 + 4 * k + 0) = lo then (if h (72 + 4 * k + 1) = hi then (1 : Int32) else 0) else 0) else 1) = 1
    split
    · split
      · split
        · exact Or.inr rfl
        · exact Or.inl rfl
      · exact Or.inl rfl
    · exact Or.inr rfl
theorem isR_0 {lo hi : Int32} : ∀ k, isR h lo hi k = 0 ↔ ∀ t, t ∈ lsR h k → ¬ (t.1 = lo ∧ t.2.1 = hi)
  | 0 => ⟨fun _ t ht => absurd ht (by unfold lsR; simp), fun _ => rfl⟩
  | k + 1 => by
    have e : isR h lo hi (k + 1) = (if isR h lo hi k = 0 then (if h (72 + 4 * k + 0) = lo then (if h (72 + 4 * k + 1) = hi then (1 : Int32) else 0) else 0) else 1) := rfl
    have el : lsR h (k + 1) = lsR h k ++ [bmR h k] := by unfold lsR; rw [List.range_succ, List.map_append]; rfl
    rw [e, el]
    have ih := isR_0 (lo := lo) (hi := hi) k
    constructor
    · intro z t ht
      by_cases c : isR h lo hi k = 0
      · rw [if_pos c] at z
        rcases List.mem_append.mp ht with q | q
        · exact ih.mp c t q
        · obtain rfl := List.mem_singleton.mp q
          rintro ⟨a, b⟩
          have a : h (72 + 4 * k + 0) = lo := a
          have b : h (72 + 4 * k + 1) = hi := b
          rw [if_pos a, if_pos b] at z
          exact absurd z (by decide)
      · rw [if_neg c] at z; exact absurd z (by decide)
    · intro z
      have c := ih.mpr (fun t ht => z t (List.mem_append_left _ ht))
      rw [if_pos c]
      have q := z (bmR h k) (List.mem_append_right _ (List.mem_singleton.mpr rfl))
      by_cases a : h (72 + 4 * k + 0) = lo
      · rw [if_pos a]
        by_cases b : h (72 + 4 * k + 1) = hi
        · exact absurd ⟨a, b⟩ q
        · rw [if_neg b]
      · rw [if_neg a]
theorem goK_WF (w : WF h n mb) : ∀ k, WF (goK h n mb k).1 n (goK h n mb k).2
  | 0 => w
  | k + 1 => (goK_WF w k).go
/-- the beam as it stands after k rounds -/
def bmK (h : Nat → Int32) (n mb i k : Nat) : Q4 := (h (72 + 4 * i + 0), h (72 + 4 * i + 1), h (72 + 4 * i + 2), ckK h n mb i k)
theorem goK_ls (w : WF h n mb) (k : Nat) : lsR (goK h n mb (k + 1)).1 (goK h n mb (k + 1)).2 = ((lsR (goK h n mb k).1 (goK h n mb k).2).map (crQ (fun p => (goK h n mb (k + 1)).1 (6 + 5 * p + 0)))).filter kpQ := by
  exact lsR_go.trans (gb_ls (goK_WF w k)).1
theorem bmK_cr (w : WF h n mb) {i : Nat} (hi : i < mb) (k : Nat) : crQ (fun p => (goK h n mb (k + 1)).1 (6 + 5 * p + 0)) (bmK h n mb i k) = bmK h n mb i (k + 1) := by
  obtain ⟨⟨o1, o2⟩, o3, o4⟩ := w.1.2.2.2.2.2.2 i hi
  have e : ovQ (fun p => (goK h n mb (k + 1)).1 (6 + 5 * p + 0)) (bmK h n mb i k) = ovK h n mb i (k + 1) := by
    unfold ovQ ovK apR bmK
    simp only [if_neg (show ¬ 72 + 4 * i + 0 < 36 by omega), if_neg (show ¬ 72 + 4 * i + 1 < 36 by omega), if_pos (show 6 + 5 * tN (h (72 + 4 * i + 0)) + 0 < 36 by omega), if_pos (show 6 + 5 * tN (h (72 + 4 * i + 1)) + 0 < 36 by omega)]
  unfold crQ
  rw [e]
  by_cases c : ovK h n mb i (k + 1) = 0
  · rw [if_pos c]
    unfold bmK
    rw [ckK_s, if_pos c]
  · rw [if_neg c]
    unfold bmK
    rw [ckK_s, if_neg c]
theorem brk_st (w : WF h n mb) {i : Nat} (hi : i < mb) {k : Nat} (hk : bmK h n mb i k ∈ lsR (goK h n mb k).1 (goK h n mb k).2) :
    (ckK h n mb i (k + 1) < 3 → bmK h n mb i (k + 1) ∈ lsR (goK h n mb (k + 1)).1 (goK h n mb (k + 1)).2 ∧ ¬ isR (goK h n mb (k + 1)).1 (h (72 + 4 * i + 0)) (h (72 + 4 * i + 1)) (goK h n mb (k + 1)).2 = 0) ∧
    (¬ ckK h n mb i (k + 1) < 3 → isR (goK h n mb (k + 1)).1 (h (72 + 4 * i + 0)) (h (72 + 4 * i + 1)) (goK h n mb (k + 1)).2 = 0) := by
  have ec := bmK_cr w hi k
  have el := goK_ls w k
  constructor
  · intro c
    have m : bmK h n mb i (k + 1) ∈ lsR (goK h n mb (k + 1)).1 (goK h n mb (k + 1)).2 := by
      rw [el]
      refine List.mem_filter.mpr ⟨List.mem_map.mpr ⟨_, hk, ec⟩, ?_⟩
      unfold kpQ bmK
      exact decide_eq_true c
    exact ⟨m, fun z => (isR_0 _).mp z _ m ⟨rfl, rfl⟩⟩
  · intro c
    refine (isR_0 _).mpr fun t ht => ?_
    rw [el] at ht
    obtain ⟨h1, h2⟩ := List.mem_filter.mp ht
    obtain ⟨s, hs, rfl⟩ := List.mem_map.mp h1
    rintro ⟨a, b⟩
    have e12 : (crQ (fun p => (goK h n mb (k + 1)).1 (6 + 5 * p + 0)) s).1 = s.1 ∧ (crQ (fun p => (goK h n mb (k + 1)).1 (6 + 5 * p + 0)) s).2.1 = s.2.1 := by unfold crQ; split <;> exact ⟨rfl, rfl⟩
    rw [e12.1] at a
    rw [e12.2] at b
    have es : s = bmK h n mb i k := by
      have P := (lR_bm (goK_WF w k)).2
      rw [List.pairwise_iff_getElem] at P
      obtain ⟨i1, l1, g1⟩ := List.getElem_of_mem hs
      obtain ⟨i2, l2, g2⟩ := List.getElem_of_mem hk
      rcases Nat.lt_trichotomy i1 i2 with q | q | q
      · have := P i1 i2 l1 l2 q
        rw [g1, g2] at this
        exact absurd ⟨a, b⟩ this
      · subst q; exact g1.symm.trans g2
      · have := P i2 i1 l2 l1 q
        rw [g1, g2] at this
        exact absurd ⟨a.symm, b.symm⟩ this
    rw [es, ec] at h2
    unfold kpQ bmK at h2
    exact c (of_decide_eq_true h2)
theorem brk_e (w : WF h n mb) {i : Nat} (hi : i < mb) : ∀ d k, bmK h n mb i k ∈ lsR (goK h n mb k).1 (goK h n mb k).2 → bkS h n mb i d k = brR h n mb (h (72 + 4 * i + 0)) (h (72 + 4 * i + 1)) d k
  | 0, _, _ => rfl
  | d + 1, k, hk => by
    obtain ⟨b1, b2⟩ := brk_st w hi hk
    show (if ckK h n mb i (k + 1) < 3 then bkS h n mb i d (k + 1) else k + 1) = (if isR (goK h n mb (k + 1)).1 (h (72 + 4 * i + 0)) (h (72 + 4 * i + 1)) (goK h n mb (k + 1)).2 = 0 then k + 1 else brR h n mb (h (72 + 4 * i + 0)) (h (72 + 4 * i + 1)) d (k + 1))
    by_cases c : ckK h n mb i (k + 1) < 3
    · rw [if_pos c, if_neg (b1 c).2]; exact brk_e w hi d (k + 1) (b1 c).1
    · rw [if_neg c, if_pos (b2 c)]
theorem q_bri (hw : WF (μ 277) n mb) (hg : HR σ 1 (μ 277)) : briXT σ (μ 277) n mb x = briT μ n mb x ∧ (briXT σ (μ 277) n mb x = 0 → nI (briXN (μ 277) n mb x) = briV μ n mb x) := by
  unfold briXT briT briV
  rw [q_holb hw hg]
  by_cases c : mn1 μ x = 0
  · rw [if_pos c, if_pos c]; exact ⟨rfl, fun h0 => absurd h0 (by decide)⟩
  · rw [if_neg c, if_neg c, if_neg c]
    have e : briXN (μ 277) n mb x = briN μ n mb x := by
      unfold briXN briN
      refine brk_e hw (q_b hw c).1 99 0 ?_
      exact List.mem_map.mpr ⟨tN x, List.mem_range.mpr (q_b hw c).1, rfl⟩
    rw [e]
    exact ⟨rfl, fun _ => rfl⟩
end QDS

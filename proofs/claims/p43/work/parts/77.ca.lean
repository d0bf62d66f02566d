/-! camps: both sides find the least closed set -/
def Msk (v : Int32) : Prop := ∃ a, a < 64 ∧ v = nI a
def bt (v : Int32) (q : Nat) : Prop := ¬ bitV v q = 0
theorem bt_dec : ∀ a, a < 64 → ∀ r, r < 6 → (∃ b, b < 64 ∧ nI a ||| oneV r = nI b) ∧ ∀ q, q < 6 → (bitV (nI a ||| oneV r) q = 0 ↔ bitV (nI a) q = 0 ∧ ¬ q = r) := by
  have key : ∀ a, a < 64 → ∀ r, r < 6 → (nI a ||| oneV r = nI (a ||| 2 ^ r)) ∧ a ||| 2 ^ r < 64 ∧ ∀ q, q < 6 → (bitV (nI a ||| oneV r) q = 0 ↔ bitV (nI a) q = 0 ∧ ¬ q = r) := by decide +kernel
  intro a ha r hr
  obtain ⟨k1, k2, k3⟩ := key a ha r hr
  exact ⟨⟨_, k2, k1⟩, k3⟩
theorem Msk.one {v : Int32} (h : Msk v) {r : Nat} (hr : r < 6) : Msk (v ||| oneV r) := by
  obtain ⟨a, ha, rfl⟩ := h
  exact (bt_dec a ha r hr).1
theorem bt_one {v : Int32} (h : Msk v) {r q : Nat} (hr : r < 6) (hq : q < 6) : bt (v ||| oneV r) q ↔ bt v q ∨ q = r := by
  obtain ⟨a, ha, rfl⟩ := h
  have := (bt_dec a ha r hr).2 q hq
  unfold bt
  rw [this]
  constructor
  · intro z
    by_cases c : q = r
    · exact Or.inr c
    · exact Or.inl (fun y => z ⟨y, c⟩)
  · rintro (z | z) ⟨y1, y2⟩
    · exact z y1
    · exact y2 z
theorem Msk.p {r : Nat} (hr : r < 6) : Msk (oneV r) := by
  have key : ∀ r, r < 6 → oneV r = nI (2 ^ r) ∧ 2 ^ r < 64 := by decide +kernel
  exact ⟨_, (key r hr).2, (key r hr).1⟩
theorem bt_p {r q : Nat} (hr : r < 6) (hq : q < 6) : bt (oneV r) q ↔ q = r := by
  have key : ∀ r, r < 6 → ∀ q, q < 6 → (¬ bitV (oneV r) q = 0 ↔ q = r) := by decide +kernel
  exact key r hr q hq
theorem Msk.or {v w : Int32} (h : Msk v) (g : Msk w) : Msk (v ||| w) := by
  obtain ⟨a, ha, rfl⟩ := h
  obtain ⟨b, hb, rfl⟩ := g
  have key : ∀ a, a < 64 → ∀ b, b < 64 → nI a ||| nI b = nI (a ||| b) ∧ a ||| b < 64 := by decide +kernel
  exact ⟨_, (key a ha b hb).2, (key a ha b hb).1⟩
theorem bt_or {v w : Int32} {q : Nat} (h : Msk v) (g : Msk w) (hq : q < 6) : bt (v ||| w) q ↔ bt v q ∨ bt w q := by
  obtain ⟨a, ha, rfl⟩ := h
  obtain ⟨b, hb, rfl⟩ := g
  have key : ∀ a, a < 64 → ∀ b, b < 64 → ∀ q, q < 6 → (¬ bitV (nI a ||| nI b) q = 0 ↔ ¬ bitV (nI a) q = 0 ∨ ¬ bitV (nI b) q = 0) := by decide +kernel
  exact key a ha b hb q hq
theorem bt_0 {q : Nat} (hq : q < 6) : ¬ bt 0 q := by
  have key : ∀ q, q < 6 → bitV 0 q = 0 := by decide +kernel
  exact fun z => z (key q hq)
theorem Msk.z : Msk 0 := ⟨0, by omega, rfl⟩
theorem bt_ext {v w : Int32} (h : Msk v) (g : Msk w) (e : ∀ q, q < 6 → (bt v q ↔ bt w q)) : v = w := by
  obtain ⟨a, ha, rfl⟩ := h
  obtain ⟨b, hb, rfl⟩ := g
  have key : ∀ a, a < 64 → a = (if bitV (nI a) 0 = 0 then 0 else 1) + (if bitV (nI a) 1 = 0 then 0 else 2) + (if bitV (nI a) 2 = 0 then 0 else 4) + (if bitV (nI a) 3 = 0 then 0 else 8) + (if bitV (nI a) 4 = 0 then 0 else 16) + (if bitV (nI a) 5 = 0 then 0 else 32) := by decide +kernel
  have e2 : ∀ q, q < 6 → (bitV (nI a) q = 0 ↔ bitV (nI b) q = 0) := fun q hq => by
    have := e q hq
    unfold bt at this
    exact ⟨fun z => Classical.byContradiction fun y => this.mpr y z, fun z => Classical.byContradiction fun y => this.mp y z⟩
  have ka := key a ha
  have kb := key b hb
  simp only [e2 0 (by omega), e2 1 (by omega), e2 2 (by omega), e2 3 (by omega), e2 4 (by omega), e2 5 (by omega)] at ka
  rw [ka, ← kb]
/-- how many of the first k are in -/
def cn (v : Int32) : Nat → Nat
  | 0 => 0
  | k + 1 => cn v k + (if bitV v k = 0 then 0 else 1)
theorem cn_le (v : Int32) : ∀ k, cn v k ≤ k
  | 0 => Nat.le_refl _
  | k + 1 => by
    have := cn_le v k
    show cn v k + (if bitV v k = 0 then 0 else 1) ≤ k + 1
    split <;> omega
theorem cn_all {v : Int32} : ∀ k, cn v k = k → ∀ q, q < k → bt v q
  | 0, _ => fun q hq => absurd hq (Nat.not_lt_zero _)
  | k + 1, h => by
    have h : cn v k + (if bitV v k = 0 then 0 else 1) = k + 1 := h
    have := cn_le v k
    intro q hq
    by_cases c : bitV v k = 0
    · rw [if_pos c] at h; omega
    · rw [if_neg c] at h
      by_cases d : q = k
      · rw [d]; exact c
      · exact cn_all k (by omega) q (by omega)
theorem cn_mono {v w : Int32} : ∀ k, (∀ q, q < k → bt v q → bt w q) → cn v k ≤ cn w k ∧ ((∃ q, q < k ∧ bt w q ∧ ¬ bt v q) → cn v k + 1 ≤ cn w k)
  | 0, _ => ⟨Nat.le_refl _, fun ⟨q, hq, _⟩ => absurd hq (Nat.not_lt_zero _)⟩
  | k + 1, h => by
    obtain ⟨i1, i2⟩ := cn_mono (v := v) (w := w) k (fun q hq => h q (by omega))
    have hk := h k (by omega)
    have e1 : cn v (k + 1) = cn v k + (if bitV v k = 0 then 0 else 1) := rfl
    have e2 : cn w (k + 1) = cn w k + (if bitV w k = 0 then 0 else 1) := rfl
    rw [e1, e2]
    unfold bt at hk
    constructor
    · by_cases c : bitV v k = 0
      · rw [if_pos c]; split <;> omega
      · rw [if_neg c, if_neg (hk c)]; omega
    · rintro ⟨q, hq, q1, q2⟩
      by_cases d : q = k
      · subst d
        have q2 : bitV v q = 0 := Classical.byContradiction fun z => q2 z
        rw [if_pos q2, if_neg q1]; omega
      · have := i2 ⟨q, by omega, q1, q2⟩
        by_cases c : bitV v k = 0
        · rw [if_pos c]; split <;> omega
        · rw [if_neg c, if_neg (hk c)]; omega
/-- a growing sequence of masks on the first n stands still in time -/
theorem grow {V : Nat → Int32} {n : Nat} (hn : n ≤ 6) (hm : ∀ k, Msk (V k)) (hi : ∀ k q, q < 6 → bt (V k) q → bt (V (k + 1)) q) (hb : ∀ k q, q < 6 → bt (V k) q → q < n) (h1 : 1 ≤ cn (V 0) n) (hs : ∀ k, V (k + 1) = V k → V (k + 2) = V (k + 1)) : ∀ k, k + 1 ≤ cn (V k) n ∨ V (k + 1) = V k
  | 0 => Or.inl h1
  | k + 1 => by
    by_cases c : V (k + 1) = V k
    · exact Or.inr (hs k c)
    · rcases grow hn hm hi hb h1 hs k with g | g
      · left
        have hex : ∃ q, q < n ∧ bt (V (k + 1)) q ∧ ¬ bt (V k) q := Classical.byContradiction fun z => by
          apply c
          refine bt_ext (hm _) (hm _) (fun q hq => ⟨fun y => Classical.byContradiction fun x => z ⟨q, hb _ q hq y, y, x⟩, hi k q hq⟩)
        have := (cn_mono (v := V k) (w := V (k + 1)) n (fun q hq => hi k q (by omega))).2 hex
        omega
      · exact absurd g c

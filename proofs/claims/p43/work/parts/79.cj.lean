/-! camps counted by joining -/
def kP (b : Nat → Bool) : Nat → Nat
  | 0 => 0
  | k + 1 => kP b k + (if b k = true then 1 else 0)
theorem kP_e {b c : Nat → Bool} : ∀ n, (∀ q, q < n → b q = c q) → kP b n = kP c n
  | 0, _ => rfl
  | n + 1, h => by
    show kP b n + _ = kP c n + _
    rw [kP_e n (fun q hq => h q (by omega)), h n (by omega)]
theorem kP_le (b : Nat → Bool) : ∀ n, kP b n ≤ n
  | 0 => Nat.le_refl _
  | n + 1 => by
    have := kP_le b n
    show kP b n + (if b n = true then 1 else 0) ≤ n + 1
    split <;> omega
theorem kP_1 {b c : Nat → Bool} {v : Nat} (hb : b v = true) (hc : c v = false) : ∀ n, (∀ q, q < n → q ≠ v → b q = c q) → (n ≤ v → kP b n = kP c n) ∧ (v < n → kP b n = kP c n + 1)
  | 0, _ => ⟨fun _ => rfl, fun h => absurd h (Nat.not_lt_zero _)⟩
  | n + 1, h => by
    obtain ⟨i1, i2⟩ := kP_1 hb hc n (fun q hq => h q (by omega))
    have e1 : kP b (n + 1) = kP b n + (if b n = true then 1 else 0) := rfl
    have e2 : kP c (n + 1) = kP c n + (if c n = true then 1 else 0) := rfl
    constructor
    · intro q
      rw [e1, e2, i1 (by omega), h n (by omega) (by omega)]
    · intro q
      by_cases d : n = v
      · subst d
        rw [e1, e2, i1 (Nat.le_refl _), hb, hc]
        simp
      · rw [e1, e2, i2 (by omega), h n (by omega) d]; omega
def fsB (g : Nat → Nat) (q : Nat) : Bool := (List.range q).all (fun p => decide (¬ g p = g q))
def imB (g : Nat → Nat) (n v : Nat) : Bool := (List.range n).any (fun q => decide (g q = v))
theorem fsB_t {g : Nat → Nat} {q : Nat} : fsB g q = true ↔ ∀ p, p < q → ¬ g p = g q := by
  unfold fsB; simp [List.all_eq_true]
theorem imB_t {g : Nat → Nat} {n v : Nat} : imB g n v = true ↔ ∃ q, q < n ∧ g q = v := by
  unfold imB; simp [List.any_eq_true]
theorem cnt_im {g : Nat → Nat} {N : Nat} : ∀ n, (∀ q, q < n → g q < N) → kP (fsB g) n = kP (imB g n) N
  | 0, _ => by
    have : ∀ N, kP (imB g 0) N = 0 := fun N => by
      induction N with
      | zero => rfl
      | succ N ih => show kP (imB g 0) N + _ = 0; rw [ih]; rfl
    rw [this]; rfl
  | n + 1, h => by
    have ih := cnt_im (N := N) n (fun q hq => h q (by omega))
    show kP (fsB g) n + (if fsB g n = true then 1 else 0) = _
    by_cases c : fsB g n = true
    · rw [if_pos c, ih]
      have c2 := fsB_t.mp c
      have e0 : imB g n (g n) = false := by
        by_cases d : imB g n (g n) = true
        · obtain ⟨q, q1, q2⟩ := imB_t.mp d; exact absurd q2 (c2 q q1)
        · exact Bool.not_eq_true _ ▸ d
      have e1 : imB g (n + 1) (g n) = true := imB_t.mpr ⟨n, by omega, rfl⟩
      refine ((kP_1 (b := imB g (n + 1)) (c := imB g n) e1 e0 N (fun q hq hne => ?_)).2 (h n (by omega))).symm
      rw [Bool.eq_iff_iff, imB_t, imB_t]
      constructor
      · rintro ⟨z, z1, z2⟩
        by_cases d : z = n
        · subst d; exact absurd z2.symm hne
        · exact ⟨z, by omega, z2⟩
      · rintro ⟨z, z1, z2⟩; exact ⟨z, by omega, z2⟩
    · rw [if_neg c, ih, Nat.add_zero]
      refine kP_e N (fun q hq => ?_)
      rw [Bool.eq_iff_iff, imB_t, imB_t]
      constructor
      · rintro ⟨z, z1, z2⟩; exact ⟨z, by omega, z2⟩
      · rintro ⟨z, z1, z2⟩
        by_cases d : z = n
        · subst d
          have : ∃ p, p < z ∧ g p = g z := Classical.byContradiction fun y => c (fsB_t.mpr fun p hp e => y ⟨p, hp, e⟩)
          obtain ⟨p, p1, p2⟩ := this
          exact ⟨p, p1, p2.trans z2⟩
        · exact ⟨z, by omega, z2⟩
def fxB (f : Nat → Int32) (q : Nat) : Bool := decide (f q = nI q)
/-- labels whose own label is themselves: as many fixed ones as first ones -/
theorem fx_fs {f : Nat → Int32} {n : Nat} (hn : n ≤ 6) (hr : ∀ q, q < n → ∃ v, v < n ∧ f q = nI v ∧ f v = nI v) : kP (fxB f) n = kP (fsB (fun q => tN (f q))) n := by
  have hv : ∀ q, q < n → ∃ v, v < n ∧ tN (f q) = v ∧ f q = nI v ∧ f v = nI v := fun q hq => by
    obtain ⟨v, v1, v2, v3⟩ := hr q hq
    exact ⟨v, v1, by rw [v2]; exact tN_nI (by omega), v2, v3⟩
  rw [cnt_im (g := fun q => tN (f q)) (N := n) n (fun q hq => by obtain ⟨v, v1, v2, -⟩ := hv q hq; show tN (f q) < n; omega)]
  refine kP_e n (fun q hq => ?_)
  rw [Bool.eq_iff_iff, imB_t]
  unfold fxB
  rw [decide_eq_true_iff]
  constructor
  · intro e; exact ⟨q, hq, by show tN (f q) = q; rw [e]; exact tN_nI (by omega)⟩
  · rintro ⟨z, z1, z2⟩
    obtain ⟨v, v1, v2, v3, v4⟩ := hv z z1
    have e : q = v := z2.symm.trans v2
    rw [e]; exact v4
section JN
variable {σ μ : Mem} {n mb p : Nat}
/-- the same camp, or the same person -/
def TT (h : Nat → Int32) (n q z : Nat) : Prop := q = z ∨ (¬ sdR h q = 0 ∧ ¬ sdR h z = 0 ∧ cmR h n q = cmR h n z)
theorem TT.tr {h : Nat → Int32} {a b c : Nat} (x : TT h n a b) (y : TT h n b c) : TT h n a c := by
  rcases x with rfl | x
  · exact y
  · rcases y with rfl | y
    · exact Or.inr x
    · exact Or.inr ⟨x.1, y.2.1, x.2.2.trans y.2.2⟩
theorem TT.sy {h : Nat → Int32} {a b : Nat} (x : TT h n a b) : TT h n b a := by
  rcases x with rfl | x
  · exact Or.inl rfl
  · exact Or.inr ⟨x.2.1, x.1, x.2.2.symm⟩
/-- who is allied is of one camp -/
theorem al_T (hw : WF (μ 277) n mb) (hg : HR σ 1 (μ 277)) {q z : Nat} (hq : q < n) (hz : z < n) (ha : ¬ alliedB σ (1 + 1) q z = 0) : TT (μ 277) n q z := by
  have hn := hw.1.2.1
  obtain ⟨a1, a2, a3⟩ := (al_e hw hg (by omega) (by omega)).mp ha
  have a2' : ¬ sdR (μ 277) z = 0 := by rw [← a3]; exact a2
  refine Or.inr ⟨a2, a2', ?_⟩
  have sub : ∀ q z, q < n → z < n → ¬ sdR (μ 277) q = 0 → sdR (μ 277) q = sdR (μ 277) z → ¬ μ 277 (36 + 6 * q + z) ≤ 0 → ∀ y, y < 6 → bt (cmK (μ 277) n q 6) y → bt (cmK (μ 277) n z 6) y := fun q z hq hz s1 s2 s3 => by
    have Kz := cmK_b (h := μ 277) hn hz 6
    have s4 : ¬ μ 277 (36 + 6 * z + q) ≤ 0 := by rw [hw.2.2.2.1 z q (by omega) (by omega)]; exact s3
    have qz : bt (cmK (μ 277) n z 6) q := cmK_cl hn hz hz hq Kz.2.1 ⟨s4, s2⟩
    exact (cmK_b (h := μ 277) hn hq 6).2.2 (fun y => bt (cmK (μ 277) n z 6) y) qz (fun a b ha hb hC hE => cmK_cl hn hz ha hb hC ⟨hE.1, hE.2.trans s2⟩)
  unfold cmR
  rw [if_neg a2, if_neg a2']
  exact bt_ext (cmK_b hn hq 6).1 (cmK_b hn hz 6).1 (fun y hy => ⟨sub q z hq hz a2 a3 a1 y hy, sub z q hz hq a2' a3.symm (by rw [hw.2.2.2.1 z q (by omega) (by omega)]; exact a1) y hy⟩)
/-- the labels, and the number found so far -/
def JI (h : Nat → Int32) (n : Nat) (P : Int32) (a : (Nat → Int32) × Int32) : Prop := (∀ q, q < n → ∃ v, v < n ∧ a.1 q = nI v ∧ a.1 v = nI v) ∧ (∀ q z, q < n → z < n → a.1 q = a.1 z → TT h n q z) ∧ a.2 = nI (kP (fxB a.1) n) - P
theorem JI_step {P : Int32} (hw : WF (μ 277) n mb) (hg : HR σ 1 (μ 277)) {i j : Nat} (hi : i < n) (hj : j < n) {a : (Nat → Int32) × Int32} (H : JI (μ 277) n P a) : JI (μ 277) n P (jstep σ (1 + 1) n i j a) ∧ (∀ q z, q < n → z < n → a.1 q = a.1 z → (jstep σ (1 + 1) n i j a).1 q = (jstep σ (1 + 1) n i j a).1 z) ∧ (¬ alliedB σ (1 + 1) i j = 0 → (jstep σ (1 + 1) n i j a).1 i = (jstep σ (1 + 1) n i j a).1 j) := by
  have hn := hw.1.2.1
  obtain ⟨H1, H2, H3⟩ := H
  unfold jstep
  by_cases c : alliedB σ (1 + 1) i j = 0
  · rw [if_pos c]; exact ⟨⟨H1, H2, H3⟩, fun _ _ _ _ e => e, fun y => absurd c y⟩
  · rw [if_neg c]
    by_cases d : a.1 i = a.1 j
    · rw [if_pos d]; exact ⟨⟨H1, H2, H3⟩, fun _ _ _ _ e => e, fun _ => d⟩
    · rw [if_neg d]
      have E : ∀ q, q < n → fil (fun q => if a.1 q = a.1 j then a.1 i else a.1 q) a.1 n q = if a.1 q = a.1 j then a.1 i else a.1 q := fun q hq => if_pos hq
      generalize fil (fun q => if a.1 q = a.1 j then a.1 i else a.1 q) a.1 n = f at E
      obtain ⟨vi, i1, i2, i3⟩ := H1 i hi
      obtain ⟨vj, j1, j2, j3⟩ := H1 j hj
      have hne : vi ≠ vj := fun e => d (by rw [i2, j2, e])
      have hij := al_T hw hg hi hj c
      refine ⟨⟨fun q hq => ?_, fun q z hq hz e => ?_, ?_⟩, fun q z hq hz e => ?_, fun _ => ?_⟩
      · show ∃ v, v < n ∧ f q = nI v ∧ f v = nI v
        rw [E q hq]
        by_cases e : a.1 q = a.1 j
        · rw [if_pos e]
          refine ⟨vi, i1, i2, ?_⟩
          rw [E vi i1, if_neg (by rw [i3, j2]; exact fun y => hne ((nI_eq (by omega) (by omega)).mp y))]; exact i3
        · rw [if_neg e]
          obtain ⟨v, v1, v2, v3⟩ := H1 q hq
          refine ⟨v, v1, v2, ?_⟩
          rw [E v v1, if_neg (by rw [v3, ← v2]; exact e)]; exact v3
      · have e : f q = f z := e
        rw [E q hq, E z hz] at e
        by_cases e1 : a.1 q = a.1 j
        · rw [if_pos e1] at e
          by_cases e2 : a.1 z = a.1 j
          · exact H2 q z hq hz (e1.trans e2.symm)
          · rw [if_neg e2] at e
            exact (H2 q j hq hj e1).tr (hij.sy.tr (H2 i z hi hz e))
        · rw [if_neg e1] at e
          by_cases e2 : a.1 z = a.1 j
          · rw [if_pos e2] at e
            exact (H2 q i hq hi e).tr (hij.tr (H2 z j hz hj e2).sy)
          · rw [if_neg e2] at e
            exact H2 q z hq hz e
      · have k := (kP_1 (b := fxB a.1) (c := fxB f) (v := vj) (decide_eq_true j3) (by
          unfold fxB
          rw [E vj j1, if_pos (j3.trans j2.symm), i2]
          exact decide_eq_false (fun y => hne ((nI_eq (by omega) (by omega)).mp y))) n (fun q hq hqv => by
          unfold fxB
          rw [E q hq]
          by_cases e : a.1 q = a.1 j
          · rw [if_pos e, e, i2, j2]
            have n1 : ¬ nI vj = nI q := fun y => hqv ((nI_eq (by omega) (by omega)).mp y).symm
            have n2 : ¬ nI vi = nI q := fun y => by
              have := (nI_eq (by omega) (by omega)).mp y
              subst this
              exact d (i2.trans (i3.symm.trans e))
            rw [decide_eq_false n1, decide_eq_false n2]
          · rw [if_neg e])).2 j1
        show a.2 + (-1) = nI (kP (fxB f) n) - P
        rw [H3, k, ← nI_1, Int32.sub_eq_add_neg, Int32.sub_eq_add_neg, Int32.add_assoc, Int32.add_assoc, Int32.add_comm (-P), ← Int32.add_assoc 1, show (1 : Int32) + -1 = 0 by decide, Int32.zero_add]
      · show f q = f z
        rw [E q hq, E z hz, e]
      · show f i = f j
        rw [E i hi, E j hj, if_neg d, if_pos rfl]
theorem JI_in {P : Int32} (hw : WF (μ 277) n mb) (hg : HR σ 1 (μ 277)) {i : Nat} (hi : i < n) {a : (Nat → Int32) × Int32} (H : JI (μ 277) n P a) : ∀ t, i + 1 + t ≤ n → JI (μ 277) n P (jin σ (1 + 1) n i a t) ∧ (∀ q z, q < n → z < n → a.1 q = a.1 z → (jin σ (1 + 1) n i a t).1 q = (jin σ (1 + 1) n i a t).1 z) ∧ ∀ j, i < j → j < i + 1 + t → ¬ alliedB σ (1 + 1) i j = 0 → (jin σ (1 + 1) n i a t).1 i = (jin σ (1 + 1) n i a t).1 j
  | 0, _ => ⟨H, fun _ _ _ _ e => e, fun j j1 j2 => absurd j1 (by omega)⟩
  | t + 1, ht => by
    obtain ⟨i1, i2, i3⟩ := JI_in hw hg hi H t (by omega)
    obtain ⟨s1, s2, s3⟩ := JI_step hw hg (j := i + 1 + t) hi (by omega) i1
    rw [jin_s]
    refine ⟨s1, fun q z hq hz e => s2 q z hq hz (i2 q z hq hz e), fun j j1 j2 ha => ?_⟩
    by_cases e : j = i + 1 + t
    · subst e; exact s3 ha
    · exact s2 i j hi (by omega) (i3 j j1 (by omega) ha)
theorem JI_out {P : Int32} (hw : WF (μ 277) n mb) (hg : HR σ 1 (μ 277)) {a : (Nat → Int32) × Int32} (H : JI (μ 277) n P a) : ∀ k, k ≤ n → JI (μ 277) n P (jout σ (1 + 1) n a k) ∧ ∀ i j, i < k → i < j → j < n → ¬ alliedB σ (1 + 1) i j = 0 → (jout σ (1 + 1) n a k).1 i = (jout σ (1 + 1) n a k).1 j
  | 0, _ => ⟨H, fun i j i1 => absurd i1 (Nat.not_lt_zero _)⟩
  | k + 1, hk => by
    obtain ⟨i1, i2⟩ := JI_out hw hg H k (by omega)
    obtain ⟨s1, s2, s3⟩ := JI_in hw hg (i := k) (by omega) i1 (n - (k + 1)) (by omega)
    rw [jout_s]
    refine ⟨s1, fun i j j1 j2 j3 ha => ?_⟩
    by_cases e : i = k
    · subst e; exact s3 j j2 (by omega) ha
    · exact s2 i j (by omega) j3 (i2 i j (by omega) j2 j3 ha)
end JN

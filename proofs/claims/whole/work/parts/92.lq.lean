/-! what a helper's answer tells -/
theorem nd_i {Es : List String} (hN : Es.Nodup) {i j : Nat} {E : String} (hi : Es[i]? = some E) (hj : Es[j]? = some E) : i = j := by
  obtain ⟨a1, a2⟩ := List.getElem?_eq_some_iff.mp hi
  obtain ⟨b1, b2⟩ := List.getElem?_eq_some_iff.mp hj
  have P := List.pairwise_iff_getElem.mp hN
  rcases Nat.lt_trichotomy i j with q | q | q
  · exact absurd (a2.trans b2.symm) (P i j a1 b1 q)
  · exact q
  · exact absurd (b2.trans a2.symm) (P j i b1 a1 q)
theorem PXd_E {Es : List String} {T : Int32} {P : Mem → Prop} {E : String} {τ : Mem} (h : PXd Es T P E τ) : E ∈ Es := by
  obtain ⟨-, i, hi, -⟩ := h
  exact List.mem_of_getElem? hi
/-- the helper's number is T, and where T is 0 the answer lies in out[0] -/
theorem LQ_q {Es : List String} (hN : Es.Nodup) (hl : Es.length ≤ 9) {v : Nat → Int64} {w : Nat → UInt64} {T V r : Int32} {P P' : Mem → Prop} {u : Mem × (Nat → Int64) × (Nat → UInt64)} (h : LQ Es v w (fun a τ => P τ ∧ T = 0 ∧ a = V) (PXd Es T P') r u) :
    r = T ∧ u.2.2 = w ∧ ((T = 0 ∧ P u.1 ∧ u.2.1 0 = V.toInt64) ∨ (¬ T = 0 ∧ P' u.1)) := by
  rcases h with ⟨h1, a, ⟨h2, h3, h4⟩, h5⟩ | ⟨i, E, h1, ⟨h2, j, h3, h4⟩, h5, h6⟩
  · refine ⟨h1.trans h3.symm, by rw [h5], Or.inl ⟨h3, h2, ?_⟩⟩
    rw [h5, h4]; show vp_updL v 0 V.toInt64 0 = _; exact pk_uLs
  · have e := nd_i hN h1 h3
    subst e
    have hi := (List.getElem?_eq_some_iff.mp h1).1
    refine ⟨h5.trans h4.symm, by rw [h6], Or.inr ⟨?_, h2⟩⟩
    rw [h4]; exact nI_ne0 (by omega) (by omega)
/-- a call that throws one class only, with no number told -/
theorem LQ_1 {E0 : String} {v : Nat → Int64} {w : Nat → UInt64} {r : Int32} {post : Int32 → Mem → Prop} {P' : Mem → Prop} {u : Mem × (Nat → Int64) × (Nat → UInt64)} (h : LQ [E0] v w post (fun E τ => E = E0 ∧ P' τ) r u) :
    u.2.2 = w ∧ ((r = 0 ∧ ∃ a, post a u.1 ∧ u.2.1 0 = a.toInt64) ∨ (r = 1 ∧ P' u.1)) := by
  rcases h with ⟨h1, a, h2, h5⟩ | ⟨i, E, h1, ⟨h2, h3⟩, h5, h6⟩
  · refine ⟨by rw [h5], Or.inl ⟨h1, a, h2, ?_⟩⟩
    rw [h5]; show vp_updL v 0 a.toInt64 0 = _; exact pk_uLs
  · have hi := (List.getElem?_eq_some_iff.mp h1).1
    have e : i = 0 := by
      have : i < 1 := hi
      omega
    subst e
    exact ⟨by rw [h6], Or.inr ⟨h5.trans rfl, h3⟩⟩
/-- the commands: a fault (1), or a command refused (2) -/
theorem LQ_c {v : Nat → Int64} {w : Nat → UInt64} {r : Int32} {post : Int32 → Mem → Prop} {P1 P2 : Mem → Prop} {u : Mem × (Nat → Int64) × (Nat → UInt64)} (h : LQ [eIA, eUO] v w post (fun E τ => (E = eIA ∧ P1 τ) ∨ (E = eUO ∧ P2 τ)) r u) :
    u.2.2 = w ∧ ((r = 0 ∧ ∃ a, post a u.1 ∧ u.2.1 0 = a.toInt64) ∨ (r = 1 ∧ P1 u.1) ∨ (r = 2 ∧ P2 u.1)) := by
  rcases h with ⟨h1, a, h2, h5⟩ | ⟨i, E, h1, h2, h5, h6⟩
  · refine ⟨by rw [h5], Or.inl ⟨h1, a, h2, ?_⟩⟩
    rw [h5]; show vp_updL v 0 a.toInt64 0 = _; exact pk_uLs
  · refine ⟨by rw [h6], Or.inr ?_⟩
    have hN : [eIA, eUO].Nodup := by decide
    rcases h2 with ⟨h2, h3⟩ | ⟨h2, h3⟩
    · subst h2
      have e := nd_i hN h1 (j := 0) rfl
      subst e
      exact Or.inl ⟨h5.trans rfl, h3⟩
    · subst h2
      have e := nd_i hN h1 (j := 1) rfl
      subst e
      exact Or.inr ⟨h5.trans rfl, h3⟩
/-- equal ints are equal longs -/
theorem tl_eq {a b : Int32} (h : a = b) : a.toInt64 = b.toInt64 := by rw [h]

/-! parts of the world, for what is new -/
theorem at_e {D : va_G} {cl : List vw_C} {q : Nat × va_E} {H H1 : Heap} (h : va_at D cl q H) (e : H1[q.1]? = H[q.1]?) : va_at D cl q H1 := by
  unfold va_at at h ⊢
  split at h
  · rw [e]; exact h
  · obtain ⟨r, h1, h2⟩ := h
    refine ⟨r, h1, ?_⟩
    unfold t_OB at h2 ⊢
    rw [e]; exact h2
theorem at_lt {D : va_G} {cl : List vw_C} {q : Nat × va_E} {H : Heap} (h : va_at D cl q H) : q.1 < H.size := by
  unfold va_at at h
  split at h
  · exact (Array.getElem?_eq_some_iff.mp h).1
  · obtain ⟨_, _, h⟩ := h
    unfold t_OB at h
    obtain ⟨_, h, -⟩ := h
    exact (Array.getElem?_eq_some_iff.mp h).1
/-- the callee's part A becomes A', the rest B stays -/
theorem pw_join {D : va_G} {cl : List vw_C} {A0 : Nat → Prop} {A A' B : va_W} {H H1 : Heap} (hP : va_P D cl (A ++ B) H) (hD : va_D A0 (A ++ B)) (hP1 : va_P D cl A' H1) (hD1 : va_D (fun q => (∃ (k : Nat) (e : Nat × va_E), A[k]? = some e ∧ e.1 = q) ∨ H.size ≤ q) A') (hf : ∀ q : Nat, q < H.size → (∀ (k : Nat) (e : Nat × va_E), A[k]? = some e → e.1 ≠ q) → H1[q]? = H[q]?) (hA : ∀ q : Nat, H.size ≤ q → A0 q) :
    va_P D cl (A' ++ B) H1 ∧ va_D A0 (A' ++ B) := by
  have inA : ∀ (k : Nat) (e : Nat × va_E), A[k]? = some e → (A ++ B)[k]? = some e := fun k e h => by
    rw [List.getElem?_append_left (List.getElem?_eq_some_iff.mp h).1]; exact h
  have inB : ∀ (k : Nat) (e : Nat × va_E), B[k]? = some e → (A ++ B)[A.length + k]? = some e := fun k e h => by
    rw [List.getElem?_append_right (by omega), Nat.add_sub_cancel_left]; exact h
  have split' : ∀ (k : Nat) (e : Nat × va_E), (A' ++ B)[k]? = some e → (k < A'.length ∧ A'[k]? = some e) ∨ (A'.length ≤ k ∧ B[k - A'.length]? = some e) := fun k e h => by
    by_cases c : k < A'.length
    · rw [List.getElem?_append_left c] at h; exact Or.inl ⟨c, h⟩
    · rw [List.getElem?_append_right (by omega)] at h; exact Or.inr ⟨by omega, h⟩
  have apart : ∀ (k j : Nat) (e f : Nat × va_E), A'[k]? = some e → B[j]? = some f → e.1 ≠ f.1 := fun k j e f he hf' heq => by
    rcases hD1.2 k e he with ⟨i, g, h1, h2⟩ | h1
    · have := hD.1 i (A.length + j) g f (inA i g h1) (inB j f hf') (h2.trans heq)
      have := (List.getElem?_eq_some_iff.mp h1).1
      omega
    · have := at_lt (hP _ f (inB j f hf'))
      omega
  refine ⟨fun k e he => ?_, fun i j p q hp hq hpq => ?_, fun k e he => ?_⟩
  · rcases split' k e he with ⟨-, h⟩ | ⟨-, h⟩
    · exact hP1 k e h
    · have hb := hP _ e (inB _ e h)
      refine at_e hb (hf _ (at_lt hb) (fun i g h1 h2 => ?_))
      have := hD.1 i (A.length + (k - A'.length)) g e (inA i g h1) (inB _ e h) h2
      have := (List.getElem?_eq_some_iff.mp h1).1
      omega
  · rcases split' i p hp with ⟨c1, h1⟩ | ⟨c1, h1⟩ <;> rcases split' j q hq with ⟨c2, h2⟩ | ⟨c2, h2⟩
    · exact hD1.1 i j p q h1 h2 hpq
    · exact absurd hpq (apart _ _ _ _ h1 h2)
    · exact absurd hpq.symm (apart _ _ _ _ h2 h1)
    · have := hD.1 _ _ p q (inB _ p h1) (inB _ q h2) hpq
      omega
  · rcases split' k e he with ⟨-, h⟩ | ⟨-, h⟩
    · rcases hD1.2 k e h with ⟨i, g, h1, h2⟩ | h1
      · rw [← h2]; exact hD.2 i g (inA i g h1)
      · exact hA _ h1
    · exact hD.2 _ e (inB _ e h)
/-- some blocks of the world -/
def wlP (ct : Nat → ClassId) (ek ad : Nat → Nat) (σ : Mem) (bs : List Nat) : va_W := bs.map (fun b => (ad b, cellF ct ek ad b (σ b)))
theorem wlP_app {ct : Nat → ClassId} {ek ad : Nat → Nat} {σ : Mem} {as bs : List Nat} : wlP ct ek ad σ (as ++ bs) = wlP ct ek ad σ as ++ wlP ct ek ad σ bs := by unfold wlP; rw [List.map_append]
theorem wlP_all {ct : Nat → ClassId} {ek ad : Nat → Nat} {σ : Mem} : wlP ct ek ad σ (List.range 276) = wl ct ek ad σ := rfl
/-- blocks told in any order make the world -/
theorem wlP_to {D : va_G} {cl : List vw_C} {ct : Nat → ClassId} {ek ad : Nat → Nat} {σ : Mem} {bs : List Nat} {A : Nat → Prop} {H : Heap} (hm : ∀ b, b < 276 → b ∈ bs) (hP : va_P D cl (wlP ct ek ad σ bs) H) (hD : va_D A (wlP ct ek ad σ bs)) : va_P D cl (wl ct ek ad σ) H ∧ va_D A (wl ct ek ad σ) := by
  have at1 : ∀ (k : Nat) (q : Nat × va_E), (wl ct ek ad σ)[k]? = some q → k < 276 ∧ q = (ad k, cellF ct ek ad k (σ k)) := fun k q h => by
    have hk : k < 276 := by have := (List.getElem?_eq_some_iff.mp h).1; rw [wl_len] at this; exact this
    have e := wl_at (ct := ct) (ek := ek) (ad := ad) (σ := σ) (X := []) hk
    rw [List.append_nil] at e
    exact ⟨hk, Option.some.inj (h.symm.trans e)⟩
  have pos : ∀ b, b < 276 → ∃ k, bs[k]? = some b ∧ (wlP ct ek ad σ bs)[k]? = some (ad b, cellF ct ek ad b (σ b)) := fun b hb => by
    obtain ⟨k, h1, h2⟩ := List.getElem_of_mem (hm b hb)
    have h3 : bs[k]? = some b := List.getElem?_eq_some_iff.mpr ⟨h1, h2⟩
    refine ⟨k, h3, ?_⟩
    unfold wlP
    rw [List.getElem?_map, h3]; rfl
  refine ⟨fun k q hq => ?_, fun i j p q hp hq hpq => ?_, fun k q hq => ?_⟩
  · obtain ⟨hk, rfl⟩ := at1 k q hq
    obtain ⟨i, -, hi⟩ := pos k hk
    exact hP i _ hi
  · obtain ⟨hi, rfl⟩ := at1 i p hp
    obtain ⟨hj, rfl⟩ := at1 j q hq
    obtain ⟨a, a1, a2⟩ := pos i hi
    obtain ⟨b, b1, b2⟩ := pos j hj
    have e := hD.1 a b _ _ a2 b2 hpq
    rw [e, b1] at a1
    exact (Option.some.inj a1).symm
  · obtain ⟨hk, rfl⟩ := at1 k q hq
    obtain ⟨i, -, hi⟩ := pos k hk
    exact hD.2 i _ hi

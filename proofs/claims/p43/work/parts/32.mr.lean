/-! rounds that are only thought of: plain functions -/
def LpG (τ σ : Mem) (r : Nat → Int32) : Prop := (∀ c, c ≠ 277 → c ≠ 282 → τ c = σ c) ∧ τ 277 = r
theorem LpG_0 {σ τ : Mem} {f : Nat → Int32} {x : Int32} (h : τ = sb (sg σ 276 20 x) 279 f) : LpG τ (sb (sg σ 276 20 x) 279 f) (σ 277) := by
  subst h
  exact ⟨fun _ _ _ => rfl, by rw [sb_n (by decide), th_r]⟩
theorem LpG_go {τ σ : Mem} {h : Nat → Int32} {n mb k : Nat} (g : LpG τ σ (goK h n mb k).1) : LpG (goM τ n (goK h n mb k).2) σ (goK h n mb (k + 1)).1 := by
  refine ⟨fun c h1 h2 => ?_, ?_⟩
  · unfold goM
    rw [sb_n h1, sb_n h2, g.1 c h1 h2]
  · unfold goM
    rw [sb_s, g.2]
    rfl
/-- behind a question that only thinks: the memory is σ, thrown is x -/
def QG (τ σ : Mem) (x : Int32) : Prop := (∀ c, c ≠ 277 → c ≠ 279 → c ≠ 282 → τ c = thM σ x c) ∧ ∀ j, j < 96 → τ 277 j = σ 277 j
theorem QG_1 {σ : Mem} {x y z : Int32} (h : z = y) : QG (sg (sg σ 276 20 x) 276 20 y) σ z := by
  subst h
  rw [sg_sg]
  exact ⟨fun _ _ _ _ => rfl, fun j _ => by rw [th_r]⟩
theorem QG_0 {σ : Mem} {x z : Int32} (h : z = x) : QG (sg σ 276 20 x) σ z := by
  subst h
  exact ⟨fun _ _ _ _ => rfl, fun j _ => by rw [th_r]⟩
theorem QG_f {τ σ : Mem} {r : Nat → Int32} {x : Int32} (g : LpG τ (sb (sg σ 276 20 0) 279 (fil (σ 277) (σ 279) 96)) r) (h : x = 0) : QG (sb τ 277 (fil (τ 279) (τ 277) 96)) σ x := by
  subst h
  refine ⟨fun c h1 h2 h3 => by rw [sb_n h1, g.1 c h1 h3, sb_n h2]; rfl, fun j hj => ?_⟩
  rw [sb_s, fil_lt hj, g.1 279 (by decide) (by decide), sb_s, fil_lt hj]
theorem QG_f2 {τ σ : Mem} {r : Nat → Int32} {x y : Int32} (g : LpG τ (sb (sg σ 276 20 0) 279 (fil (σ 277) (σ 279) 96)) r) (h : x = y) : QG (sg (sb τ 277 (fil (τ 279) (τ 277) 96)) 276 20 y) σ x := by
  subst h
  refine ⟨fun c h1 h2 h3 => ?_, fun j hj => ?_⟩
  · by_cases hc : c = 276
    · subst hc
      unfold thM
      rw [sg_s, sg_s, sb_n h1, g.1 276 h1 h3, sb_n h2, sg_s]
      funext j
      unfold upd
      split <;> rfl
    · unfold thM
      rw [sg_n hc, sg_n hc, sb_n h1, g.1 c h1 h3, sb_n h2, sg_n hc]
  · rw [sg_n (by decide), sb_s, fil_lt hj, g.1 279 (by decide) (by decide), sb_s, fil_lt hj]
def tinV (σ : Mem) (n mb : Nat) (x y : Int32) : Int32 := if one1 σ x = 0 then 0 else if rngB y 0 30 = 0 then 0 else (goK (σ 277) n mb (tN y)).1 (6 + 5 * tN x + 0)
def tinT (σ : Mem) (x y : Int32) : Int32 := if one1 σ x = 0 then 1 else if rngB y 0 30 = 0 then 2 else 0
def rstiV (h : Nat → Int32) (n mb : Nat) : Int32 := if n = 0 then 0 else if 99 < rsR h n mb 100 0 then 0 else nI (rsR h n mb 100 0)
def rstiT (h : Nat → Int32) (n mb : Nat) : Int32 := if n = 0 then 1 else if 99 < rsR h n mb 100 0 then 1 else 0
theorem cntB_s {f : Nat → Int32} {k : Nat} : cntB f (k + 1) = if f k = 0 then cntB f k else cntB f k + 1 := rfl

/-! the reference: camps by their lowest, its line, what breaks: plain functions -/
def ntJ (x : Int32) : Int32 := (x ^^^ (-1)) &&& (x - 1)
def ntV (x : Int32) : Int32 := if 0 < ntJ x then (if ntJ x ≤ 16 then (if ntJ x ≤ 4 then 1 + ush (ntJ x) 1 else 3 + ush (ush (ntJ x) 2) 1) else if ush (ntJ x) 4 ≤ 4 then 5 + ush (ush (ntJ x) 4) 1 else 7 + ush (ush (ush (ntJ x) 4) 2) 1) else ntJ x &&& 32
theorem nt_le : ∀ a, a < 64 → ntJ (nI a) ≤ 65536 ∧ ntJ (nI a) ≤ 256 := by decide +kernel
def cmsV (h : Nat → Int32) (n k : Nat) : Int32 := fo (fun p a => if sdR h p = 0 then a else if ntV (cmR h n p) = nI p then a + 1 else a) 0 k
theorem cmsV_s {h : Nat → Int32} {n k : Nat} : cmsV h n (k + 1) = if sdR h k = 0 then cmsV h n k else if ntV (cmR h n k) = nI k then cmsV h n k + 1 else cmsV h n k := rfl
theorem isR_s {h : Nat → Int32} {lo hi : Int32} {k : Nat} : isR h lo hi (k + 1) = if isR h lo hi k = 0 then (if h (72 + 4 * k + 0) = lo then (if h (72 + 4 * k + 1) = hi then 1 else 0) else 0) else 1 := rfl
theorem wr10 {x : Int32} (h : x = nI (tN x) ∧ tN x ≤ 99) : x / 10 ≤ 9 := by
  rw [h.1]
  have := h.2
  rw [show (10 : Int32) = nI 10 from rfl, pk_div (by omega) (by omega) (by omega)]
  exact nI_le (b := 9) (by omega) (by omega)
theorem okN_w {x : Int32} (h : okN x) : x = nI (tN x) ∧ tN x ≤ 99 := by
  obtain ⟨k, hk, rfl⟩ := h
  rw [tN_nI (by omega)]
  exact ⟨rfl, by omega⟩
theorem nI_w {k : Nat} (h : k ≤ 99) : nI k = nI (tN (nI k)) ∧ tN (nI k) ≤ 99 := by
  rw [tN_nI (by omega)]
  exact ⟨rfl, by omega⟩
theorem w6_w {x : Int32} {n : Nat} (h : x = nI (tN x) ∧ tN x < n) (hn : n ≤ 100) : x = nI (tN x) ∧ tN x ≤ 99 := ⟨h.1, by have := h.2; omega⟩
def linV (σ : Mem) (n : Nat) (x : Int32) : Int32 := if one1 σ x = 0 then 0 else lnK (σ 277) (thM σ 0) (tN x) n 276 9
def linM (σ : Mem) (n : Nat) (x : Int32) : Mem := if one1 σ x = 0 then thM σ 1 else lnK (σ 277) (thM σ 0) (tN x) n
def briN (σ : Mem) (n mb : Nat) (x : Int32) : Nat := brR (σ 277) n mb (σ 277 (72 + 4 * tN x + 0)) (σ 277 (72 + 4 * tN x + 1)) 99 0
def briV (σ : Mem) (n mb : Nat) (x : Int32) : Int32 := if mn1 σ x = 0 then 0 else nI (briN σ n mb x)
def briT (σ : Mem) (n mb : Nat) (x : Int32) : Int32 := if mn1 σ x = 0 then 1 else if briN σ n mb x = 0 then 2 else 0

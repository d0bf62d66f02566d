/-! the class's questions: what they answer, and which of the law's numbers stands for what they throw (0: nothing) -/
def PXd (Es : List String) (T : Int32) (P : Mem → Prop) : String → Mem → Prop := fun E τ => P τ ∧ ∃ i, Es[i]? = some E ∧ T = nI (i + 1)
abbrev eIB : String := "java/lang/IndexOutOfBoundsException"
abbrev eIA : String := "java/lang/IllegalArgumentException"
abbrev eNE : String := "java/util/NoSuchElementException"
abbrev eIS : String := "java/lang/IllegalStateException"
abbrev eUO : String := "java/lang/UnsupportedOperationException"
abbrev eAR : String := "java/lang/ArithmeticException"
theorem PX1 {E0 : String} {Es : List String} {T : Int32} {P : Mem → Prop} {τ : Mem} (hP : P τ) (hT : T = 1) : PXd (E0 :: Es) T P E0 τ := ⟨hP, 0, rfl, hT.trans rfl⟩
theorem PX2 {E0 E1 : String} {Es : List String} {T : Int32} {P : Mem → Prop} {τ : Mem} (hP : P τ) (hT : T = 2) : PXd (E0 :: E1 :: Es) T P E1 τ := ⟨hP, 1, rfl, hT.trans rfl⟩
theorem PX3 {E0 E1 E2 : String} {Es : List String} {T : Int32} {P : Mem → Prop} {τ : Mem} (hP : P τ) (hT : T = 3) : PXd (E0 :: E1 :: E2 :: Es) T P E2 τ := ⟨hP, 2, rfl, hT.trans rfl⟩
theorem PXu {E0 E : String} {Es : List String} {T T' : Int32} {P Q : Mem → Prop} {τ : Mem} (h : E = E0 ∧ P τ ∧ T' = 1) (hT : T' = 1 → T = 1) (hQ : P τ → Q τ) : PXd (E0 :: Es) T Q E τ := by
  obtain ⟨h1, h2, h3⟩ := h
  rw [h1]; exact PX1 (hQ h2) (hT h3)
abbrev hB (σ : Mem) (x : Int32) : Int32 := holdB x (σ (1 + 1) 7)
def npT (σ : Mem) (x : Int32) : Int32 := if hB σ x = 0 then 1 else 0
def nbT (σ : Mem) (x : Int32) : Int32 := if holdB x (σ (1 + 15) 4) = 0 then 1 else 0
def pofX (σ : Mem) (n : Nat) (x y : Int32) : Int32 :=
  if y = 0 then σ (1 + 1 + 1) (tN x) else if y = 1 then σ (1 + 1 + 2) (tN x) else if y = 2 then (if σ (1 + 1 + 3) (tN x) = 0 then 0 else 1) else if y = 3 then stepV (σ (1 + 1 + 2) (tN x)) (σ (1 + 1 + 3) (tN x))
  else if y = 4 then cntR (σ (1 + 1 + 7 + tN x)) n else if y = 5 then sumR (σ (1 + 1 + 7 + tN x)) 0 n else if y = 6 then σ (1 + 1 + 4) (tN x) else σ (1 + 1 + 5) (tN x)
def pofXT (σ : Mem) (x y : Int32) : Int32 :=
  if hB σ x = 0 then 1 else if y = 0 then 0 else if y = 1 then 0 else if y = 2 then 0 else if y = 3 then 0 else if y = 4 then 0 else if y = 5 then 0 else if y = 6 then 0 else if y = 7 then 0 else 2
def wgtXT (σ : Mem) (x y : Int32) : Int32 := if hB σ x = 0 then 1 else if hB σ y = 0 then 1 else 0
def bofX (σ : Mem) (x y : Int32) : Int32 :=
  if y = 0 then σ (1 + 15 + 1) (tN x) else if y = 1 then σ (1 + 15 + 2) (tN x) else if y = 2 then σ (1 + 15 + 3) (tN x) else if y = 3 then σ (1 + 15 + 4) (tN x) else diffB σ (1 + 15) (1 + 1) (tN x)
def bofXT (σ : Mem) (x y : Int32) : Int32 := if holdB x (σ (1 + 15) 4) = 0 then 1 else if y = 0 then 0 else if y = 1 then 0 else if y = 2 then 0 else if y = 3 then 0 else if y = 4 then 0 else 2
def pulXS (σ : Mem) (n : Nat) (x : Int32) : Int32 := (best (fun q => σ (1 + 1 + 7 + tN x) q * abI (σ (1 + 1 + 1) (tN x) - σ (1 + 1 + 1) q)) n).2
def pulXT (σ : Mem) (n : Nat) (x : Int32) : Int32 := if hB σ x = 0 then 1 else if 0 ≤ pulXS σ n x then 0 else 2
def fceXT (σ : Mem) (x y : Int32) : Int32 := if hB σ x = 0 then 1 else if rngB y 1 9 = 0 then 2 else 0
def facXF (σ : Mem) (x y : Int32) : Int32 := forceV y (σ (1 + 1 + 2) (tN x))
def facXA (σ : Mem) (x : Int32) : Int32 := abI (σ (1 + 1 + 1) (tN x))
def facX (σ : Mem) (x y : Int32) : Int32 := if facXA σ x = 0 then 0 else (facXA σ x + facXF σ x y - 1) / facXF σ x y
def facXT (σ : Mem) (x y : Int32) : Int32 := if hB σ x = 0 then 1 else if rngB y 1 9 = 0 then 2 else if facXA σ x = 0 then 0 else if 1 ≤ facXF σ x y then 0 else 3
def tinXT (σ : Mem) (x y : Int32) : Int32 := if hB σ x = 0 then 1 else if y < 0 then 2 else if y ≤ 30 then 0 else 2
/-- the memory but for the forecast -/
def FcP (τ σ : Mem) : Prop := ∀ c, ¬ (61 ≤ c ∧ c < 75) → τ c = σ c
def FcR (τ σ : Mem) (r : Nat → Int32) : Prop := FcP τ σ ∧ PRel τ 61 r
theorem FcR_0 {τ σ : Mem} {h : Nat → Int32} (g : PRel σ (1 + 1) h) (hc : CpP τ σ 61 (1 + 1) 6 ∧ τ 61 7 = σ (1 + 1) 7) : FcR τ σ h := by
  obtain ⟨⟨c1, c2, c3⟩, c4⟩ := hc
  refine ⟨fun c hc => c1 c (by omega), c4.trans g.1, fun p hp => ⟨?_, ?_, ?_, fun q hq => ?_⟩⟩
  · rw [c2 1 p (by omega) (by omega) hp]; exact (g.2 p hp).1
  · rw [c2 2 p (by omega) (by omega) hp]; exact (g.2 p hp).2.1
  · rw [c2 3 p (by omega) (by omega) hp]; exact (g.2 p hp).2.2.1
  · rw [c3 p q hp hq]; exact (g.2 p hp).2.2.2 q hq
theorem goK_SB {h : Nat → Int32} {n mb : Nat} (r : RowOK h n mb) (s : SB h) : ∀ k, SB (goK h n mb k).1
  | 0 => s
  | k + 1 => (goK_SB r s k).go (goK_ok r k)
theorem FcR_s {τ σ : Mem} {h : Nat → Int32} {n mb k : Nat} (r : RowOK h n mb) (s : SB h) (g : FcR τ σ (goK h n mb k).1) : FcR (prM τ 61 n n) σ (goK h n mb (k + 1)).1 := by
  refine ⟨fun c hc => ?_, g.2.go (goK_ok r k) (goK_SB r s k)⟩
  rw [← g.1 c hc]
  funext j
  rw [prM_ap, if_neg (by omega), if_neg (by omega), if_neg (by omega), if_neg (by omega)]
def rstXT (h : Nat → Int32) (n mb : Nat) : Int32 := if n = 0 then 1 else if 99 < rsR h n mb 100 0 then 1 else 0
theorem gmV_0 {h : Nat → Int32} {n : Nat} (hn : n ≤ 6) : gmV h n n ≤ 0 ↔ gmV h n n = 0 := by
  obtain ⟨j, hj, e⟩ := gmV_N (h := h) (n := n) n
  rw [e]
  refine ⟨fun z => ?_, fun z => by rw [z]; decide⟩
  rcases Nat.eq_zero_or_pos j with g | g
  · rw [g]; rfl
  · exact absurd z (nI_nle g (by omega))
/-- a beam's creaks, round by round -/
def ovK (h : Nat → Int32) (n mb i k : Nat) : Int32 := if apR (fun j => if j < 36 then (goK h n mb k).1 j else h j) i ≤ h (72 + 4 * i + 2) then 0 else 1
def ckK (h : Nat → Int32) (n mb i k : Nat) : Int32 := fo (fun q a => if ovK h n mb i (q + 1) = 0 then a else a + 1) (h (72 + 4 * i + 3)) k
theorem ckK_s {h : Nat → Int32} {n mb i k : Nat} : ckK h n mb i (k + 1) = if ovK h n mb i (k + 1) = 0 then ckK h n mb i k else ckK h n mb i k + 1 := rfl
def bkS (h : Nat → Int32) (n mb i : Nat) : Nat → Nat → Nat
  | 0, _ => 0
  | d + 1, k => if ckK h n mb i (k + 1) < 3 then bkS h n mb i d (k + 1) else k + 1
def briXN (h : Nat → Int32) (n mb : Nat) (x : Int32) : Nat := bkS h n mb (tN x) 99 0
def briXT (σ : Mem) (h : Nat → Int32) (n mb : Nat) (x : Int32) : Int32 := if holdB x (σ (1 + 15) 4) = 0 then 1 else if briXN h n mb x = 0 then 2 else 0
/-- the beams of a block and of a row -/
def BRel (τ : Mem) (bb : Nat) (h : Nat → Int32) : Prop := τ bb 4 = h 1 ∧ ∀ b, b < tN (h 1) → ∀ w, w < 4 → τ (bb + 1 + w) b = h (72 + 4 * b + w)
theorem ov_e {τ σ : Mem} {h : Nat → Int32} {n mb i k : Nat} (r : RowOK h n mb) (b : BRel σ (1 + 15) h) (hi : i < mb) (g : FcR τ σ (goK h n mb k).1) : overB τ (1 + 15) 61 i = ovK h n mb i k := by
  have hmb : tN (h 1) = mb := r.rw.2.2
  have e : ∀ w, w < 4 → τ (1 + 15 + 1 + w) i = h (72 + 4 * i + w) := fun w hw => by
    rw [g.1 _ (by omega)]; exact b.2 i (by omega) w hw
  have e0 : τ (1 + 15 + 1) i = h (72 + 4 * i + 0) := e 0 (by omega)
  have e1 : τ (1 + 15 + 2) i = h (72 + 4 * i + 1) := e 1 (by omega)
  have e2 : τ (1 + 15 + 3) i = h (72 + 4 * i + 2) := e 2 (by omega)
  obtain ⟨⟨o1, o2⟩, o3, o4⟩ := r.2.2.2.2.2.2 i hi
  unfold overB ovK diffB apR
  rw [e0, e1, e2]
  have f0 : ∀ x : Int32, x.toNatClampNeg = tN x := fun _ => rfl
  rw [f0, f0, (g.2.2 _ o2).1, (g.2.2 _ o4).1]
  simp only [if_neg (show ¬ 72 + 4 * i + 0 < 36 by omega), if_neg (show ¬ 72 + 4 * i + 1 < 36 by omega), if_pos (show 6 + 5 * tN (h (72 + 4 * i + 0)) + 0 < 36 by omega), if_pos (show 6 + 5 * tN (h (72 + 4 * i + 1)) + 0 < 36 by omega)]
def greXS (σ : Mem) (n : Nat) (z : Int32) : Int32 := (best (fun q => σ (1 + 1 + 1) q * (if z = 0 then 1 else -1)) n).2
def greXT (σ : Mem) (n : Nat) (z : Int32) : Int32 := if 0 ≤ greXS σ n z then 0 else 1
def ranXS (σ : Mem) (n : Nat) (w x : Int32) : Int32 := srch (fun k => cntB (fun q => aheadB (measV σ (1 + 1) n w q) (measV σ (1 + 1) n w k) (nI q) (nI k)) n) x n 0
def ranXT (σ : Mem) (n : Nat) (w x : Int32) : Int32 := if w < 0 then 1 else if w ≤ 3 then (if 0 ≤ ranXS σ n w x then 0 else 2) else 1
def weaXS (σ : Mem) (mb : Nat) (x : Int32) : Int32 := srch (fun k => cntB (fun q => weakB σ (1 + 15) (1 + 1) q k) mb) x mb 0
def weaXT (σ : Mem) (mb : Nat) (x : Int32) : Int32 := if 0 ≤ weaXS σ mb x then 0 else 1
def apeXT (L : Nat) : Int32 := if L < 60 then 0 else 1
def reaX (σ : Mem) (x : Int32) : Int32 := if x = 0 then σ 0 11 else if x = 1 then σ 0 12 else σ 0 13
def reaXT (σ : Mem) (x : Int32) : Int32 := if x < 0 then 1 else if x ≤ 2 then (if σ 0 11 = 0 then 2 else 0) else 1
def chrXT (σ : Mem) (x : Int32) : Int32 := if x < 0 then 1 else if x < σ 274 1 then 0 else 1
def accX (σ : Mem) (n : Nat) (x : Int32) : Int32 :=
  if x = 0 then σ (1 + 1) 7 else if x = 1 then fo (fun q a => a + cntR (σ (1 + 1 + 7 + q)) n) 0 n / 2 else if x = 2 then σ (1 + 15) 4 else if x = 3 then plmR (σ (1 + 1 + 1)) n else if x = 4 then σ 1 2 else if x = 5 then sumR (σ (1 + 1 + 4)) 0 n else if x = 6 then σ 1 3 else if x = 7 then σ 1 4
  else if x = 8 then sumR (σ (1 + 1 + 1)) 0 n else if x = 9 then σ 77 2 else σ 239 3
theorem np_1 {σ : Mem} {x : Int32} (h : npT σ x = 1) : hB σ x = 0 := by
  unfold npT at h
  by_cases g : hB σ x = 0
  · exact g
  · rw [if_neg g] at h; exact absurd h (by decide)
theorem nb_1 {σ : Mem} {x : Int32} (h : nbT σ x = 1) : holdB x (σ (1 + 15) 4) = 0 := by
  unfold nbT at h
  by_cases g : holdB x (σ (1 + 15) 4) = 0
  · exact g
  · rw [if_neg g] at h; exact absurd h (by decide)
theorem np_0 {σ : Mem} {x : Int32} (h : ¬ hB σ x = 0) : npT σ x = 0 := if_neg h
theorem PXv {E0 E1 E : String} {Es : List String} {T : Int32} {P : Mem → Prop} {τ : Mem} {A : Prop} (h : E = E1 ∧ P τ ∧ A) (hT : T = 2) : PXd (E0 :: E1 :: Es) T P E τ := by
  obtain ⟨h1, h2, h3⟩ := h
  rw [h1]; exact PX2 h2 hT

/-! the line that is written: plain functions -/
def chI (x : Int32) : Int32 := (x.toUInt32 % 65536).toInt32
theorem chI_nar (x : Int32) : vp_nar .char (chI x) = chI x := by
  show ((chI x).toUInt32 % 65536).toInt32 = chI x
  unfold chI
  have e : ∀ y : UInt32, y.toInt32.toUInt32 = y := fun y => rfl
  rw [e]
  congr 1
  apply UInt32.toNat_inj.mp
  simp
def lnM (σ : Mem) (c : Int32) : Mem := if 64 ≤ σ 274 1 then σ else sg (sg σ 275 (tN (σ 274 1)) c) 274 1 (σ 274 1 + 1)
def lnN (σ : Mem) (x : Int32) : Mem := lnM (if x ≤ 9 then σ else lnM σ (chI (48 + x / 10))) (chI (48 + (x - x / 10 * 10)))
/-- τ is σ but for the line, and its length is a length -/
def LnP (τ σ : Mem) : Prop := (∀ c, c ≠ 274 → c ≠ 275 → τ c = σ c) ∧ ∃ L, L ≤ 64 ∧ τ 274 1 = nI L
theorem LnP_0 {σ : Mem} : LnP (sg σ 274 1 0) σ := ⟨fun c h _ => sg_n h, 0, by omega, by rw [sg_ss]; exact nI_0.symm⟩
theorem LnP_put {τ σ : Mem} {c : Int32} (h : LnP τ σ) : LnP (lnM τ c) σ := by
  obtain ⟨h1, L, h2, h3⟩ := h
  unfold lnM
  by_cases g : 64 ≤ τ 274 1
  · rw [if_pos g]; exact ⟨h1, L, h2, h3⟩
  · rw [if_neg g]
    refine ⟨fun c h4 h5 => by rw [sg_n h4, sg_n h5, h1 c h4 h5], L + 1, ?_, by rw [sg_ss, h3, nI_1]⟩
    rw [h3] at g
    have : ¬ 64 ≤ L := fun z => g ((nI_leI (a := 64) (b := L) (by omega) (by omega)).mpr z)
    omega
theorem LnP_if {τ τ' σ : Mem} {P : Prop} [Decidable P] (h : LnP τ σ) (h' : LnP τ' σ) : LnP (if P then τ else τ') σ := by
  split <;> assumption
theorem LnP_num {τ σ : Mem} {x : Int32} (h : LnP τ σ) : LnP (lnN τ x) σ := LnP_put (LnP_if h (LnP_put h))
theorem LnP_l {τ σ : Mem} (h : LnP τ σ) : LnP τ τ := ⟨fun _ _ _ => rfl, h.2⟩
theorem isP_l {pb : Nat} (h : isP pb) : pb + 13 < 239 := by
  rcases h with rfl | ⟨g, hg, rfl⟩
  · omega
  · have := isH_lt hg; omega
theorem isB_l {bb : Nat} (h : isB bb) : bb + 4 < 239 := by
  obtain ⟨g, hg, rfl⟩ := h
  have := isH_lt hg; omega
/-- a person's friends, told one behind the other -/
def wpF (σ : Mem) (pb i q : Nat) (a : Mem) : Mem := if σ (pb + 7 + i) q = 0 then a else lnN (lnM (lnN (lnM a 32) (nI q)) 42) (σ (pb + 7 + i) q)
def wp0 (σ : Mem) (pb i : Nat) : Mem := lnM (sg σ 274 1 0) (if σ (pb + 3) i = 0 then 111 else 115)
def wp1 (σ : Mem) (pb i : Nat) : Mem := if sgnV (σ (pb + 1) i) 0 = 0 then wp0 σ pb i else lnM (wp0 σ pb i) (if sgnV (σ (pb + 1) i) 0 ≤ 0 then 45 else 43)
def wp2 (σ : Mem) (pb i : Nat) : Mem := lnN (lnM (lnN (wp1 σ pb i) (abI (σ (pb + 1) i))) 35) (σ (pb + 2) i)
def wpM (σ : Mem) (pb n i : Nat) : Mem := fo (wpF σ pb i) (wp2 σ pb i) n
theorem LnP_wp0 {σ : Mem} {pb i : Nat} : LnP (wp0 σ pb i) σ := LnP_put LnP_0
theorem LnP_wp1 {σ : Mem} {pb i : Nat} : LnP (wp1 σ pb i) σ := LnP_if LnP_wp0 (LnP_put LnP_wp0)
theorem LnP_wp2 {σ : Mem} {pb i : Nat} : LnP (wp2 σ pb i) σ := LnP_num (LnP_put (LnP_num LnP_wp1))
theorem LnP_wpM {σ : Mem} {pb i : Nat} : ∀ n, LnP (wpM σ pb n i) σ
  | 0 => LnP_wp2
  | n + 1 => LnP_if (LnP_wpM n) (LnP_num (LnP_put (LnP_num (LnP_put (LnP_wpM n)))))
/-- the beams -/
def wbC (a : Mem) (k : Nat) : Mem := fo (fun _ a => lnM a 33) a k
def wbB (σ : Mem) (bb : Nat) (q : Nat) (a : Mem) : Mem := lnN (lnM (lnN (lnM (lnN (if nI q ≤ 0 then a else lnM a 32) (σ (bb + 1) q)) 45) (σ (bb + 2) q)) 60) (σ (bb + 3) q)
def wbF (σ : Mem) (bb : Nat) (q : Nat) (a : Mem) : Mem := wbC (wbB σ bb q a) (tN (σ (bb + 4) q))
def wbM (σ : Mem) (bb mb : Nat) : Mem := fo (wbF σ bb) (sg σ 274 1 0) mb
theorem LnP_wbC {τ σ : Mem} (h : LnP τ σ) : ∀ k, LnP (wbC τ k) σ
  | 0 => h
  | k + 1 => LnP_put (LnP_wbC h k)
theorem LnP_wbB {τ σ : Mem} {bb q : Nat} (h : LnP τ σ) : LnP (wbB σ bb q τ) σ := LnP_num (LnP_put (LnP_num (LnP_put (LnP_num (LnP_if h (LnP_put h))))))
theorem LnP_wbM {σ : Mem} {bb : Nat} : ∀ n, LnP (wbM σ bb n) σ
  | 0 => LnP_0
  | n + 1 => LnP_wbC (LnP_wbB (LnP_wbM n)) _
theorem isH_lo {b : Nat} (h : isH b) (g : b < 79) : b + 20 ≤ 61 := by
  rcases h with h | h | h | ⟨j, h1, h2⟩ <;> omega

/-! the text's commands, told as plain functions of the characters T, the length L and a place a -/
def nxV (T : Nat → Int32) (L a : Nat) (c : Int32) : Int32 := if nI L ≤ nI a then 0 else if T a = c then 1 else 0
def nxE (T : Nat → Int32) (L a : Nat) (c : Int32) : Nat := if nxV T L a c = 0 then a else a + 1
def dgC (T : Nat → Int32) (L a : Nat) : Int32 := if nI L ≤ nI a then 0 else rngB (T a) 48 57
def dgs (T : Nat → Int32) (L : Nat) : Nat → Nat → Nat
  | _, 0 => 0
  | a, m + 1 => if dgC T L a = 0 then 0 else dgs T L (a + 1) m + 1
def dgV (T : Nat → Int32) (a j : Nat) : Int32 := fo (fun i v => v * 10 + T (a + i) - 48) 0 j
theorem dgV_s {T : Nat → Int32} {a j : Nat} : dgV T a (j + 1) = dgV T a j * 10 + T (a + j) - 48 := rfl
def dgR (T : Nat → Int32) (L a m : Nat) : Int32 := if dgs T L a m = 0 then 0 else 1
def sgC (T : Nat → Int32) (L a : Nat) : Int32 := if nxV T L a 45 = 0 then 43 else 45
def ptV (T : Nat → Int32) (L a : Nat) (c : Int32) : Int32 := if c = 43 then nxV T L a (sgC T L a) else if c = 48 then dgR T L a 1 else if c = 57 then dgR T L a 2 else nxV T L a c
def ptE (T : Nat → Int32) (L a : Nat) (c : Int32) : Nat := if c = 43 then nxE T L a (sgC T L a) else if c = 48 then a + dgs T L a 1 else if c = 57 then a + dgs T L a 2 else nxE T L a c
def psV (T : Nat → Int32) (L : Nat) : List Int32 → Nat → Int32
  | [], _ => 1
  | c :: r, a => if ptV T L a c = 0 then 0 else psV T L r (ptE T L a c)
def psE (T : Nat → Int32) (L : Nat) : List Int32 → Nat → Nat
  | [], a => a
  | c :: r, a => if ptV T L a c = 0 then ptE T L a c else psE T L r (ptE T L a c)
def sgd (ng v : Int32) : Int32 := if ng = 0 then v else -v
/-- the numbers told, in their order; ng: whether a '-' stood ahead -/
def psN (T : Nat → Int32) (L : Nat) : List Int32 → Nat → Int32 → List Int32
  | [], _, _ => []
  | c :: r, a, ng => if c = 43 then psN T L r (ptE T L a c) (nxV T L a 45) else if c = 48 then sgd ng (dgV T a (dgs T L a 1)) :: psN T L r (ptE T L a c) ng else if c = 57 then sgd ng (dgV T a (dgs T L a 2)) :: psN T L r (ptE T L a c) ng else psN T L r (ptE T L a c) ng
def kfS (T : Nat → Int32) (L a : Nat) : Nat → Nat → Nat
  | 0, _ => 8
  | d + 1, j => if nxV T L a (chB j 0) = 0 then kfS T L a d (j + 1) else j
def kf (T : Nat → Int32) (L a : Nat) : Nat := kfS T L a 8 0
def cmV (T : Nat → Int32) (L a : Nat) : Int32 := if kf T L a = 8 then 0 else psV T L (strB.getD (kf T L a) []) a
def cmE (T : Nat → Int32) (L a : Nat) : Nat := if kf T L a = 8 then a else psE T L (strB.getD (kf T L a) []) a
def cmN (T : Nat → Int32) (L a : Nat) : List Int32 := psN T L (strB.getD (kf T L a) []) a 0
section TXP
variable {T : Nat → Int32} {L a : Nat} {c : Int32}
theorem pt43 : ptV T L a 43 = nxV T L a (sgC T L a) ∧ ptE T L a 43 = nxE T L a (sgC T L a) := ⟨if_pos rfl, if_pos rfl⟩
theorem pt48 : ptV T L a 48 = dgR T L a 1 ∧ ptE T L a 48 = a + dgs T L a 1 := by
  constructor
  · unfold ptV; rw [if_neg (by decide), if_pos rfl]
  · unfold ptE; rw [if_neg (by decide), if_pos rfl]
theorem pt57 : ptV T L a 57 = dgR T L a 2 ∧ ptE T L a 57 = a + dgs T L a 2 := by
  constructor
  · unfold ptV; rw [if_neg (by decide), if_neg (by decide), if_pos rfl]
  · unfold ptE; rw [if_neg (by decide), if_neg (by decide), if_pos rfl]
theorem ptx (h : c ≠ 43 ∧ c ≠ 48 ∧ c ≠ 57) : ptV T L a c = nxV T L a c ∧ ptE T L a c = nxE T L a c := by
  constructor
  · unfold ptV; rw [if_neg h.1, if_neg h.2.1, if_neg h.2.2]
  · unfold ptE; rw [if_neg h.1, if_neg h.2.1, if_neg h.2.2]
theorem nx_a (h : nI L ≤ nI a) : nxV T L a c = 0 := if_pos h
theorem nx_b (h : ¬ nI L ≤ nI a) (g : ¬ T a = c) : nxV T L a c = 0 := by unfold nxV; rw [if_neg h, if_neg g]
theorem nx_c (h : ¬ nI L ≤ nI a) (g : T a = c) : nxV T L a c = 1 := by unfold nxV; rw [if_neg h, if_pos g]
theorem nx_e0 (h : nxV T L a c = 0) : nxE T L a c = a := if_pos h
theorem nx_e1 (h : ¬ nxV T L a c = 0) : nxE T L a c = a + 1 := if_neg h
theorem nx_le (h : a ≤ L) (hL : L ≤ 60) : a ≤ nxE T L a c ∧ nxE T L a c ≤ L := by
  unfold nxE
  split
  · exact ⟨Nat.le_refl _, h⟩
  · rename_i g
    refine ⟨by omega, ?_⟩
    have : ¬ nI L ≤ nI a := fun z => g (nx_a z)
    have : ¬ L ≤ a := fun z => this (nI_le z (by omega))
    omega
theorem dgs_le (h : a ≤ L) (hL : L ≤ 60) : ∀ m, a + dgs T L a m ≤ L := by
  intro m
  induction m generalizing a with
  | zero => exact h
  | succ m ih =>
    unfold dgs
    split
    · exact h
    · rename_i g
      have h1 : ¬ nI L ≤ nI a := fun z => g (if_pos z)
      have h2 : ¬ L ≤ a := fun z => h1 (nI_le z (by omega))
      have := ih (a := a + 1) (by omega)
      omega
theorem dgs_m : ∀ m, dgs T L a m ≤ m := by
  intro m
  induction m generalizing a with
  | zero => exact Nat.le_refl _
  | succ m ih =>
    unfold dgs
    split
    · omega
    · have := ih (a := a + 1); omega
theorem pt_le (h : a ≤ L) (hL : L ≤ 60) : a ≤ ptE T L a c ∧ ptE T L a c ≤ L := by
  unfold ptE
  split
  · exact nx_le h hL
  · split
    · exact ⟨by omega, dgs_le h hL 1⟩
    · split
      · exact ⟨by omega, dgs_le h hL 2⟩
      · exact nx_le h hL
theorem ps_le (hL : L ≤ 60) : ∀ (r : List Int32) {a : Nat}, a ≤ L → a ≤ psE T L r a ∧ psE T L r a ≤ L
  | [], a, h => ⟨Nat.le_refl _, h⟩
  | c :: r, a, h => by
    unfold psE
    obtain ⟨h1, h2⟩ := pt_le (T := T) (c := c) h hL
    split
    · exact ⟨h1, h2⟩
    · obtain ⟨h3, h4⟩ := ps_le hL r h2
      exact ⟨by omega, h4⟩
theorem cm_le (h : a ≤ L) (hL : L ≤ 60) : a ≤ cmE T L a ∧ cmE T L a ≤ L := by
  unfold cmE
  split
  · exact ⟨Nat.le_refl _, h⟩
  · exact ps_le hL _ h
theorem kfS_le : ∀ (d j : Nat), kfS T L a d j = 8 ∨ (j ≤ kfS T L a d j ∧ kfS T L a d j < j + d)
  | 0, _ => Or.inl rfl
  | d + 1, j => by
    unfold kfS
    split
    · rcases kfS_le d (j + 1) with h | ⟨h1, h2⟩
      · exact Or.inl h
      · exact Or.inr ⟨by omega, by omega⟩
    · exact Or.inr ⟨Nat.le_refl _, by omega⟩
theorem kf_lt (h : ¬ kf T L a = 8) : kf T L a < 8 := by
  rcases kfS_le (T := T) (L := L) (a := a) 8 0 with g | ⟨_, g⟩
  · exact absurd g h
  · exact g
theorem kfS_v : ∀ (d j : Nat), kfS T L a d j ≠ 8 → ¬ nxV T L a (chB (kfS T L a d j) 0) = 0
  | 0, _, h => absurd rfl h
  | d + 1, j, h => by
    unfold kfS at h ⊢
    split
    · rename_i g
      rw [if_pos g] at h
      exact kfS_v d (j + 1) h
    · assumption
theorem kf_at (hn : ¬ nI L ≤ nI a) {j : Nat} (hj : j < 8) (h : T a = chB j 0) : kf T L a = j := by
  have hne : ∀ i, i < 8 → ∀ j, j < 8 → chB i 0 = chB j 0 → i = j := by decide +kernel
  have key : ∀ d i, i + d = 8 → i ≤ j → kfS T L a d i = j := by
    intro d
    induction d with
    | zero => intro i h1 h2; omega
    | succ d ih =>
      intro i h1 h2
      unfold kfS
      by_cases g : i = j
      · subst g
        rw [if_neg (by rw [nx_c hn h]; decide)]
      · rw [if_pos (nx_b hn (fun z => g (hne i (by omega) j hj (by rw [← z, h]))))]
        exact ih (i + 1) (by omega) (by omega)
  exact key 8 0 rfl (Nat.zero_le _)
theorem kf_no (h : nI L ≤ nI a ∨ ∀ j, j < 8 → ¬ T a = chB j 0) : kf T L a = 8 := by
  have hz : ∀ j, j < 8 → nxV T L a (chB j 0) = 0 := fun j hj => by
    by_cases hn : nI L ≤ nI a
    · exact nx_a hn
    · exact nx_b hn ((h.resolve_left hn) j hj)
  have key : ∀ d i, i + d = 8 → kfS T L a d i = 8 := by
    intro d
    induction d with
    | zero => intro i _; rfl
    | succ d ih =>
      intro i h1
      unfold kfS
      rw [if_pos (hz i (by omega))]
      exact ih (i + 1) (by omega)
  exact key 8 0 rfl
end TXP
theorem ixV_in {x : Int32} (h : 0 ≤ ixV x) : x = 111 ∨ x = 115 ∨ x = 102 ∨ x = 114 ∨ x = 112 ∨ x = 98 ∨ x = 120 ∨ x = 104 := by
  by_cases g1 : x < 0
  · unfold ixV at h; rw [if_pos g1] at h; exact absurd h (by decide)
  · by_cases g2 : 255 < x
    · unfold ixV at h; rw [if_neg g1, if_pos g2] at h; exact absurd h (by decide)
    · obtain ⟨j, hj, rfl⟩ := nI_of2 (M := 255) (n := 255) (by decide) g1 (Int32.not_lt.mp g2)
      have : ∀ m, m < 256 → 0 ≤ ixV (nI m) → nI m = 111 ∨ nI m = 115 ∨ nI m = 102 ∨ nI m = 114 ∨ nI m = 112 ∨ nI m = 98 ∨ nI m = 120 ∨ nI m = 104 := by decide +kernel
      exact this j (by omega) h
theorem ixV_no {x : Int32} (h : ¬ 0 ≤ ixV x) : ∀ j, j < 8 → ¬ x = chB j 0 := by
  intro j hj e
  have : ∀ j, j < 8 → 0 ≤ ixV (chB j 0) := by decide +kernel
  exact h (by rw [e]; exact this j hj)
/-- τ is σ but for the parser's own cells; the place is e -/
def CmP (τ σ : Mem) (e : Nat) : Prop := (∀ c, c ≠ 276 → c ≠ 285 → τ c = σ c) ∧ (∀ j, j ≠ 12 → j ≠ 13 → τ 276 j = σ 276 j) ∧ τ 276 12 = nI e
section CMP
variable {τ σ : Mem} {e e' k : Nat} {v : Int32}
theorem CmP_0 (h : σ 276 12 = nI e) : CmP σ σ e := ⟨fun _ _ _ => rfl, fun _ _ _ => rfl, h⟩
theorem CmP_at (h : CmP τ σ e) : CmP (sg τ 276 12 (nI e')) σ e' := ⟨fun c h1 h2 => by rw [sg_n h1, h.1 c h1 h2], fun j h1 h2 => by rw [sg_at, if_neg (fun z => h1 z.2), h.2.1 j h1 h2], sg_ss⟩
theorem CmP_w (h : CmP τ σ e) : CmP (sg τ 276 13 v) σ e := ⟨fun c h1 h2 => by rw [sg_n h1, h.1 c h1 h2], fun j h1 h2 => by rw [sg_at, if_neg (fun z => h2 z.2), h.2.1 j h1 h2], by rw [sg_at, if_neg (by decide)]; exact h.2.2⟩
theorem CmP_t (h : CmP τ σ e) : CmP (sg τ 285 k v) σ e := ⟨fun c h1 h2 => by rw [sg_n h2, h.1 c h1 h2], fun j h1 h2 => by rw [sg_n (by decide), h.2.1 j h1 h2], by rw [sg_n (by decide)]; exact h.2.2⟩
theorem CmP_tr {ρ : Mem} (h : CmP ρ τ e') (g : CmP τ σ e) : CmP ρ σ e' := ⟨fun c h1 h2 => (h.1 c h1 h2).trans (g.1 c h1 h2), fun j h1 h2 => (h.2.1 j h1 h2).trans (g.2.1 j h1 h2), h.2.2⟩
theorem sg_id {b k : Nat} {x : Int32} (h : σ b k = x) : sg σ b k x = σ := by
  subst h
  funext c j
  rw [sg_at]
  split
  · rename_i g; rw [g.1, g.2]
  · rfl
/-- one command is read: whether, up to where, and if so its letter and its numbers -/
def CmQ (τ σ : Mem) (T : Nat → Int32) (L a : Nat) (r : Int32) : Prop := r = cmV T L a ∧ CmP τ σ (cmE T L a) ∧ (¬ cmV T L a = 0 → τ 276 13 = chB (kf T L a) 0 ∧ ∀ i, i < (cmN T L a).length → τ 285 i = (cmN T L a).getD i 0)
theorem CmQ_n {T : Nat → Int32} {L a : Nat} (h : kf T L a = 8) (ha : CmP τ σ a) : CmQ τ σ T L a 0 := by
  refine ⟨(if_pos h).symm, ?_, fun g => absurd (if_pos h) g⟩
  unfold cmE; rw [if_pos h]; exact ha
theorem CmQ_f {T : Nat → Int32} {L a j : Nat} (h : kf T L a = j) (hj : j < 8) (hv : psV T L (strB.getD j []) a = 0) (he : psE T L (strB.getD j []) a = e) (ha : CmP τ σ e) : CmQ τ σ T L a 0 := by
  have e1 : cmV T L a = 0 := by unfold cmV; rw [if_neg (by omega), h]; exact hv
  refine ⟨e1.symm, ?_, fun g => absurd e1 g⟩
  unfold cmE; rw [if_neg (by omega), h, he]; exact ha
theorem CmQ_s {T : Nat → Int32} {L a j : Nat} (h : kf T L a = j) (hj : j < 8) (hv : psV T L (strB.getD j []) a = 1) (he : psE T L (strB.getD j []) a = e) (ha : CmP τ σ e) (hw : τ 276 13 = chB j 0) (hn : ∀ i, i < (psN T L (strB.getD j []) a 0).length → τ 285 i = (psN T L (strB.getD j []) a 0).getD i 0) : CmQ τ σ T L a 1 := by
  have e1 : cmV T L a = 1 := by unfold cmV; rw [if_neg (by omega), h]; exact hv
  refine ⟨e1.symm, ?_, fun _ => ⟨by rw [h]; exact hw, by unfold cmN; rw [h]; exact hn⟩⟩
  unfold cmE; rw [if_neg (by omega), h, he]; exact ha
end CMP
theorem dg0 {σ : Mem} {T : Nat → Int32} {a i : Nat} (h : σ 276 12 = nI a) : sg σ 285 i 0 = sg (sg σ 285 i (dgV T a 0)) 276 12 (nI (a + 0)) := (sg_id (by rw [sg_n (by decide)]; exact h)).symm
theorem dg1 {σ : Mem} {T : Nat → Int32} {a i k : Nat} : sg (sg (sg (sg σ 285 i (dgV T a k)) 276 12 (nI (a + k))) 276 12 (nI (a + k + 1))) 285 i (10 * dgV T a k + T (a + k) - 48) = sg (sg σ 285 i (dgV T a (k + 1))) 276 12 (nI (a + (k + 1))) := by
  funext c j
  have e : dgV T a (k + 1) = 10 * dgV T a k + T (a + k) - 48 := by rw [dgV_s, Int32.mul_comm]
  rw [e]
  simp only [sg_at]
  grind
theorem dgs_s {T : Nat → Int32} {L a m : Nat} : dgs T L a (m + 1) = if dgC T L a = 0 then 0 else dgs T L (a + 1) m + 1 := rfl
theorem dgR_0 {T : Nat → Int32} {L a m : Nat} (hm : m ≤ 2) (h : nI (dgs T L a m) ≤ 0) : 0 = dgR T L a m := by
  have := dgs_m (T := T) (L := L) (a := a) m
  unfold dgR
  by_cases g : dgs T L a m = 0
  · rw [if_pos g]
  · exact absurd h (nI_nle (by omega) (by omega))
theorem dgR_1 {T : Nat → Int32} {L a m : Nat} (h : ¬ nI (dgs T L a m) ≤ 0) : 1 = dgR T L a m := by
  unfold dgR
  rw [if_neg (fun g => h (by rw [g]; decide))]
theorem ps_o {T : Nat → Int32} {L a : Nat} (hn : ¬ nI L ≤ nI a) (hc : T a = 111) : psV T L (strB.getD 0 []) a = (if nxV T L (a + 1) (sgC T L (a + 1)) = 0 then 0 else (if dgR T L (nxE T L (a + 1) (sgC T L (a + 1))) 2 = 0 then 0 else 1)) ∧ psE T L (strB.getD 0 []) a = (if nxV T L (a + 1) (sgC T L (a + 1)) = 0 then (nxE T L (a + 1) (sgC T L (a + 1))) else (if dgR T L (nxE T L (a + 1) (sgC T L (a + 1))) 2 = 0 then ((nxE T L (a + 1) (sgC T L (a + 1))) + dgs T L (nxE T L (a + 1) (sgC T L (a + 1))) 2) else ((nxE T L (a + 1) (sgC T L (a + 1))) + dgs T L (nxE T L (a + 1) (sgC T L (a + 1))) 2))) ∧ psN T L (strB.getD 0 []) a 0 = [sgd (nxV T L (a + 1) 45) (dgV T (nxE T L (a + 1) (sgC T L (a + 1))) (dgs T L (nxE T L (a + 1) (sgC T L (a + 1))) 2))] := by
  show psV T L [111, 43, 57] a = _ ∧ psE T L [111, 43, 57] a = _ ∧ psN T L [111, 43, 57] a 0 = _
  have f1 : ptV T L a 111 = 1 := (ptx (by decide)).1.trans (nx_c hn hc)
  have f2 : ptE T L a 111 = a + 1 := (ptx (by decide)).2.trans (nx_e1 (by rw [nx_c hn hc]; decide))
  have h10 : ¬ (1 : Int32) = 0 := by decide
  refine ⟨?_, ?_, ?_⟩
  · simp only [psV, f1, f2, h10, if_false, pt43.1, pt43.2, pt48.1, pt48.2, pt57.1, pt57.2, (ptx (c := 42) (by decide)).1, (ptx (c := 42) (by decide)).2, (ptx (c := 60) (by decide)).1, (ptx (c := 60) (by decide)).2, (ptx (c := 61) (by decide)).1, (ptx (c := 61) (by decide)).2]
  · simp only [psE, f1, f2, h10, if_false, pt43.1, pt43.2, pt48.1, pt48.2, pt57.1, pt57.2, (ptx (c := 42) (by decide)).1, (ptx (c := 42) (by decide)).2, (ptx (c := 60) (by decide)).1, (ptx (c := 60) (by decide)).2, (ptx (c := 61) (by decide)).1, (ptx (c := 61) (by decide)).2]
  · simp only [psN, f2, if_true, if_false, pt43.1, pt43.2, pt48.1, pt48.2, pt57.1, pt57.2, (ptx (c := 42) (by decide)).1, (ptx (c := 42) (by decide)).2, (ptx (c := 60) (by decide)).1, (ptx (c := 60) (by decide)).2, (ptx (c := 61) (by decide)).1, (ptx (c := 61) (by decide)).2, (show ¬ (43 : Int32) = 48 by decide), (show ¬ (43 : Int32) = 57 by decide), (show ¬ (57 : Int32) = 43 by decide), (show ¬ (57 : Int32) = 48 by decide), (show ¬ (111 : Int32) = 43 by decide), (show ¬ (111 : Int32) = 48 by decide), (show ¬ (111 : Int32) = 57 by decide)]
theorem ps_s {T : Nat → Int32} {L a : Nat} (hn : ¬ nI L ≤ nI a) (hc : T a = 115) : psV T L (strB.getD 1 []) a = (if nxV T L (a + 1) (sgC T L (a + 1)) = 0 then 0 else (if dgR T L (nxE T L (a + 1) (sgC T L (a + 1))) 2 = 0 then 0 else 1)) ∧ psE T L (strB.getD 1 []) a = (if nxV T L (a + 1) (sgC T L (a + 1)) = 0 then (nxE T L (a + 1) (sgC T L (a + 1))) else (if dgR T L (nxE T L (a + 1) (sgC T L (a + 1))) 2 = 0 then ((nxE T L (a + 1) (sgC T L (a + 1))) + dgs T L (nxE T L (a + 1) (sgC T L (a + 1))) 2) else ((nxE T L (a + 1) (sgC T L (a + 1))) + dgs T L (nxE T L (a + 1) (sgC T L (a + 1))) 2))) ∧ psN T L (strB.getD 1 []) a 0 = [sgd (nxV T L (a + 1) 45) (dgV T (nxE T L (a + 1) (sgC T L (a + 1))) (dgs T L (nxE T L (a + 1) (sgC T L (a + 1))) 2))] := by
  show psV T L [115, 43, 57] a = _ ∧ psE T L [115, 43, 57] a = _ ∧ psN T L [115, 43, 57] a 0 = _
  have f1 : ptV T L a 115 = 1 := (ptx (by decide)).1.trans (nx_c hn hc)
  have f2 : ptE T L a 115 = a + 1 := (ptx (by decide)).2.trans (nx_e1 (by rw [nx_c hn hc]; decide))
  have h10 : ¬ (1 : Int32) = 0 := by decide
  refine ⟨?_, ?_, ?_⟩
  · simp only [psV, f1, f2, h10, if_false, pt43.1, pt43.2, pt48.1, pt48.2, pt57.1, pt57.2, (ptx (c := 42) (by decide)).1, (ptx (c := 42) (by decide)).2, (ptx (c := 60) (by decide)).1, (ptx (c := 60) (by decide)).2, (ptx (c := 61) (by decide)).1, (ptx (c := 61) (by decide)).2]
  · simp only [psE, f1, f2, h10, if_false, pt43.1, pt43.2, pt48.1, pt48.2, pt57.1, pt57.2, (ptx (c := 42) (by decide)).1, (ptx (c := 42) (by decide)).2, (ptx (c := 60) (by decide)).1, (ptx (c := 60) (by decide)).2, (ptx (c := 61) (by decide)).1, (ptx (c := 61) (by decide)).2]
  · simp only [psN, f2, if_true, if_false, pt43.1, pt43.2, pt48.1, pt48.2, pt57.1, pt57.2, (ptx (c := 42) (by decide)).1, (ptx (c := 42) (by decide)).2, (ptx (c := 60) (by decide)).1, (ptx (c := 60) (by decide)).2, (ptx (c := 61) (by decide)).1, (ptx (c := 61) (by decide)).2, (show ¬ (43 : Int32) = 48 by decide), (show ¬ (43 : Int32) = 57 by decide), (show ¬ (57 : Int32) = 43 by decide), (show ¬ (57 : Int32) = 48 by decide), (show ¬ (115 : Int32) = 43 by decide), (show ¬ (115 : Int32) = 48 by decide), (show ¬ (115 : Int32) = 57 by decide)]
theorem ps_f {T : Nat → Int32} {L a : Nat} (hn : ¬ nI L ≤ nI a) (hc : T a = 102) : psV T L (strB.getD 2 []) a = (if dgR T L (a + 1) 1 = 0 then 0 else (if dgR T L ((a + 1) + dgs T L (a + 1) 1) 1 = 0 then 0 else (if nxV T L (((a + 1) + dgs T L (a + 1) 1) + dgs T L ((a + 1) + dgs T L (a + 1) 1) 1) 42 = 0 then 0 else (if dgR T L (nxE T L (((a + 1) + dgs T L (a + 1) 1) + dgs T L ((a + 1) + dgs T L (a + 1) 1) 1) 42) 1 = 0 then 0 else 1)))) ∧ psE T L (strB.getD 2 []) a = (if dgR T L (a + 1) 1 = 0 then ((a + 1) + dgs T L (a + 1) 1) else (if dgR T L ((a + 1) + dgs T L (a + 1) 1) 1 = 0 then (((a + 1) + dgs T L (a + 1) 1) + dgs T L ((a + 1) + dgs T L (a + 1) 1) 1) else (if nxV T L (((a + 1) + dgs T L (a + 1) 1) + dgs T L ((a + 1) + dgs T L (a + 1) 1) 1) 42 = 0 then (nxE T L (((a + 1) + dgs T L (a + 1) 1) + dgs T L ((a + 1) + dgs T L (a + 1) 1) 1) 42) else (if dgR T L (nxE T L (((a + 1) + dgs T L (a + 1) 1) + dgs T L ((a + 1) + dgs T L (a + 1) 1) 1) 42) 1 = 0 then ((nxE T L (((a + 1) + dgs T L (a + 1) 1) + dgs T L ((a + 1) + dgs T L (a + 1) 1) 1) 42) + dgs T L (nxE T L (((a + 1) + dgs T L (a + 1) 1) + dgs T L ((a + 1) + dgs T L (a + 1) 1) 1) 42) 1) else ((nxE T L (((a + 1) + dgs T L (a + 1) 1) + dgs T L ((a + 1) + dgs T L (a + 1) 1) 1) 42) + dgs T L (nxE T L (((a + 1) + dgs T L (a + 1) 1) + dgs T L ((a + 1) + dgs T L (a + 1) 1) 1) 42) 1))))) ∧ psN T L (strB.getD 2 []) a 0 = [sgd 0 (dgV T (a + 1) (dgs T L (a + 1) 1)), sgd 0 (dgV T ((a + 1) + dgs T L (a + 1) 1) (dgs T L ((a + 1) + dgs T L (a + 1) 1) 1)), sgd 0 (dgV T (nxE T L (((a + 1) + dgs T L (a + 1) 1) + dgs T L ((a + 1) + dgs T L (a + 1) 1) 1) 42) (dgs T L (nxE T L (((a + 1) + dgs T L (a + 1) 1) + dgs T L ((a + 1) + dgs T L (a + 1) 1) 1) 42) 1))] := by
  show psV T L [102, 48, 48, 42, 48] a = _ ∧ psE T L [102, 48, 48, 42, 48] a = _ ∧ psN T L [102, 48, 48, 42, 48] a 0 = _
  have f1 : ptV T L a 102 = 1 := (ptx (by decide)).1.trans (nx_c hn hc)
  have f2 : ptE T L a 102 = a + 1 := (ptx (by decide)).2.trans (nx_e1 (by rw [nx_c hn hc]; decide))
  have h10 : ¬ (1 : Int32) = 0 := by decide
  refine ⟨?_, ?_, ?_⟩
  · simp only [psV, f1, f2, h10, if_false, pt43.1, pt43.2, pt48.1, pt48.2, pt57.1, pt57.2, (ptx (c := 42) (by decide)).1, (ptx (c := 42) (by decide)).2, (ptx (c := 60) (by decide)).1, (ptx (c := 60) (by decide)).2, (ptx (c := 61) (by decide)).1, (ptx (c := 61) (by decide)).2]
  · simp only [psE, f1, f2, h10, if_false, pt43.1, pt43.2, pt48.1, pt48.2, pt57.1, pt57.2, (ptx (c := 42) (by decide)).1, (ptx (c := 42) (by decide)).2, (ptx (c := 60) (by decide)).1, (ptx (c := 60) (by decide)).2, (ptx (c := 61) (by decide)).1, (ptx (c := 61) (by decide)).2]
  · simp only [psN, f2, if_true, if_false, pt43.1, pt43.2, pt48.1, pt48.2, pt57.1, pt57.2, (ptx (c := 42) (by decide)).1, (ptx (c := 42) (by decide)).2, (ptx (c := 60) (by decide)).1, (ptx (c := 60) (by decide)).2, (ptx (c := 61) (by decide)).1, (ptx (c := 61) (by decide)).2, (show ¬ (42 : Int32) = 43 by decide), (show ¬ (42 : Int32) = 48 by decide), (show ¬ (42 : Int32) = 57 by decide), (show ¬ (48 : Int32) = 43 by decide), (show ¬ (48 : Int32) = 57 by decide), (show ¬ (102 : Int32) = 43 by decide), (show ¬ (102 : Int32) = 48 by decide), (show ¬ (102 : Int32) = 57 by decide)]
theorem ps_r {T : Nat → Int32} {L a : Nat} (hn : ¬ nI L ≤ nI a) (hc : T a = 114) : psV T L (strB.getD 3 []) a = 1 ∧ psE T L (strB.getD 3 []) a = (a + 1) ∧ psN T L (strB.getD 3 []) a 0 = [] := by
  show psV T L [114] a = _ ∧ psE T L [114] a = _ ∧ psN T L [114] a 0 = _
  have f1 : ptV T L a 114 = 1 := (ptx (by decide)).1.trans (nx_c hn hc)
  have f2 : ptE T L a 114 = a + 1 := (ptx (by decide)).2.trans (nx_e1 (by rw [nx_c hn hc]; decide))
  have h10 : ¬ (1 : Int32) = 0 := by decide
  refine ⟨?_, ?_, ?_⟩
  · simp only [psV, f1, f2, h10, if_false, pt43.1, pt43.2, pt48.1, pt48.2, pt57.1, pt57.2, (ptx (c := 42) (by decide)).1, (ptx (c := 42) (by decide)).2, (ptx (c := 60) (by decide)).1, (ptx (c := 60) (by decide)).2, (ptx (c := 61) (by decide)).1, (ptx (c := 61) (by decide)).2]
  · simp only [psE, f1, f2, h10, if_false, pt43.1, pt43.2, pt48.1, pt48.2, pt57.1, pt57.2, (ptx (c := 42) (by decide)).1, (ptx (c := 42) (by decide)).2, (ptx (c := 60) (by decide)).1, (ptx (c := 60) (by decide)).2, (ptx (c := 61) (by decide)).1, (ptx (c := 61) (by decide)).2]
  · simp only [psN, f2, if_true, if_false, pt43.1, pt43.2, pt48.1, pt48.2, pt57.1, pt57.2, (ptx (c := 42) (by decide)).1, (ptx (c := 42) (by decide)).2, (ptx (c := 60) (by decide)).1, (ptx (c := 60) (by decide)).2, (ptx (c := 61) (by decide)).1, (ptx (c := 61) (by decide)).2, (show ¬ (114 : Int32) = 43 by decide), (show ¬ (114 : Int32) = 48 by decide), (show ¬ (114 : Int32) = 57 by decide)]
theorem ps_p {T : Nat → Int32} {L a : Nat} (hn : ¬ nI L ≤ nI a) (hc : T a = 112) : psV T L (strB.getD 4 []) a = (if dgR T L (a + 1) 1 = 0 then 0 else (if nxV T L ((a + 1) + dgs T L (a + 1) 1) 42 = 0 then 0 else (if dgR T L (nxE T L ((a + 1) + dgs T L (a + 1) 1) 42) 1 = 0 then 0 else 1))) ∧ psE T L (strB.getD 4 []) a = (if dgR T L (a + 1) 1 = 0 then ((a + 1) + dgs T L (a + 1) 1) else (if nxV T L ((a + 1) + dgs T L (a + 1) 1) 42 = 0 then (nxE T L ((a + 1) + dgs T L (a + 1) 1) 42) else (if dgR T L (nxE T L ((a + 1) + dgs T L (a + 1) 1) 42) 1 = 0 then ((nxE T L ((a + 1) + dgs T L (a + 1) 1) 42) + dgs T L (nxE T L ((a + 1) + dgs T L (a + 1) 1) 42) 1) else ((nxE T L ((a + 1) + dgs T L (a + 1) 1) 42) + dgs T L (nxE T L ((a + 1) + dgs T L (a + 1) 1) 42) 1)))) ∧ psN T L (strB.getD 4 []) a 0 = [sgd 0 (dgV T (a + 1) (dgs T L (a + 1) 1)), sgd 0 (dgV T (nxE T L ((a + 1) + dgs T L (a + 1) 1) 42) (dgs T L (nxE T L ((a + 1) + dgs T L (a + 1) 1) 42) 1))] := by
  show psV T L [112, 48, 42, 48] a = _ ∧ psE T L [112, 48, 42, 48] a = _ ∧ psN T L [112, 48, 42, 48] a 0 = _
  have f1 : ptV T L a 112 = 1 := (ptx (by decide)).1.trans (nx_c hn hc)
  have f2 : ptE T L a 112 = a + 1 := (ptx (by decide)).2.trans (nx_e1 (by rw [nx_c hn hc]; decide))
  have h10 : ¬ (1 : Int32) = 0 := by decide
  refine ⟨?_, ?_, ?_⟩
  · simp only [psV, f1, f2, h10, if_false, pt43.1, pt43.2, pt48.1, pt48.2, pt57.1, pt57.2, (ptx (c := 42) (by decide)).1, (ptx (c := 42) (by decide)).2, (ptx (c := 60) (by decide)).1, (ptx (c := 60) (by decide)).2, (ptx (c := 61) (by decide)).1, (ptx (c := 61) (by decide)).2]
  · simp only [psE, f1, f2, h10, if_false, pt43.1, pt43.2, pt48.1, pt48.2, pt57.1, pt57.2, (ptx (c := 42) (by decide)).1, (ptx (c := 42) (by decide)).2, (ptx (c := 60) (by decide)).1, (ptx (c := 60) (by decide)).2, (ptx (c := 61) (by decide)).1, (ptx (c := 61) (by decide)).2]
  · simp only [psN, f2, if_true, if_false, pt43.1, pt43.2, pt48.1, pt48.2, pt57.1, pt57.2, (ptx (c := 42) (by decide)).1, (ptx (c := 42) (by decide)).2, (ptx (c := 60) (by decide)).1, (ptx (c := 60) (by decide)).2, (ptx (c := 61) (by decide)).1, (ptx (c := 61) (by decide)).2, (show ¬ (42 : Int32) = 43 by decide), (show ¬ (42 : Int32) = 48 by decide), (show ¬ (42 : Int32) = 57 by decide), (show ¬ (48 : Int32) = 43 by decide), (show ¬ (48 : Int32) = 57 by decide), (show ¬ (112 : Int32) = 43 by decide), (show ¬ (112 : Int32) = 48 by decide), (show ¬ (112 : Int32) = 57 by decide)]
theorem ps_b {T : Nat → Int32} {L a : Nat} (hn : ¬ nI L ≤ nI a) (hc : T a = 98) : psV T L (strB.getD 5 []) a = (if dgR T L (a + 1) 1 = 0 then 0 else (if dgR T L ((a + 1) + dgs T L (a + 1) 1) 1 = 0 then 0 else (if nxV T L (((a + 1) + dgs T L (a + 1) 1) + dgs T L ((a + 1) + dgs T L (a + 1) 1) 1) 60 = 0 then 0 else (if dgR T L (nxE T L (((a + 1) + dgs T L (a + 1) 1) + dgs T L ((a + 1) + dgs T L (a + 1) 1) 1) 60) 2 = 0 then 0 else 1)))) ∧ psE T L (strB.getD 5 []) a = (if dgR T L (a + 1) 1 = 0 then ((a + 1) + dgs T L (a + 1) 1) else (if dgR T L ((a + 1) + dgs T L (a + 1) 1) 1 = 0 then (((a + 1) + dgs T L (a + 1) 1) + dgs T L ((a + 1) + dgs T L (a + 1) 1) 1) else (if nxV T L (((a + 1) + dgs T L (a + 1) 1) + dgs T L ((a + 1) + dgs T L (a + 1) 1) 1) 60 = 0 then (nxE T L (((a + 1) + dgs T L (a + 1) 1) + dgs T L ((a + 1) + dgs T L (a + 1) 1) 1) 60) else (if dgR T L (nxE T L (((a + 1) + dgs T L (a + 1) 1) + dgs T L ((a + 1) + dgs T L (a + 1) 1) 1) 60) 2 = 0 then ((nxE T L (((a + 1) + dgs T L (a + 1) 1) + dgs T L ((a + 1) + dgs T L (a + 1) 1) 1) 60) + dgs T L (nxE T L (((a + 1) + dgs T L (a + 1) 1) + dgs T L ((a + 1) + dgs T L (a + 1) 1) 1) 60) 2) else ((nxE T L (((a + 1) + dgs T L (a + 1) 1) + dgs T L ((a + 1) + dgs T L (a + 1) 1) 1) 60) + dgs T L (nxE T L (((a + 1) + dgs T L (a + 1) 1) + dgs T L ((a + 1) + dgs T L (a + 1) 1) 1) 60) 2))))) ∧ psN T L (strB.getD 5 []) a 0 = [sgd 0 (dgV T (a + 1) (dgs T L (a + 1) 1)), sgd 0 (dgV T ((a + 1) + dgs T L (a + 1) 1) (dgs T L ((a + 1) + dgs T L (a + 1) 1) 1)), sgd 0 (dgV T (nxE T L (((a + 1) + dgs T L (a + 1) 1) + dgs T L ((a + 1) + dgs T L (a + 1) 1) 1) 60) (dgs T L (nxE T L (((a + 1) + dgs T L (a + 1) 1) + dgs T L ((a + 1) + dgs T L (a + 1) 1) 1) 60) 2))] := by
  show psV T L [98, 48, 48, 60, 57] a = _ ∧ psE T L [98, 48, 48, 60, 57] a = _ ∧ psN T L [98, 48, 48, 60, 57] a 0 = _
  have f1 : ptV T L a 98 = 1 := (ptx (by decide)).1.trans (nx_c hn hc)
  have f2 : ptE T L a 98 = a + 1 := (ptx (by decide)).2.trans (nx_e1 (by rw [nx_c hn hc]; decide))
  have h10 : ¬ (1 : Int32) = 0 := by decide
  refine ⟨?_, ?_, ?_⟩
  · simp only [psV, f1, f2, h10, if_false, pt43.1, pt43.2, pt48.1, pt48.2, pt57.1, pt57.2, (ptx (c := 42) (by decide)).1, (ptx (c := 42) (by decide)).2, (ptx (c := 60) (by decide)).1, (ptx (c := 60) (by decide)).2, (ptx (c := 61) (by decide)).1, (ptx (c := 61) (by decide)).2]
  · simp only [psE, f1, f2, h10, if_false, pt43.1, pt43.2, pt48.1, pt48.2, pt57.1, pt57.2, (ptx (c := 42) (by decide)).1, (ptx (c := 42) (by decide)).2, (ptx (c := 60) (by decide)).1, (ptx (c := 60) (by decide)).2, (ptx (c := 61) (by decide)).1, (ptx (c := 61) (by decide)).2]
  · simp only [psN, f2, if_true, if_false, pt43.1, pt43.2, pt48.1, pt48.2, pt57.1, pt57.2, (ptx (c := 42) (by decide)).1, (ptx (c := 42) (by decide)).2, (ptx (c := 60) (by decide)).1, (ptx (c := 60) (by decide)).2, (ptx (c := 61) (by decide)).1, (ptx (c := 61) (by decide)).2, (show ¬ (48 : Int32) = 43 by decide), (show ¬ (48 : Int32) = 57 by decide), (show ¬ (57 : Int32) = 43 by decide), (show ¬ (57 : Int32) = 48 by decide), (show ¬ (60 : Int32) = 43 by decide), (show ¬ (60 : Int32) = 48 by decide), (show ¬ (60 : Int32) = 57 by decide), (show ¬ (98 : Int32) = 43 by decide), (show ¬ (98 : Int32) = 48 by decide), (show ¬ (98 : Int32) = 57 by decide)]
theorem ps_x {T : Nat → Int32} {L a : Nat} (hn : ¬ nI L ≤ nI a) (hc : T a = 120) : psV T L (strB.getD 6 []) a = (if dgR T L (a + 1) 1 = 0 then 0 else 1) ∧ psE T L (strB.getD 6 []) a = (if dgR T L (a + 1) 1 = 0 then ((a + 1) + dgs T L (a + 1) 1) else ((a + 1) + dgs T L (a + 1) 1)) ∧ psN T L (strB.getD 6 []) a 0 = [sgd 0 (dgV T (a + 1) (dgs T L (a + 1) 1))] := by
  show psV T L [120, 48] a = _ ∧ psE T L [120, 48] a = _ ∧ psN T L [120, 48] a 0 = _
  have f1 : ptV T L a 120 = 1 := (ptx (by decide)).1.trans (nx_c hn hc)
  have f2 : ptE T L a 120 = a + 1 := (ptx (by decide)).2.trans (nx_e1 (by rw [nx_c hn hc]; decide))
  have h10 : ¬ (1 : Int32) = 0 := by decide
  refine ⟨?_, ?_, ?_⟩
  · simp only [psV, f1, f2, h10, if_false, pt43.1, pt43.2, pt48.1, pt48.2, pt57.1, pt57.2, (ptx (c := 42) (by decide)).1, (ptx (c := 42) (by decide)).2, (ptx (c := 60) (by decide)).1, (ptx (c := 60) (by decide)).2, (ptx (c := 61) (by decide)).1, (ptx (c := 61) (by decide)).2]
  · simp only [psE, f1, f2, h10, if_false, pt43.1, pt43.2, pt48.1, pt48.2, pt57.1, pt57.2, (ptx (c := 42) (by decide)).1, (ptx (c := 42) (by decide)).2, (ptx (c := 60) (by decide)).1, (ptx (c := 60) (by decide)).2, (ptx (c := 61) (by decide)).1, (ptx (c := 61) (by decide)).2]
  · simp only [psN, f2, if_true, if_false, pt43.1, pt43.2, pt48.1, pt48.2, pt57.1, pt57.2, (ptx (c := 42) (by decide)).1, (ptx (c := 42) (by decide)).2, (ptx (c := 60) (by decide)).1, (ptx (c := 60) (by decide)).2, (ptx (c := 61) (by decide)).1, (ptx (c := 61) (by decide)).2, (show ¬ (48 : Int32) = 43 by decide), (show ¬ (48 : Int32) = 57 by decide), (show ¬ (120 : Int32) = 43 by decide), (show ¬ (120 : Int32) = 48 by decide), (show ¬ (120 : Int32) = 57 by decide)]
theorem ps_h {T : Nat → Int32} {L a : Nat} (hn : ¬ nI L ≤ nI a) (hc : T a = 104) : psV T L (strB.getD 7 []) a = (if dgR T L (a + 1) 1 = 0 then 0 else (if nxV T L ((a + 1) + dgs T L (a + 1) 1) 61 = 0 then 0 else (if dgR T L (nxE T L ((a + 1) + dgs T L (a + 1) 1) 61) 1 = 0 then 0 else 1))) ∧ psE T L (strB.getD 7 []) a = (if dgR T L (a + 1) 1 = 0 then ((a + 1) + dgs T L (a + 1) 1) else (if nxV T L ((a + 1) + dgs T L (a + 1) 1) 61 = 0 then (nxE T L ((a + 1) + dgs T L (a + 1) 1) 61) else (if dgR T L (nxE T L ((a + 1) + dgs T L (a + 1) 1) 61) 1 = 0 then ((nxE T L ((a + 1) + dgs T L (a + 1) 1) 61) + dgs T L (nxE T L ((a + 1) + dgs T L (a + 1) 1) 61) 1) else ((nxE T L ((a + 1) + dgs T L (a + 1) 1) 61) + dgs T L (nxE T L ((a + 1) + dgs T L (a + 1) 1) 61) 1)))) ∧ psN T L (strB.getD 7 []) a 0 = [sgd 0 (dgV T (a + 1) (dgs T L (a + 1) 1)), sgd 0 (dgV T (nxE T L ((a + 1) + dgs T L (a + 1) 1) 61) (dgs T L (nxE T L ((a + 1) + dgs T L (a + 1) 1) 61) 1))] := by
  show psV T L [104, 48, 61, 48] a = _ ∧ psE T L [104, 48, 61, 48] a = _ ∧ psN T L [104, 48, 61, 48] a 0 = _
  have f1 : ptV T L a 104 = 1 := (ptx (by decide)).1.trans (nx_c hn hc)
  have f2 : ptE T L a 104 = a + 1 := (ptx (by decide)).2.trans (nx_e1 (by rw [nx_c hn hc]; decide))
  have h10 : ¬ (1 : Int32) = 0 := by decide
  refine ⟨?_, ?_, ?_⟩
  · simp only [psV, f1, f2, h10, if_false, pt43.1, pt43.2, pt48.1, pt48.2, pt57.1, pt57.2, (ptx (c := 42) (by decide)).1, (ptx (c := 42) (by decide)).2, (ptx (c := 60) (by decide)).1, (ptx (c := 60) (by decide)).2, (ptx (c := 61) (by decide)).1, (ptx (c := 61) (by decide)).2]
  · simp only [psE, f1, f2, h10, if_false, pt43.1, pt43.2, pt48.1, pt48.2, pt57.1, pt57.2, (ptx (c := 42) (by decide)).1, (ptx (c := 42) (by decide)).2, (ptx (c := 60) (by decide)).1, (ptx (c := 60) (by decide)).2, (ptx (c := 61) (by decide)).1, (ptx (c := 61) (by decide)).2]
  · simp only [psN, f2, if_true, if_false, pt43.1, pt43.2, pt48.1, pt48.2, pt57.1, pt57.2, (ptx (c := 42) (by decide)).1, (ptx (c := 42) (by decide)).2, (ptx (c := 60) (by decide)).1, (ptx (c := 60) (by decide)).2, (ptx (c := 61) (by decide)).1, (ptx (c := 61) (by decide)).2, (show ¬ (48 : Int32) = 43 by decide), (show ¬ (48 : Int32) = 57 by decide), (show ¬ (61 : Int32) = 43 by decide), (show ¬ (61 : Int32) = 48 by decide), (show ¬ (61 : Int32) = 57 by decide), (show ¬ (104 : Int32) = 43 by decide), (show ¬ (104 : Int32) = 48 by decide), (show ¬ (104 : Int32) = 57 by decide)]
theorem dgR_b {T : Nat → Int32} {L a m : Nat} (h : ¬ dgR T L a m = 0) : dgR T L a m = 1 := by
  unfold dgR at h ⊢
  split
  · rename_i g; rw [if_pos g] at h; exact absurd rfl h
  · rfl
theorem psV_b {T : Nat → Int32} {L : Nat} : ∀ (r : List Int32) {a : Nat}, psV T L r a = 0 ∨ psV T L r a = 1
  | [], _ => Or.inr rfl
  | c :: r, a => by
    unfold psV
    split
    · exact Or.inl rfl
    · exact psV_b r
theorem psV_nar {T : Nat → Int32} {L a : Nat} (r : List Int32) : narrow .boolean (.int (psV T L r a)) = .int (psV T L r a) := by
  rcases psV_b (T := T) (L := L) r (a := a) with h | h <;> rw [h] <;> rfl
/-- o and s: what the sign and the digits behind it tell -/
theorem CmQ_sg {τ σ : Mem} {T : Nat → Int32} {L a j : Nat} {r : Int32} (hj : j < 2) (hn : ¬ nI L ≤ nI a) (hc : T a = chB j 0) (hr : r = psV T L [43, 57] (a + 1)) (ha : CmP τ σ (psE T L [43, 57] (a + 1))) (hw : τ 276 13 = chB j 0) (hv : ¬ r = 0 → τ 285 0 = sgd (nxV T L (a + 1) 45) (dgV T (a + 1 + 1) (dgs T L (a + 1 + 1) 2))) : CmQ τ σ T L a r := by
  have hk := kf_at hn (show j < 8 by omega) hc
  have hs : strB.getD j [] = [chB j 0, 43, 57] := by rcases (show j = 0 ∨ j = 1 by omega) with rfl | rfl <;> rfl
  have hx : chB j 0 ≠ 43 ∧ chB j 0 ≠ 48 ∧ chB j 0 ≠ 57 := by rcases (show j = 0 ∨ j = 1 by omega) with rfl | rfl <;> decide
  have f1 : ptV T L a (chB j 0) = 1 := (ptx hx).1.trans (nx_c hn hc)
  have f2 : ptE T L a (chB j 0) = a + 1 := (ptx hx).2.trans (nx_e1 (by rw [nx_c hn hc]; decide))
  have h10 : ¬ (1 : Int32) = 0 := by decide
  have e1 : psV T L (strB.getD j []) a = psV T L [43, 57] (a + 1) := by
    rw [hs, psV, f1, f2, if_neg h10]
  have e2 : psE T L (strB.getD j []) a = psE T L [43, 57] (a + 1) := by
    rw [hs, psE, f1, f2, if_neg h10]
  have e3 : psN T L (strB.getD j []) a 0 = [sgd (nxV T L (a + 1) 45) (dgV T (ptE T L (a + 1) 43) (dgs T L (ptE T L (a + 1) 43) 2))] := by
    rw [hs, psN, if_neg hx.1, if_neg hx.2.1, if_neg hx.2.2, f2, psN, if_pos rfl, psN, if_neg (by decide), if_neg (by decide), if_pos rfl, psN]
  rcases psV_b (T := T) (L := L) [43, 57] (a := a + 1) with g | g
  · rw [hr, g]
    exact CmQ_f hk (by omega) (e1.trans g) e2 ha
  · have hp : ¬ ptV T L (a + 1) 43 = 0 := fun z => by
      rw [psV, if_pos z] at g
      exact absurd g (by decide)
    have hp2 : ptE T L (a + 1) 43 = a + 1 + 1 := by
      rw [pt43.2]; exact nx_e1 (by rw [← pt43.1]; exact hp)
    have hv2 := hv (by rw [hr, g]; decide)
    rw [hr, g]
    refine CmQ_s hk (by omega) (e1.trans g) e2 ha hw (fun i hi => ?_)
    rw [e3] at hi ⊢
    rcases (show i = 0 by simp only [List.length_cons, List.length_nil] at hi; omega) with rfl
    rw [hv2, hp2]
    rfl
theorem fit_c {x : Int32} (h : vp_nar .char x = x) : fits .char (.int x) = true := by
  have g := pk_fc x
  rw [show (x.toUInt32 % 65536).toInt32 = x from h] at g
  exact g

/-! what a change keeps of the memory -/
theorem refM_c {σ : Mem} {cb c : Nat} {x y : Int32} (h : c ≠ cb) : refM σ cb x y c = σ c := by
  unfold refM; rw [sg_n h, sg_n h]
theorem takeB_c {σ : Mem} {bb i m c : Nat} (h : ¬ (bb ≤ c ∧ c < bb + 5)) : takeB σ bb i m c = σ c := by
  unfold takeB
  rw [sg_n (by omega)]
  funext j
  unfold shB
  rw [if_neg (by omega)]
theorem carH_u {σ : Mem} {hb n mb cb j c : Nat} (hO : HOK σ hb n mb) (h2 : c ≠ cb) (h1 : ¬ (hb ≤ c ∧ c < hb + 20) ∨ (c = hb + 1 + 3 ∧ 2 ≤ j)) : carH σ hb n mb cb j c = σ c := by
  have hr : ∀ x y, refM σ cb x y c = σ c := fun x y => refM_c h2
  have hn := hO.1
  have hn6 := hO.2.1
  have hh : ∀ x, ¬ holdB x (σ (hb + 1) 7) = 0 → tN x < n := fun x h => (holdN h hn (by omega)).2
  have ha : 2 ≤ j ∨ ∀ b, admM σ hb n cb b c = σ c := by
    rcases h1 with h1 | h1
    · right
      intro b
      unfold admM
      split
      · exact hr _ _
      · split
        · exact hr _ _
        · rw [sg_n h2, sg_n (by omega), sg_n (by omega), sg_n (by omega)]
    · exact Or.inl h1.2
  unfold carH
  split
  · rcases ha with ha | ha
    · omega
    · exact ha 0
  · rcases ha with ha | ha
    · omega
    · exact ha 1
  · unfold friM
    split; · exact hr _ _
    rename_i g1
    split; · exact hr _ _
    rename_i g2
    split; · exact hr _ _
    split; · exact hr _ _
    split; · exact hr _ _
    have k1 := hh _ g1
    have k2 := hh _ g2
    rw [sg_n h2, sg_n (by omega), sg_n (by omega)]
  · unfold rndM
    split; · exact hr _ _
    rw [sg_n (by omega), sg_n (by omega), brk_ap (by omega), rnd2_c (by omega) (by omega) (by omega)]
  · unfold telM
    split; · exact hr _ _
    split; · exact hr _ _
    split; · exact hr _ _
    split; · exact hr _ _
    rw [sg_n h2, sg_n (by omega), sg_n (by omega)]
  · unfold putM
    split; · exact hr _ _
    split; · exact hr _ _
    split; · exact hr _ _
    split; · exact hr _ _
    split; · exact hr _ _
    split; · exact hr _ _
    rw [sg_n h2, sg_n (by omega), sg_n (by omega), sg_n (by omega), sg_n (by omega), sg_n (by omega)]
  · unfold remM
    split; · exact hr _ _
    rw [sg_n h2, takeB_c (by omega)]
  · unfold habM
    split; · exact hr _ _
    split; · exact hr _ _
    split; · exact hr _ _
    rw [sg_n h2, sg_n (by omega)]
def ZB (σ : Mem) (c : Nat) : Prop := ∀ j, j < 6 → vp_nar .boolean (σ c j) = σ c j
theorem ZB_e {σ τ : Mem} {c d : Nat} (h : ZB σ d) (e : τ c = σ d) : ZB τ c := fun j hj => by rw [e]; exact h j hj
theorem carH_z {σ : Mem} {hb n mb cb j : Nat} (hO : HOK σ hb n mb) (h2 : hb + 20 ≤ cb) : ZB (carH σ hb n mb cb j) (hb + 1 + 3) := by
  by_cases hj : 2 ≤ j
  · exact ZB_e hO.2.2.2 (carH_u hO (by omega) (Or.inr ⟨rfl, hj⟩))
  · have key : ∀ b : Int32, (b = 0 ∨ b = 1) → ZB (admM σ hb n cb b) (hb + 1 + 3) := fun b hb' => by
      unfold admM
      split
      · exact ZB_e hO.2.2.2 (refM_c (by omega))
      · split
        · exact ZB_e hO.2.2.2 (refM_c (by omega))
        · intro i hi
          rw [sg_n (by omega), sg_n (by omega), sg_at]
          split
          · rcases hb' with rfl | rfl <;> decide
          · rw [sg_n (by omega)]; exact hO.2.2.2 i hi
    rcases (show j = 0 ∨ j = 1 by omega) with rfl | rfl
    · exact key 0 (Or.inl rfl)
    · exact key 1 (Or.inr rfl)
/-- the draft is taken over: the house goes into the history, and the draft becomes the house -/
def AccQ (τ σ : Mem) (j k9 : Nat) : Prop := ∃ ρ, CpH ρ σ (79 + 20 * j) 1 ∧ CpH τ (sg (sg ρ 77 1 (nI ((j + 1) % 8))) 77 2 (nI (min (k9 + 1) 8))) 1 21
def kepM (σ : Mem) (cb : Nat) (x : Int32) : Mem := sg (sg (sg σ 0 11 (σ cb 5)) 0 12 (σ cb 6)) 0 13 x
/-- a change of kind i (block 273) is carried out on a copy of the house, and taken over -/
def CcR (τ σ : Mem) (n mb i j k9 : Nat) (r : Int32) : Prop := ∃ ρ, CpH ρ σ 21 1 ∧ carH ρ 21 n mb 273 i 273 5 = 0 ∧ AccQ τ (carH ρ 21 n mb 273 i) j k9 ∧ r = carH ρ 21 n mb 273 i 273 4
def CcX (τ σ : Mem) (n mb i : Nat) : Prop := ∃ ρ, CpH ρ σ 21 1 ∧ ¬ carH ρ 21 n mb 273 i 273 5 = 0 ∧ τ = kepM (carH ρ 21 n mb 273 i) 273 0
theorem askM_c {σ : Mem} {cb j c : Nat} {x y z : Int32} (h : c ≠ cb) : askM σ cb j x y z c = σ c := by
  unfold askM; rw [sg_n h, sg_n h, sg_n h, sg_n h, sg_n h, sg_n h, sg_n h]
theorem askM_0 {σ : Mem} {cb j : Nat} {x y z : Int32} : askM σ cb j x y z cb 0 = nI j := by
  unfold askM; simp [sg_at]
theorem HOK_c {σ τ : Mem} {hb n mb : Nat} (h : ∀ c, hb ≤ c → c < hb + 20 → τ c = σ c) (g : HOK σ hb n mb) : HOK τ hb n mb := by
  refine ⟨by rw [h _ (by omega) (by omega)]; exact g.1, g.2.1, BOK_c (fun c h1 h2 => h c (by omega) (by omega)) g.2.2.1, fun j hj => ?_⟩
  rw [h _ (by omega) (by omega)]; exact g.2.2.2 j hj
theorem sg_n0 {σ : Mem} {cb : Nat} {x : Int32} (h : isC cb) : sg σ 0 11 x cb 6 = σ cb 6 := by
  have := h.1
  rw [sg_n (by omega)]
def UndQ (τ σ : Mem) (j k9 : Nat) : Prop := ∃ ρ, CpH ρ (sg σ 77 1 (nI ((j + 8 - 1) % 8))) 1 (79 + 20 * ((j + 8 - 1) % 8)) ∧ τ = sg ρ 77 2 (nI (k9 - 1))
def undT (k9 : Nat) : Int32 := if k9 = 0 then 1 else 0
def SavQ (τ σ : Mem) : Prop := ∃ ρ, CpH ρ σ 41 1 ∧ τ = sg ρ 0 9 1
def rstT (σ : Mem) : Int32 := if σ 0 9 = 0 then 1 else 0
def RstQ (τ σ : Mem) : Prop := ∃ ρ, CpH ρ σ 1 41 ∧ τ = sg ρ 77 2 0

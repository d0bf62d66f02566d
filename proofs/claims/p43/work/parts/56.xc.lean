/-! the class's commands: plain functions -/
theorem BOK_take {σ : Mem} {bb m i : Nat} (g : BOK σ bb m) (hi : i < m) : BOK (takeB σ bb i m) bb (m - 1) := by
  refine ⟨?_, by have := g.2.1; omega, fun q hq => ?_⟩
  · unfold takeB; rw [sg_ss]
  · unfold takeB
    rw [sg_n (by omega), sg_n (by omega)]
    unfold shB
    by_cases c : i ≤ q
    · rw [if_pos ⟨by omega, by omega, c, by omega⟩, if_pos ⟨by omega, by omega, c, by omega⟩]
      exact g.2.2 (q + 1) (by omega)
    · rw [if_neg (by omega), if_neg (by omega)]
      exact g.2.2 q (by omega)
theorem BOK_brk {bb : Nat} : ∀ k {σ : Mem} {m : Nat}, BOK σ bb m → k ≤ m → BOK (brk bb k σ m).1 bb (brk bb k σ m).2
  | 0, _, _, g, _ => g
  | k + 1, σ, m, g, h => by
    unfold brk
    split
    · exact BOK_brk k g (by omega)
    · exact BOK_brk k (BOK_take g (by omega)) (by omega)
theorem mnx_in {x y : Int32} (hx : inN x 6) (hy : inN y 6) : inN (mnI x y) 6 ∧ inN (mxI x y) 6 := by
  unfold mnI mxI
  constructor <;> split <;> assumption
theorem HOK_car {σ : Mem} {hb n mb cb j : Nat} (hO : HOK σ hb n mb) (h2 : hb + 20 ≤ cb) : ∃ n' mb', HOK (carH σ hb n mb cb j) hb n' mb' := by
  have hz := carH_z (mb := mb) (j := j) hO h2
  obtain ⟨hn, hn6, hB, -⟩ := hO
  have hh : ∀ x, ¬ holdB x (σ (hb + 1) 7) = 0 → inN x 6 := fun x h => by
    obtain ⟨a, b⟩ := holdN h hn (by omega)
    exact ⟨a, Nat.lt_of_lt_of_le b hn6⟩
  suffices ∃ n' mb', carH σ hb n mb cb j (hb + 1) 7 = nI n' ∧ n' ≤ 6 ∧ BOK (carH σ hb n mb cb j) (hb + 15) mb' by
    obtain ⟨n', mb', a, b, c⟩ := this
    exact ⟨n', mb', a, b, c, hz⟩
  have key : ∀ τ : Mem, (∀ c, hb ≤ c → c < hb + 20 → τ c = σ c) → ∃ n' mb', τ (hb + 1) 7 = nI n' ∧ n' ≤ 6 ∧ BOK τ (hb + 15) mb' := fun τ h =>
    ⟨n, mb, by rw [h _ (by omega) (by omega)]; exact hn, hn6, BOK_c (fun c c1 c2 => h c (by omega) (by omega)) hB⟩
  have kr : ∀ x y, ∃ n' mb', refM σ cb x y (hb + 1) 7 = nI n' ∧ n' ≤ 6 ∧ BOK (refM σ cb x y) (hb + 15) mb' := fun x y => key _ (fun c c1 c2 => refM_c (by omega))
  have ka : ∀ b, ∃ n' mb', admM σ hb n cb b (hb + 1) 7 = nI n' ∧ n' ≤ 6 ∧ BOK (admM σ hb n cb b) (hb + 15) mb' := fun b => by
    unfold admM
    split; · exact kr _ _
    split; · exact kr _ _
    refine ⟨n + 1, mb, ?_, by omega, BOK_c (fun c c1 c2 => ?_) hB⟩
    · rw [sg_n (by omega), sg_ss]
    · rw [sg_n (by omega), sg_n (by omega), sg_n (by omega), sg_n (by omega)]
  unfold carH
  split
  · exact ka 0
  · exact ka 1
  · unfold friM
    split; · exact kr _ _
    rename_i g1
    split; · exact kr _ _
    rename_i g2
    split; · exact kr _ _
    split; · exact kr _ _
    split; · exact kr _ _
    have k1 := (hh _ g1).2
    have k2 := (hh _ g2).2
    have k3 : tN (σ cb 1) < 6 := k1
    have k4 : tN (σ cb 2) < 6 := k2
    refine ⟨n, mb, ?_, hn6, BOK_c (fun c c1 c2 => ?_) hB⟩
    · rw [sg_n (by omega), sg_n (by omega), sg_n (by omega)]; exact hn
    · rw [sg_n (by omega), sg_n (by omega), sg_n (by omega)]
  · unfold rndM
    split; · exact kr _ _
    have hB2 : BOK (rnd2 σ hb n mb cb) (hb + 15) mb := by
      refine ⟨?_, hB.2.1, fun q hq => ?_⟩
      · rw [rnd2_c (by omega) (by omega) (by omega)]; exact hB.1
      · rw [rnd2_c (by omega) (by omega) (by omega), rnd2_c (by omega) (by omega) (by omega)]; exact hB.2.2 q hq
    refine ⟨n, _, ?_, hn6, BOK_c (fun c c1 c2 => ?_) (BOK_brk mb hB2 (Nat.le_refl _))⟩
    · rw [sg_n (by omega), sg_n (by omega), brk_ap (by omega), rnd2_c (by omega) (by omega) (by omega)]; exact hn
    · rw [sg_n (by omega), sg_n (by omega)]
  · unfold telM
    split; · exact kr _ _
    split; · exact kr _ _
    split; · exact kr _ _
    split; · exact kr _ _
    refine ⟨n, mb, ?_, hn6, BOK_c (fun c c1 c2 => ?_) hB⟩
    · rw [sg_n (by omega), sg_n (by omega), sg_n (by omega)]; exact hn
    · rw [sg_n (by omega), sg_n (by omega), sg_n (by omega)]
  · unfold putM
    split; · exact kr _ _
    rename_i g1
    split; · exact kr _ _
    rename_i g2
    split; · exact kr _ _
    split; · exact kr _ _
    split; · exact kr _ _
    split; · exact kr _ _
    rename_i g6
    have hm6 := hB.2.1
    obtain ⟨k1, k2⟩ := mnx_in (hh _ g1) (hh _ g2)
    refine ⟨n, mb + 1, ?_, hn6, ?_, by omega, fun q hq => ⟨?_, ?_⟩⟩
    · rw [sg_n (by omega), sg_n (by omega), sg_n (by omega), sg_n (by omega), sg_n (by omega), sg_n (by omega)]; exact hn
    · rw [sg_n (by omega), sg_ss]
    · rw [sg_n (by omega), sg_n (by omega), sg_n (by omega), sg_n (by omega), sg_n (by omega), sg_at]
      split
      · exact k1
      · exact (hB.2.2 q (by omega)).1
    · rw [sg_n (by omega), sg_n (by omega), sg_n (by omega), sg_n (by omega), sg_at]
      split
      · exact k2
      · rw [sg_n (by omega)]; exact (hB.2.2 q (by omega)).2
  · unfold remM
    split; · exact kr _ _
    rename_i g1
    obtain ⟨k1, k2⟩ := holdN g1 hB.1 (by have := hB.2.1; omega)
    refine ⟨n, mb - 1, ?_, hn6, BOK_c (fun c c1 c2 => ?_) (BOK_take hB k2)⟩
    · rw [sg_n (by omega), takeB_c (by omega)]; exact hn
    · rw [sg_n (by omega)]
  · unfold habM
    split; · exact kr _ _
    split; · exact kr _ _
    split; · exact kr _ _
    refine ⟨n, mb, ?_, hn6, BOK_c (fun c c1 c2 => ?_) hB⟩
    · rw [sg_n (by omega), sg_n (by omega)]; exact hn
    · rw [sg_n (by omega), sg_n (by omega)]
/-- change i of the text is carried out on the draft -/
def carS (σ : Mem) (i : Nat) : Mem := carH σ 21 (tN (σ (21 + 1) 7)) (tN (σ (21 + 15) 4)) (243 + i) (tN (σ (243 + i) 0))
def carK (σ : Mem) : Nat → Mem
  | 0 => σ
  | k + 1 => carS (carK σ k) k
theorem HOK_tn {σ : Mem} {hb n mb : Nat} (h : HOK σ hb n mb) : tN (σ (hb + 1) 7) = n ∧ tN (σ (hb + 15) 4) = mb := by
  obtain ⟨h1, h2, ⟨h3, h4, -⟩, -⟩ := h
  exact ⟨by rw [h1]; exact tN_nI (by omega), by rw [h3]; exact tN_nI (by omega)⟩
theorem carK_ok {σ : Mem} (h : ∃ n mb, HOK σ 21 n mb) : ∀ k, ∃ n mb, HOK (carK σ k) 21 n mb
  | 0 => h
  | k + 1 => by
    obtain ⟨n, mb, g⟩ := carK_ok h k
    show ∃ n mb, HOK (carS (carK σ k) k) 21 n mb
    unfold carS
    rw [(HOK_tn g).1, (HOK_tn g).2]
    exact HOK_car g (by omega)
theorem carK_c {σ : Mem} (h : ∃ n mb, HOK σ 21 n mb) {c : Nat} (h1 : ¬ (21 ≤ c ∧ c < 21 + 20)) : ∀ k, (∀ i, i < k → c ≠ 243 + i) → carK σ k c = σ c
  | 0, _ => rfl
  | k + 1, h2 => by
    obtain ⟨n, mb, g⟩ := carK_ok h k
    rw [← carK_c h h1 k (fun i hi => h2 i (by omega))]
    show carS (carK σ k) k c = carK σ k c
    unfold carS
    rw [(HOK_tn g).1, (HOK_tn g).2]
    exact carH_u g (h2 k (by omega)) (Or.inl h1)
theorem carK_z {σ : Mem} (h : ∃ n mb, HOK σ 21 n mb) (k : Nat) : ZB (carK σ k) (21 + 1 + 3) := by
  obtain ⟨n, mb, g⟩ := carK_ok h k
  exact g.2.2.2
/-- what reading a whole text leaves -/
def Rd1 (τ σ : Mem) (T : Nat → Int32) (L n : Nat) : Prop :=
  (∀ c, c ≠ 239 → c ≠ 242 → c < 243 ∨ 273 ≤ c → τ c = σ c) ∧ (∀ j, j < 4 → τ 239 j = σ 239 j) ∧ n < 30 ∧ τ 239 4 = nI (n + 1) ∧ ¬ (txP T L).1 = 0 ∧ (∀ i, i < n → goS T L i) ∧ ¬ cmV T L (csP T L n) = 0 ∧ nI L ≤ nI (cmE T L (csP T L n)) ∧ ∀ i, i < n + 1 → TxC τ T L i (csP T L i)
/-- what reading a faulty text leaves -/
def Rd0 (τ σ : Mem) (T : Nat → Int32) (L : Nat) (r : Int32) : Prop :=
  (∀ c, c ≠ 239 → c ≠ 242 → c < 243 ∨ 273 ≤ c → τ c = σ c) ∧ (∀ j, j < 4 → τ 239 j = σ 239 j) ∧ (txP T L).1 = 0 ∧ r = nI (txP T L).2 ∧ (txP T L).2 ≤ 60
theorem RdQ_1 {τ σ : Mem} {T : Nat → Int32} {L : Nat} {r : Int32} (h : RdQ τ σ T L r) (hr : r < 0) : r = -1 ∧ ∃ n, Rd1 τ σ T L n := by
  obtain ⟨h1, h2, ⟨h3, h4, h5⟩ | ⟨h3, h4, n, h5, h6, h7, h8, h9, h0⟩⟩ := h
  · rw [h4] at hr; exact absurd hr (nI_pos (by omega))
  · exact ⟨h4, n, h1, h2, h5, h6, h3, h7, h8, h9, h0⟩
theorem RdQ_0 {τ σ : Mem} {T : Nat → Int32} {L : Nat} {r : Int32} (h : RdQ τ σ T L r) (hr : ¬ r < 0) : Rd0 τ σ T L r := by
  obtain ⟨h1, h2, ⟨h3, h4, h5⟩ | ⟨h3, h4, n, h5, h6, h7, h8, h9, h0⟩⟩ := h
  · exact ⟨h1, h2, h3, h4, h5⟩
  · rw [h4] at hr; exact absurd (by decide) hr
/-- the memory behind the reading, the fault's place kept and the text emptied -/
def rdX (τ : Mem) (r : Int32) : Mem := sg (sg τ 0 10 r) 239 3 0
theorem rdX_c {τ : Mem} {r : Int32} {c : Nat} (h1 : c ≠ 0) (h2 : c ≠ 239) : rdX τ r c = τ c := by unfold rdX; rw [sg_n h2, sg_n h1]
theorem rdX_e {τ σ : Mem} {T : Nat → Int32} {L : Nat} {r : Int32} {n c : Nat} (h : Rd1 τ σ T L n) (h1 : c ≠ 0) (h2 : c < 239 ∨ 273 ≤ c) : rdX τ r c = σ c := (rdX_c h1 (by omega)).trans (h.1 c (by omega) (by omega) (by omega))
theorem Rd1_k {τ σ : Mem} {T : Nat → Int32} {L n k : Nat} (h : Rd1 τ σ T L n) (hk : k < n + 1) : kf T L (csP T L k) < 8 := by
  obtain ⟨-, -, -, -, -, h6, h7, -, -⟩ := h
  rcases Nat.lt_or_ge k n with g | g
  · exact cmV_k (h6 k g).1
  · rw [show k = n by omega]; exact cmV_k h7
/-- how the commands of a text went: memory σ2 is that with the house copied into the draft -/
def CmR (τ σ : Mem) (L j k9 : Nat) (r : Int32) : Prop := ∃ τ1 σ2 n, Rd1 τ1 σ (σ 240) L n ∧ CpH σ2 (rdX τ1 (-1)) 21 1 ∧ (∀ i, i < n + 1 → carK σ2 (i + 1) (243 + i) 5 = 0) ∧ AccQ τ (carK σ2 (n + 1)) j k9 ∧ r = nI (n + 1)
def CmX0 (τ σ : Mem) (L : Nat) : Prop := ∃ τ1 r, Rd0 τ1 σ (σ 240) L r ∧ τ = rdX τ1 r
def CmX1 (τ σ : Mem) (L : Nat) : Prop := ∃ τ1 σ2 n k, Rd1 τ1 σ (σ 240) L n ∧ CpH σ2 (rdX τ1 (-1)) 21 1 ∧ k < n + 1 ∧ (∀ i, i < k → carK σ2 (i + 1) (243 + i) 5 = 0) ∧ ¬ carK σ2 (k + 1) (243 + k) 5 = 0 ∧ τ = kepM (carK σ2 (k + 1)) (243 + k) (nI k)

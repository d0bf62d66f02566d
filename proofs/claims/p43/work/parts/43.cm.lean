/-! the reference's commands: reading all, then carrying out one behind the other -/
def prs (T : Nat → Int32) (L : Nat) : Nat → Int32 → Nat → Int32 × Nat
  | 0, is, e => (is, e)
  | d + 1, is, e => if is = 0 then (is, e) else if nI L ≤ nI e then (is, e) else if nxV T L e 59 = 0 then (0, e) else prs T L d (cmV T L (e + 1)) (cmE T L (e + 1))
def stE (T : Nat → Int32) (L : Nat) (h : Nat → Int32) (e : Nat) : StT := stp h (kf T L e) ((cmN T L e).getD 0 0) ((cmN T L e).getD 1 0) ((cmN T L e).getD 2 0)
abbrev ExT : Type := Int32 × (Nat → Int32) × Nat × Int32 × Int32
def exS (T : Nat → Int32) (L : Nat) : Nat → Nat → (Nat → Int32) → Nat → ExT
  | 0, _, h, c => (1, h, c, 0, 0)
  | d + 1, e, h, c => if (stE T L h e).1 = 0 then (0, h, c, (stE T L h e).2.2.2.1, (stE T L h e).2.2.2.2) else if nxV T L (cmE T L e) 59 = 0 then (1, (stE T L h e).2.1, c + 1, 0, 0) else exS T L d (cmE T L e + 1) (stE T L h e).2.1 (c + 1)
theorem prs_s {T : Nat → Int32} {L d e : Nat} {is : Int32} : prs T L (d + 1) is e = if is = 0 then (is, e) else if nI L ≤ nI e then (is, e) else if nxV T L e 59 = 0 then (0, e) else prs T L d (cmV T L (e + 1)) (cmE T L (e + 1)) := rfl
theorem prs_0 {T : Nat → Int32} {L d e : Nat} : prs T L d 0 e = (0, e) := by
  cases d with
  | zero => rfl
  | succ d => unfold prs; rw [if_pos rfl]
theorem cmV_b {T : Nat → Int32} {L a : Nat} : cmV T L a = 0 ∨ cmV T L a = 1 := by
  unfold cmV
  split
  · exact Or.inl rfl
  · exact psV_b _
theorem cmV_k {T : Nat → Int32} {L a : Nat} (h : ¬ cmV T L a = 0) : kf T L a < 8 := kf_lt (fun g => h (if_pos g))
theorem psN_len {T : Nat → Int32} {L a j : Nat} (hj : j < 8) : (psN T L (strB.getD j []) a 0).length = nmC j := by
  rcases (show j = 0 ∨ j = 1 ∨ j = 2 ∨ j = 3 ∨ j = 4 ∨ j = 5 ∨ j = 6 ∨ j = 7 by omega) with rfl | rfl | rfl | rfl | rfl | rfl | rfl | rfl <;> rfl
theorem cmN_len {T : Nat → Int32} {L a : Nat} (h : kf T L a < 8) : (cmN T L a).length = nmC (kf T L a) := psN_len h
def cs1 (σ : Mem) : Mem := sg (sg (triM σ) 276 12 0) 276 15 (-1)
theorem cs1_c {σ : Mem} {c : Nat} (h1 : c ≠ 276) (h2 : c ≠ 278) : cs1 σ c = σ c := by
  unfold cs1; rw [sg_n h1, sg_n h1, triM_c h2 h1]
theorem cs1_j {σ : Mem} {j : Nat} (h1 : j ≠ 12) (h2 : j ≠ 15) (h3 : j ≠ 20) : cs1 σ 276 j = σ 276 j := by
  unfold cs1; rw [sg_at, if_neg (fun z => h2 z.2), sg_at, if_neg (fun z => h1 z.2), triM_276 h3]
theorem cs1_15 {σ : Mem} : cs1 σ 276 15 = -1 := by unfold cs1; rw [sg_ss]
theorem cs1_20 {σ : Mem} : cs1 σ 276 20 = 0 := by
  unfold cs1 triM; rw [sg_at, if_neg (by decide), sg_at, if_neg (by decide), sb_n (by decide), sg_ss]
theorem cs1_12 {σ : Mem} : cs1 σ 276 12 = nI 0 := by
  unfold cs1; rw [sg_at, if_neg (by decide), sg_ss]; exact nI_0.symm
theorem cs1_278 {σ : Mem} : cs1 σ 278 = fil (σ 277) (σ 278) 96 := by
  unfold cs1 triM; rw [sg_n (by decide), sg_n (by decide), sb_s]
def XMb (τ σ : Mem) : Prop := (∀ c, c ≠ 276 → c ≠ 277 → c ≠ 282 → c ≠ 285 → τ c = σ c) ∧ ∀ j, j < 12 ∨ 20 ≤ j ∨ j = 14 ∨ j = 15 → τ 276 j = σ 276 j
def RSN (τ σ : Mem) : Prop := τ 276 16 = σ 276 16 ∧ τ 276 17 = σ 276 17 ∧ τ 276 18 = σ 276 18
/-- the state ahead of a command, or behind the last one -/
def M2 (ρ σ : Mem) (T : Nat → Int32) (L d : Nat) (RES : ExT) (m9 f9 : Int32) (e8 : Nat) (c8 : Nat) : Prop :=
  XMb ρ σ ∧ ((m9 = 1 ∧ ρ 276 12 = nI e8 ∧ e8 ≤ L ∧ L + 2 ≤ d + e8 ∧ RW (ρ 277) ∧ RSN ρ σ ∧ ¬ (prs T L d (cmV T L e8) (cmE T L e8)).1 = 0 ∧ exS T L d e8 (ρ 277) c8 = RES) ∨
    (m9 = 0 ∧ 1 ≤ d ∧ f9 = RES.1 ∧ c8 = RES.2.2.1 ∧ (f9 = 0 → ρ 276 16 = RES.2.2.2.1 ∧ ρ 276 17 = RES.2.2.2.2) ∧ (¬ f9 = 0 → f9 = 1 ∧ RSN ρ σ ∧ ρ 277 = RES.2.1)))
theorem M2_z {ρ σ : Mem} {T : Nat → Int32} {L e8 c8 : Nat} {RES : ExT} {m9 f9 : Int32} (h : M2 ρ σ T L 0 RES m9 f9 e8 c8) : False := by
  rcases h.2 with ⟨-, -, h1, h2, -⟩ | ⟨-, h1, -⟩ <;> omega
theorem M2_r {ρ σ : Mem} {T : Nat → Int32} {L d e8 c8 : Nat} {RES : ExT} {m9 f9 : Int32} (h : M2 ρ σ T L d RES m9 f9 e8 c8) (g : ¬ m9 = 0) : ρ 276 12 = nI e8 ∧ e8 ≤ L ∧ L + 2 ≤ d + e8 ∧ RW (ρ 277) ∧ RSN ρ σ ∧ ¬ (prs T L d (cmV T L e8) (cmE T L e8)).1 = 0 ∧ exS T L d e8 (ρ 277) c8 = RES := (h.2.resolve_right (fun z => g z.1)).2
theorem M2_e {ρ σ : Mem} {T : Nat → Int32} {L d e8 c8 : Nat} {RES : ExT} {m9 f9 : Int32} (h : M2 ρ σ T L d RES m9 f9 e8 c8) (g : m9 = 0) : f9 = RES.1 ∧ c8 = RES.2.2.1 ∧ (f9 = 0 → ρ 276 16 = RES.2.2.2.1 ∧ ρ 276 17 = RES.2.2.2.2) ∧ (¬ f9 = 0 → f9 = 1 ∧ RSN ρ σ ∧ ρ 277 = RES.2.1) := (h.2.resolve_left (fun z => absurd (z.1.symm.trans g) (by decide))).2.2
theorem CmP.xm {τ σ : Mem} {e : Nat} (h : CmP τ σ e) : XMb τ σ := ⟨fun c h1 _ _ h4 => h.1 c h1 h4, fun j hj => h.2.1 j (by omega) (by omega)⟩
theorem CmP.rs {τ σ : Mem} {e : Nat} (h : CmP τ σ e) : RSN τ σ := ⟨h.2.1 16 (by decide) (by decide), h.2.1 17 (by decide) (by decide), h.2.1 18 (by decide) (by decide)⟩
theorem XMb.tr {ρ τ σ : Mem} (h : XMb ρ τ) (g : XMb τ σ) : XMb ρ σ := ⟨fun c h1 h2 h3 h4 => (h.1 c h1 h2 h3 h4).trans (g.1 c h1 h2 h3 h4), fun j hj => (h.2 j hj).trans (g.2 j hj)⟩
theorem RSN.tr {ρ τ σ : Mem} (h : RSN ρ τ) (g : RSN τ σ) : RSN ρ σ := ⟨h.1.trans g.1, h.2.1.trans g.2.1, h.2.2.trans g.2.2⟩
theorem StM.xm {τ σ : Mem} {t : StT} (h : StM τ σ t) : XMb τ σ := by
  rcases h with ⟨_, h⟩ | ⟨_, h1, h2, -⟩
  · subst h
    exact ⟨fun c h1 _ _ _ => by unfold refR; rw [sg_n h1, sg_n h1, sg_n h1], fun j hj => refR_k ⟨by omega, by omega, by omega⟩⟩
  · exact ⟨fun c a b d _ => h1 c a b d, fun j hj => h2 j (by omega)⟩
theorem StM.at {τ σ : Mem} {t : StT} (h : StM τ σ t) : τ 276 12 = σ 276 12 := by
  rcases h with ⟨_, h⟩ | ⟨_, h1, h2, -⟩
  · subst h; exact refR_k ⟨by decide, by decide, by decide⟩
  · exact h2 12 (by decide)
theorem sg12_xm {τ : Mem} {x : Int32} : XMb (sg τ 276 12 x) τ := ⟨fun c h1 _ _ _ => sg_n h1, fun j hj => by rw [sg_at, if_neg (fun z => by omega)]⟩
section M2S
variable {ρ ρ1 ρ2 σ : Mem} {T : Nat → Int32} {L d e8 c8 : Nat} {RES : ExT} {m9 f9 r1 r2 : Int32}
/-- one command: read, and carried out -/
theorem M2_1 (hL : L ≤ 60) (h : M2 ρ σ T L (d + 1) RES m9 f9 e8 c8) (g : ¬ m9 = 0) (hq : CmQ ρ1 ρ T L e8 r1) : ¬ cmV T L e8 = 0 ∧ kf T L e8 < 8 ∧ RW (ρ1 277) ∧ ρ1 276 13 = chB (kf T L e8) 0 ∧ (0 < nmC (kf T L e8) → ρ1 285 0 = (cmN T L e8).getD 0 0) ∧ (1 < nmC (kf T L e8) → ρ1 285 1 = (cmN T L e8).getD 1 0) ∧ (2 < nmC (kf T L e8) → ρ1 285 2 = (cmN T L e8).getD 2 0) ∧ ρ1 277 = ρ 277 := by
  obtain ⟨g1, g2, g3, g4, g5, g6, g7⟩ := M2_r h g
  have hne : ¬ cmV T L e8 = 0 := fun z => g6 (by rw [z, prs_0])
  have hk := cmV_k hne
  have e7 : ρ1 277 = ρ 277 := hq.2.1.1 277 (by decide) (by decide)
  obtain ⟨q1, q2⟩ := hq.2.2 hne
  rw [cmN_len hk] at q2
  exact ⟨hne, hk, by rw [e7]; exact g4, q1, q2 0, q2 1, q2 2, e7⟩
theorem M2_A (h : M2 ρ σ T L (d + 1) RES m9 f9 e8 c8) (g : ¬ m9 = 0) (hq : CmQ ρ1 ρ T L e8 r1) (hs : r2 = (stE T L (ρ 277) e8).1 ∧ StM ρ2 ρ1 (stE T L (ρ 277) e8)) (hr : r2 = 0) : M2 ρ2 σ T L d RES 0 r2 e8 c8 := by
  obtain ⟨g1, g2, g3, g4, g5, g6, g7⟩ := M2_r h g
  have e0 : (stE T L (ρ 277) e8).1 = 0 := hs.1.symm.trans hr
  have e : RES = (0, ρ 277, c8, (stE T L (ρ 277) e8).2.2.2.1, (stE T L (ρ 277) e8).2.2.2.2) := by
    rw [← g7]; unfold exS; rw [if_pos e0]
  refine ⟨(hs.2.xm.tr hq.2.1.xm).tr h.1, Or.inr ⟨rfl, by omega, by rw [e, hr], by rw [e], fun _ => ?_, fun z => absurd hr z⟩⟩
  rcases hs.2 with ⟨_, w⟩ | ⟨w, _⟩
  · rw [w, e]
    unfold refR
    exact ⟨by simp only [sg_at]; simp, by simp only [sg_at]; simp⟩
  · rw [e0] at w; exact absurd w (by decide)
theorem M2_d (h : M2 ρ σ T L (d + 1) RES m9 f9 e8 c8) (g : ¬ m9 = 0) (hq : CmQ ρ1 ρ T L e8 r1) (hs : r2 = (stE T L (ρ 277) e8).1 ∧ StM ρ2 ρ1 (stE T L (ρ 277) e8)) (hr : ¬ r2 = 0) : ρ2 276 12 = nI (cmE T L e8) ∧ r2 = 1 ∧ ¬ (stE T L (ρ 277) e8).1 = 0 ∧ ρ2 277 = (stE T L (ρ 277) e8).2.1 ∧ RSN ρ2 σ ∧ ρ2 284 = ρ 284 ∧ ρ2 276 11 = ρ 276 11 := by
  obtain ⟨g1, g2, g3, g4, g5, g6, g7⟩ := M2_r h g
  have e0 : ¬ (stE T L (ρ 277) e8).1 = 0 := fun z => hr (hs.1.trans z)
  rcases hs.2 with ⟨w, _⟩ | ⟨w, w1, w2, w3, w4⟩
  · exact absurd w e0
  · refine ⟨hs.2.at.trans hq.2.1.2.2, hs.1.trans w, e0, w3, RSN.tr ⟨w2 16 (by decide), w2 17 (by decide), w2 18 (by decide)⟩ (hq.2.1.rs.tr g5), ?_, ?_⟩
    · rw [w1 284 (by decide) (by decide) (by decide), hq.2.1.1 284 (by decide) (by decide)]
    · rw [w2 11 (by decide), hq.2.1.2.1 11 (by decide) (by decide)]
theorem M2_B (h : M2 ρ σ T L (d + 1) RES m9 f9 e8 c8) (g : ¬ m9 = 0) (hq : CmQ ρ1 ρ T L e8 r1) (hs : r2 = (stE T L (ρ 277) e8).1 ∧ StM ρ2 ρ1 (stE T L (ρ 277) e8)) (hr : ¬ r2 = 0) (ht : nxV T L (cmE T L e8) 59 = 0) {x : Int32} : M2 (sg ρ2 276 12 x) σ T L d RES 0 r2 e8 (c8 + 1) := by
  obtain ⟨g1, g2, g3, g4, g5, g6, g7⟩ := M2_r h g
  obtain ⟨a1, a2, a3, a4, a5, -⟩ := M2_d h g hq hs hr
  have e : RES = (1, (stE T L (ρ 277) e8).2.1, c8 + 1, 0, 0) := by
    rw [← g7]; unfold exS; rw [if_neg a3, if_pos ht]
  refine ⟨sg12_xm.tr ((hs.2.xm.tr hq.2.1.xm).tr h.1), Or.inr ⟨rfl, by omega, by rw [e, a2], by rw [e], fun z => absurd z hr, fun _ => ⟨a2, RSN.tr ⟨by simp only [sg_at]; simp, by simp only [sg_at]; simp, by simp only [sg_at]; simp⟩ a5, ?_⟩⟩⟩
  rw [sg_n (by decide), a4, e]
theorem M2_C (hL : L ≤ 60) (h : M2 ρ σ T L (d + 1) RES m9 f9 e8 c8) (g : ¬ m9 = 0) (hq : CmQ ρ1 ρ T L e8 r1) (hs : r2 = (stE T L (ρ 277) e8).1 ∧ StM ρ2 ρ1 (stE T L (ρ 277) e8)) (hr : ¬ r2 = 0) (ht : ¬ nxV T L (cmE T L e8) 59 = 0) : M2 (sg ρ2 276 12 (nI (nxE T L (cmE T L e8) 59))) σ T L d RES 1 r2 (cmE T L e8 + 1) (c8 + 1) := by
  obtain ⟨g1, g2, g3, g4, g5, g6, g7⟩ := M2_r h g
  obtain ⟨a1, a2, a3, a4, a5, -⟩ := M2_d h g hq hs hr
  have hne : ¬ cmV T L e8 = 0 := fun z => g6 (by rw [z, prs_0])
  obtain ⟨l1, l2⟩ := cm_le (T := T) (a := e8) g2 hL
  have hnL : ¬ nI L ≤ nI (cmE T L e8) := fun z => ht (nx_a z)
  have hlt : ¬ L ≤ cmE T L e8 := fun z => hnL (nI_le z (by omega))
  have hn1 : ¬ (stE T L (ρ 277) e8).1 = 0 := a3
  refine ⟨sg12_xm.tr ((hs.2.xm.tr hq.2.1.xm).tr h.1), Or.inl ⟨rfl, by rw [sg_ss, nx_e1 ht], by omega, by omega, ?_, RSN.tr ⟨by simp only [sg_at]; simp, by simp only [sg_at]; simp, by simp only [sg_at]; simp⟩ a5, ?_, ?_⟩⟩
  · rw [sg_n (by decide), a4]
    exact rw_stp (cmV_k hne) g4 hn1
  · intro z
    apply g6
    rw [show prs T L (d + 1) (cmV T L e8) (cmE T L e8) = prs T L d (cmV T L (cmE T L e8 + 1)) (cmE T L (cmE T L e8 + 1)) from by rw [prs_s, if_neg hne, if_neg hnL, if_neg ht]]
    exact z
  · rw [sg_n (by decide), a4, ← g7]
    conv => rhs; unfold exS
    rw [if_neg a3, if_neg ht]
end M2S
def cmP (σ : Mem) (L : Nat) : Int32 × Nat := prs (σ 284) L (L + 2) (cmV (σ 284) L 0) (cmE (σ 284) L 0)
def cmX (σ : Mem) (L : Nat) : ExT := exS (σ 284) L (L + 2) 0 (σ 277) 0
def CmdQ (τ σ : Mem) (L u : Nat) (r : Int32) : Prop :=
  (∀ c, c ≠ 276 → c ≠ 277 → c ≠ 278 → c ≠ 280 → c ≠ 282 → c ≠ 285 → τ c = σ c) ∧ (τ 276 6 = σ 276 6 ∧ τ 276 9 = σ 276 9 ∧ τ 276 11 = 0) ∧
  (((cmP σ L).1 = 0 ∧ r = 0 ∧ τ 276 20 = 1 ∧ τ 276 15 = nI (cmP σ L).2 ∧ (τ 276 4 = σ 276 4 ∧ τ 280 = σ 280) ∧ RSN τ σ ∧ ∀ j, j < 96 → τ 277 j = σ 277 j) ∨
   (¬ (cmP σ L).1 = 0 ∧ (cmX σ L).1 = 0 ∧ r = 0 ∧ τ 276 20 = 2 ∧ τ 276 15 = -1 ∧ (τ 276 4 = σ 276 4 ∧ τ 280 = σ 280) ∧ (τ 276 16 = (cmX σ L).2.2.2.1 ∧ τ 276 17 = (cmX σ L).2.2.2.2 ∧ τ 276 18 = nI (cmX σ L).2.2.1) ∧ ∀ j, j < 96 → τ 277 j = σ 277 j) ∨
   (¬ (cmP σ L).1 = 0 ∧ (cmX σ L).1 = 1 ∧ r = nI (cmX σ L).2.2.1 ∧ τ 276 20 = 0 ∧ τ 276 15 = -1 ∧ (τ 276 4 = nI (kpU u + 1) ∧ τ 280 = putR (kp0 σ u 280) (fil (σ 277) (σ 278) 96) (96 * kpU u) 96) ∧ RSN τ σ ∧ τ 277 = (cmX σ L).2.1))
theorem CmQ.T {τ σ : Mem} {T T' : Nat → Int32} {L a : Nat} {r : Int32} (h : CmQ τ σ T L a r) (e : T = T') : CmQ τ σ T' L a r := e ▸ h
theorem Cmd_1 {τ σ : Mem} {L u : Nat} {e : Nat} (h : CmP τ (cs1 σ) e) (hp : cmP σ L = (0, e)) : CmdQ (sg (sg (sg τ 276 15 (nI e)) 276 11 0) 276 20 1) σ L u 0 := by
  have hj : ∀ j, j ≠ 12 → j ≠ 13 → j ≠ 15 → j ≠ 20 → τ 276 j = σ 276 j := fun j h1 h2 h3 h4 => (h.2.1 j h1 h2).trans (cs1_j h1 h3 h4)
  have hc : ∀ c, c ≠ 276 → c ≠ 278 → c ≠ 285 → τ c = σ c := fun c h1 h2 h3 => (h.1 c h1 h3).trans (cs1_c h1 h2)
  refine ⟨fun c h1 h2 h3 h4 h5 h6 => by rw [sg_n h1, sg_n h1, sg_n h1, hc c h1 h3 h6], ⟨?_, ?_, ?_⟩, Or.inl ⟨by rw [hp], rfl, sg_ss, ?_, ⟨?_, ?_⟩, ⟨?_, ?_, ?_⟩, fun j hj => ?_⟩⟩
  · simp only [sg_at]; simp; exact hj 6 (by decide) (by decide) (by decide) (by decide)
  · simp only [sg_at]; simp; exact hj 9 (by decide) (by decide) (by decide) (by decide)
  · simp only [sg_at]; simp
  · simp only [sg_at]; simp [hp]
  · simp only [sg_at]; simp; exact hj 4 (by decide) (by decide) (by decide) (by decide)
  · rw [sg_n (by decide), sg_n (by decide), sg_n (by decide)]; exact hc 280 (by decide) (by decide) (by decide)
  · simp only [sg_at]; simp; exact hj 16 (by decide) (by decide) (by decide) (by decide)
  · simp only [sg_at]; simp; exact hj 17 (by decide) (by decide) (by decide) (by decide)
  · simp only [sg_at]; simp; exact hj 18 (by decide) (by decide) (by decide) (by decide)
  · rw [sg_n (by decide), sg_n (by decide), sg_n (by decide), hc 277 (by decide) (by decide) (by decide)]
theorem XM_cs {ρ σ : Mem} (h : XMb ρ (cs1 σ)) : (∀ j, j < 12 ∨ 21 ≤ j ∨ j = 14 → ρ 276 j = σ 276 j) ∧ (∀ c, c ≠ 276 → c ≠ 277 → c ≠ 278 → c ≠ 282 → c ≠ 285 → ρ c = σ c) ∧ ρ 276 15 = -1 ∧ ρ 276 20 = 0 ∧ ρ 278 = fil (σ 277) (σ 278) 96 :=
  ⟨fun j hj => (h.2 j (by omega)).trans (cs1_j (by omega) (by omega) (by omega)), fun c h1 h2 h3 h4 h5 => (h.1 c h1 h2 h4 h5).trans (cs1_c h1 h3), (h.2 15 (by omega)).trans cs1_15, (h.2 20 (by omega)).trans cs1_20, (h.1 278 (by decide) (by decide) (by decide) (by decide)).trans cs1_278⟩
theorem RSN_cs {ρ σ : Mem} (h : RSN ρ (cs1 σ)) : RSN ρ σ := ⟨h.1.trans (cs1_j (by decide) (by decide) (by decide)), h.2.1.trans (cs1_j (by decide) (by decide) (by decide)), h.2.2.trans (cs1_j (by decide) (by decide) (by decide))⟩
theorem Cmd_2 {ρ σ : Mem} {L u d e8 c8 : Nat} {m9 f9 : Int32} (h : M2 ρ (cs1 σ) (σ 284) L d (cmX σ L) m9 f9 e8 c8) (g : m9 = 0) (hf : f9 = 0) (hp : ¬ (cmP σ L).1 = 0) : CmdQ (sg (sb (sg (sg ρ 276 11 0) 276 18 (nI c8)) 277 (fil (ρ 278) (ρ 277) 96)) 276 20 2) σ L u 0 := by
  obtain ⟨x1, x2, x3, x4, x5⟩ := XM_cs h.1
  obtain ⟨a1, a2, a3, -⟩ := M2_e h g
  obtain ⟨b1, b2⟩ := a3 hf
  refine ⟨fun c h1 h2 h3 h4 h5 h6 => by rw [sg_n h1, sb_n h2, sg_n h1, sg_n h1, x2 c h1 h2 h3 h5 h6], ⟨?_, ?_, ?_⟩, Or.inr (Or.inl ⟨hp, a1.symm.trans hf, rfl, sg_ss, ?_, ⟨?_, ?_⟩, ⟨?_, ?_, ?_⟩, fun j hj => ?_⟩)⟩
  · simp only [sg_at, sbAp]; simp; exact x1 6 (by omega)
  · simp only [sg_at, sbAp]; simp; exact x1 9 (by omega)
  · simp only [sg_at, sbAp]; simp
  · simp only [sg_at, sbAp]; simp; exact x3
  · simp only [sg_at, sbAp]; simp; exact x1 4 (by omega)
  · rw [sg_n (by decide), sb_n (by decide), sg_n (by decide), sg_n (by decide)]; exact x2 280 (by decide) (by decide) (by decide) (by decide) (by decide)
  · simp only [sg_at, sbAp]; simp; exact b1
  · simp only [sg_at, sbAp]; simp; exact b2
  · simp only [sg_at, sbAp]; simp; rw [a2]
  · rw [sg_n (by decide), sb_s, fil_lt hj, x5, fil_lt hj]
theorem Cmd_3 {ρ σ : Mem} {L u d e8 c8 : Nat} {m9 f9 : Int32} (h : M2 ρ (cs1 σ) (σ 284) L d (cmX σ L) m9 f9 e8 c8) (g : m9 = 0) (hf : ¬ f9 = 0) (hp : ¬ (cmP σ L).1 = 0) : CmdQ (keepM (sg ρ 276 11 0) u) σ L u (nI c8) := by
  obtain ⟨x1, x2, x3, x4, x5⟩ := XM_cs h.1
  obtain ⟨a1, a2, -, a3⟩ := M2_e h g
  obtain ⟨b1, b2, b3⟩ := a3 hf
  have hb2 := RSN_cs b2
  have k1 : ∀ j, j ≠ 4 → keepM (sg ρ 276 11 0) u 276 j = sg ρ 276 11 0 276 j := fun j hj => by
    unfold keepM
    rw [sg_at, if_neg (fun z => hj z.2), sb_n (by decide)]
    unfold kp0
    split
    · rw [sg_at, if_neg (fun z => hj z.2), sb_n (by decide)]
    · rfl
  have k2 : ∀ c, c ≠ 276 → c ≠ 280 → keepM (sg ρ 276 11 0) u c = ρ c := fun c h1 h2 => by
    unfold keepM
    rw [sg_n h1, sb_n h2, kp0_c h2 h1, sg_n h1]
  have e80 : ρ 280 = σ 280 := x2 280 (by decide) (by decide) (by decide) (by decide) (by decide)
  have k3 : kp0 (sg ρ 276 11 0) u 280 = kp0 σ u 280 := by
    unfold kp0
    split
    · have b1 : ∀ (τ : Mem) (y : Int32), sg τ 276 4 y 280 = τ 280 := fun τ y => sg_n (by decide)
      have b2 : sg ρ 276 11 0 280 = σ 280 := (sg_n (by decide)).trans e80
      rw [b1, b1, sb_s, sb_s, b2]
    · rw [sg_n (by decide), e80]
  refine ⟨fun c h1 h2 h3 h4 h5 h6 => by rw [k2 c h1 h4, x2 c h1 h2 h3 h5 h6], ⟨?_, ?_, ?_⟩, Or.inr (Or.inr ⟨hp, a1.symm.trans b1, by rw [a2], ?_, ?_, ⟨?_, ?_⟩, ⟨?_, ?_, ?_⟩, ?_⟩)⟩
  · rw [k1 6 (by decide)]; simp only [sg_at]; simp; exact x1 6 (by omega)
  · rw [k1 9 (by decide)]; simp only [sg_at]; simp; exact x1 9 (by omega)
  · rw [k1 11 (by decide)]; exact sg_ss
  · rw [k1 20 (by decide)]; simp only [sg_at]; simp; exact x4
  · rw [k1 15 (by decide)]; simp only [sg_at]; simp; exact x3
  · unfold keepM; rw [sg_ss]
  · unfold keepM; rw [sg_n (by decide), sb_s, k3, sg_n (by decide), x5]
  · rw [k1 16 (by decide)]; simp only [sg_at]; simp; exact hb2.1
  · rw [k1 17 (by decide)]; simp only [sg_at]; simp; exact hb2.2.1
  · rw [k1 18 (by decide)]; simp only [sg_at]; simp; exact hb2.2.2
  · rw [k2 277 (by decide) (by decide)]; exact b3
theorem M2_i {τ σ : Mem} {L e9 : Nat} (hL : L ≤ 60) (hR : RW (σ 277)) (h : CmP τ (cs1 σ) e9) (hp : ¬ (cmP σ L).1 = 0) : M2 (sg τ 276 12 0) (cs1 σ) (σ 284) L (L + 2) (cmX σ L) 1 1 0 0 := by
  have e : τ 277 = σ 277 := (h.1 277 (by decide) (by decide)).trans (cs1_c (by decide) (by decide))
  refine ⟨sg12_xm.tr h.xm, Or.inl ⟨rfl, sg_ss.trans nI_0.symm, Nat.zero_le _, by omega, ?_, RSN.tr ⟨by simp only [sg_at]; simp, by simp only [sg_at]; simp, by simp only [sg_at]; simp⟩ h.rs, hp, ?_⟩⟩
  · rw [sg_n (by decide), e]; exact hR
  · rw [sg_n (by decide), e]; rfl

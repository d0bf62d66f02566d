/-! camps counted by joining, told the same -/
section JM
variable {σ μ : Mem} {n mb p : Nat}
theorem TT_in (hw : WF (μ 277) n mb) (hg : HR σ 1 (μ 277)) {q z : Nat} (hq : q < n) (hz : z < n) (hs : ¬ sdR (μ 277) q = 0) : TT (μ 277) n q z ↔ bt (cmR (μ 277) n q) z := by
  have hn := hw.1.2.1
  have eq : cmR (μ 277) n q = cmK (μ 277) n q 6 := if_neg hs
  have K := cmK_b (h := μ 277) hn hq 6
  rw [eq]
  constructor
  · rintro (e | e)
    · subst e; exact K.2.1
    · have ez : cmR (μ 277) n z = cmK (μ 277) n z 6 := if_neg e.2.1
      rw [← eq, e.2.2, ez]
      exact (cmK_b (h := μ 277) hn hz 6).2.1
  · intro y
    refine (K.2.2 (fun z => TT (μ 277) n q z ∧ sdR (μ 277) z = sdR (μ 277) q) ⟨Or.inl rfl, rfl⟩ (fun a b ha hb hC hE => ?_) z (by omega) y).1
    refine ⟨hC.1.tr (al_T hw hg ha hb ((al_e hw hg (by omega) (by omega)).mpr ⟨hE.1, by rw [hC.2]; exact hs, hC.2.trans hE.2.symm⟩)), hE.2⟩
theorem again_e (hw : WF (μ 277) n mb) (hg : HR σ 1 (μ 277)) : (jout σ (1 + 1) n (fil nI (σ 76) n, nI n - plmR (σ (1 + 1 + 1)) n) n).2 = cmsV (μ 277) n n := by
  have hn := hw.1.2.1
  have h0 : JI (μ 277) n (plmR (σ (1 + 1 + 1)) n) (fil nI (σ 76) n, nI n - plmR (σ (1 + 1 + 1)) n) := by
    have e : ∀ q, q < n → fil nI (σ 76) n q = nI q := fun q hq => if_pos hq
    refine ⟨fun q hq => ⟨q, hq, e q hq, e q hq⟩, fun q z hq hz y => Or.inl ?_, ?_⟩
    · have y : fil nI (σ 76) n q = fil nI (σ 76) n z := y
      rw [e q hq, e z hz] at y
      exact (nI_eq (by omega) (by omega)).mp y
    · have : ∀ k, k ≤ n → kP (fxB (fil nI (σ 76) n)) k = k := fun k => by
        induction k with
        | zero => intro _; rfl
        | succ k ih =>
          intro hk
          show kP (fxB (fil nI (σ 76) n)) k + (if fxB (fil nI (σ 76) n) k = true then 1 else 0) = _
          rw [ih (by omega), if_pos (show fxB (fil nI (σ 76) n) k = true from decide_eq_true (e k (by omega)))]
      show nI n - _ = nI (kP (fxB (fil nI (σ 76) n)) n) - _
      rw [this n (Nat.le_refl _)]
  obtain ⟨⟨J1, J2, J3⟩, J4⟩ := JI_out hw hg h0 n (Nat.le_refl _)
  generalize jout σ (1 + 1) n (fil nI (σ 76) n, nI n - plmR (σ (1 + 1 + 1)) n) n = a at J1 J2 J3 J4
  rw [J3, fx_fs hn J1]
  have J5 : ∀ i j, i < n → j < n → ¬ alliedB σ (1 + 1) i j = 0 → a.1 i = a.1 j := fun i j hi hj ha => by
    rcases Nat.lt_trichotomy i j with c | c | c
    · exact J4 i j hi c hj ha
    · rw [c]
    · obtain ⟨b1, b2, b3⟩ := (al_e hw hg (by omega) (by omega)).mp ha
      exact (J4 j i hj c hi ((al_e hw hg (by omega) (by omega)).mpr ⟨by rw [hw.2.2.2.1 j i (by omega) (by omega)]; exact b1, by rw [← b3]; exact b2, b3.symm⟩)).symm
  have J6 : ∀ q z, q < n → z < n → (a.1 q = a.1 z ↔ TT (μ 277) n q z) := fun q z hq hz => by
    refine ⟨J2 q z hq hz, fun y => ?_⟩
    rcases y with y | y
    · rw [y]
    · have hb := (TT_in hw hg hq hz y.1).mp (Or.inr y)
      rw [show cmR (μ 277) n q = cmK (μ 277) n q 6 from if_neg y.1] at hb
      exact ((cmK_b (h := μ 277) hn hq 6).2.2 (fun z => a.1 z = a.1 q ∧ sdR (μ 277) z = sdR (μ 277) q) ⟨rfl, rfl⟩ (fun c b hc hb hC hE => ⟨(J5 c b hc hb ((al_e hw hg (by omega) (by omega)).mpr ⟨hE.1, by rw [hC.2]; exact y.1, hC.2.trans hE.2.symm⟩)).symm.trans hC.1, hE.2⟩) z (by omega) hb).1.symm
  have first : ∀ q, q < n → (fsB (fun q => tN (a.1 q)) q = true ↔ sdR (μ 277) q = 0 ∨ ntV (cmR (μ 277) n q) = nI q) := fun q hq => by
    have e1 : fsB (fun q => tN (a.1 q)) q = true ↔ ∀ p, p < q → ¬ TT (μ 277) n q p := by
      rw [fsB_t]
      have e : ∀ p, p < q → (tN (a.1 p) = tN (a.1 q) ↔ TT (μ 277) n q p) := fun p hp => by
        rw [← J6 q p hq (by omega)]
        obtain ⟨v, v1, v2, -⟩ := J1 q hq
        obtain ⟨u, u1, u2, -⟩ := J1 p (by omega)
        rw [v2, u2, tN_nI (by omega), tN_nI (by omega)]
        exact ⟨fun y => by rw [y], fun y => ((nI_eq (by omega) (by omega)).mp y).symm⟩
      exact ⟨fun y p hp z => y p hp ((e p hp).mpr z), fun y p hp z => y p hp ((e p hp).mp z)⟩
    rw [e1]
    by_cases s : sdR (μ 277) q = 0
    · refine ⟨fun _ => Or.inl s, fun _ p hp y => ?_⟩
      rcases y with y | y
      · omega
      · exact y.1 s
    · have e2 : (∀ p, p < q → ¬ TT (μ 277) n q p) ↔ ∀ p, p < q → ¬ bt (cmR (μ 277) n q) p := ⟨fun y p hp z => y p hp ((TT_in hw hg hq (by omega) s).mpr z), fun y p hp z => y p hp ((TT_in hw hg hq (by omega) s).mp z)⟩
      rw [e2, show cmR (μ 277) n q = cmK (μ 277) n q 6 from if_neg s]
      obtain ⟨⟨v, hv, ev⟩, kb, -⟩ := cmK_b (h := μ 277) hn hq 6
      rw [ev] at kb ⊢
      have key : ∀ v, v < 64 → ∀ q, q < 6 → ¬ bitV (nI v) q = 0 → ((∀ p, p < q → bitV (nI v) p = 0) ↔ ntV (nI v) = nI q) := by decide +kernel
      have k := key v hv q (by omega) kb
      constructor
      · intro y; exact Or.inr (k.mp fun p hp => Classical.byContradiction fun z => y p hp z)
      · intro y p hp z; exact z (k.mpr (y.resolve_left s) p hp)
  have cnt : ∀ k, k ≤ n → nI (kP (fsB (fun q => tN (a.1 q))) k) = plmR (σ (1 + 1 + 1)) k + cmsV (μ 277) n k := fun k => by
    induction k with
    | zero => intro _; rfl
    | succ k ih =>
      intro hk
      have ih := ih (by omega)
      have e1 : kP (fsB (fun q => tN (a.1 q))) (k + 1) = kP (fsB (fun q => tN (a.1 q))) k + (if fsB (fun q => tN (a.1 q)) k = true then 1 else 0) := rfl
      have e2 : plmR (σ (1 + 1 + 1)) (k + 1) = if σ (1 + 1 + 1) k = 0 then plmR (σ (1 + 1 + 1)) k + 1 else plmR (σ (1 + 1 + 1)) k := rfl
      have e3 : cmsV (μ 277) n (k + 1) = if sdR (μ 277) k = 0 then cmsV (μ 277) n k else if ntV (cmR (μ 277) n k) = nI k then cmsV (μ 277) n k + 1 else cmsV (μ 277) n k := rfl
      have es : σ (1 + 1 + 1) k = 0 ↔ sdR (μ 277) k = 0 := by
        rw [show σ (1 + 1 + 1) k = _ from (hg.1.2 k (by omega)).1]
        unfold sdR sgnV
        by_cases c0 : μ 277 (6 + 5 * k + 0) = 0
        · rw [c0, if_neg (by decide), if_pos rfl]
        · by_cases c1 : μ 277 (6 + 5 * k + 0) < 0
          · rw [if_pos c1]; exact ⟨fun y => absurd y c0, fun y => absurd y (by decide)⟩
          · rw [if_neg c1, if_neg c0]; exact ⟨fun y => absurd y c0, fun y => absurd y (by decide)⟩
      have f := first k (by omega)
      rw [e1, e2, e3]
      by_cases s : sdR (μ 277) k = 0
      · rw [if_pos (f.mpr (Or.inl s)), if_pos (es.mpr s), if_pos s, ← nI_1, ih, Int32.add_assoc, Int32.add_assoc, Int32.add_comm 1]
      · rw [if_neg (fun y => s (es.mp y)), if_neg s]
        by_cases t : ntV (cmR (μ 277) n k) = nI k
        · rw [if_pos (f.mpr (Or.inr t)), if_pos t, ← nI_1, ih, Int32.add_assoc]
        · rw [if_neg (fun y => (f.mp y).elim s t), if_neg t, Nat.add_zero, ih]
  rw [cnt n (Nat.le_refl _), Int32.add_comm, Int32.add_sub_cancel]
end JM

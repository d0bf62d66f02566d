/-! what a text says depends on its letters alone; the law's three texts -/
section TXC
variable {T T' : Nat → Int32} {L : Nat}
theorem tc_nx (A : ∀ j, j < L → T j = T' j) (hL : L ≤ 60) {a : Nat} {c : Int32} (ha : a ≤ L) : nxV T L a c = nxV T' L a c := by
  unfold nxV
  by_cases k : nI L ≤ nI a
  · rw [if_pos k, if_pos k]
  · have hlt : a < L := Nat.lt_of_not_le (fun z => k (nI_le z (by omega)))
    rw [if_neg k, if_neg k, A a hlt]
theorem tc_nE (A : ∀ j, j < L → T j = T' j) (hL : L ≤ 60) {a : Nat} {c : Int32} (ha : a ≤ L) : nxE T L a c = nxE T' L a c := by
  unfold nxE; rw [tc_nx A hL ha]
theorem tc_sg (A : ∀ j, j < L → T j = T' j) (hL : L ≤ 60) {a : Nat} (ha : a ≤ L) : sgC T L a = sgC T' L a := by
  unfold sgC; rw [tc_nx A hL ha]
theorem tc_dg (A : ∀ j, j < L → T j = T' j) (hL : L ≤ 60) {a : Nat} (ha : a ≤ L) : dgC T L a = dgC T' L a := by
  unfold dgC
  by_cases k : nI L ≤ nI a
  · rw [if_pos k, if_pos k]
  · have hlt : a < L := Nat.lt_of_not_le (fun z => k (nI_le z (by omega)))
    rw [if_neg k, if_neg k, A a hlt]
theorem dg_lt {a : Nat} (ha : a ≤ L) (hL : L ≤ 60) (h : ¬ dgC T L a = 0) : a < L := by
  refine Nat.lt_of_not_le (fun z => h ?_)
  unfold dgC
  rw [if_pos (nI_le z (by omega))]
theorem tc_ds (A : ∀ j, j < L → T j = T' j) (hL : L ≤ 60) : ∀ (m : Nat) {a : Nat}, a ≤ L → dgs T L a m = dgs T' L a m
  | 0, _, _ => rfl
  | m + 1, a, ha => by
    rw [dgs_s, dgs_s, ← tc_dg A hL ha]
    by_cases k : dgC T L a = 0
    · rw [if_pos k, if_pos k]
    · rw [if_neg k, if_neg k, tc_ds A hL m (dg_lt ha hL k)]
theorem tc_pV (A : ∀ j, j < L → T j = T' j) (hL : L ≤ 60) {a : Nat} {c : Int32} (ha : a ≤ L) : ptV T L a c = ptV T' L a c := by
  unfold ptV dgR
  rw [tc_sg A hL ha, tc_nx A hL ha, tc_nx A hL ha, tc_ds A hL 1 ha, tc_ds A hL 2 ha]
theorem tc_pE (A : ∀ j, j < L → T j = T' j) (hL : L ≤ 60) {a : Nat} {c : Int32} (ha : a ≤ L) : ptE T L a c = ptE T' L a c := by
  unfold ptE
  rw [tc_sg A hL ha, tc_nE A hL ha, tc_nE A hL ha, tc_ds A hL 1 ha, tc_ds A hL 2 ha]
theorem pE_le {a : Nat} {c : Int32} (ha : a ≤ L) (hL : L ≤ 60) : ptE T L a c ≤ L := by
  unfold ptE
  split
  · exact (nx_le ha hL).2
  · split
    · exact dgs_le ha hL 1
    · split
      · exact dgs_le ha hL 2
      · exact (nx_le ha hL).2
theorem tc_ps (A : ∀ j, j < L → T j = T' j) (hL : L ≤ 60) : ∀ (l : List Int32) {a : Nat}, a ≤ L → psV T L l a = psV T' L l a ∧ psE T L l a = psE T' L l a
  | [], _, _ => ⟨rfl, rfl⟩
  | c :: r, a, ha => by
    unfold psV psE
    obtain ⟨h1, h2⟩ := tc_ps A hL r (a := ptE T L a c) (pE_le ha hL)
    rw [← tc_pV A hL ha, ← tc_pE A hL ha, h1, h2]
    exact ⟨rfl, rfl⟩
theorem tc_kS (A : ∀ j, j < L → T j = T' j) (hL : L ≤ 60) {a : Nat} (ha : a ≤ L) : ∀ d j, kfS T L a d j = kfS T' L a d j
  | 0, _ => rfl
  | d + 1, j => by
    unfold kfS
    rw [tc_nx A hL ha, tc_kS A hL ha d (j + 1)]
theorem tc_kf (A : ∀ j, j < L → T j = T' j) (hL : L ≤ 60) {a : Nat} (ha : a ≤ L) : kf T L a = kf T' L a := tc_kS A hL ha 8 0
theorem tc_cm (A : ∀ j, j < L → T j = T' j) (hL : L ≤ 60) {a : Nat} (ha : a ≤ L) : cmV T L a = cmV T' L a ∧ cmE T L a = cmE T' L a := by
  unfold cmV cmE
  rw [tc_kf A hL ha, (tc_ps A hL _ ha).1, (tc_ps A hL _ ha).2]
  exact ⟨rfl, rfl⟩
theorem tc_pr (A : ∀ j, j < L → T j = T' j) (hL : L ≤ 60) : ∀ (d : Nat) (is : Int32) (e : Nat), e ≤ L → prs T L d is e = prs T' L d is e
  | 0, _, _, _ => rfl
  | d + 1, is, e, he => by
    unfold prs
    rw [tc_nx A hL he]
    by_cases k : nI L ≤ nI e
    · rw [if_pos k, if_pos k]
    · have hlt : e + 1 ≤ L := Nat.lt_of_not_le (fun z => k (nI_le z (by omega)))
      rw [(tc_cm A hL hlt).1, (tc_cm A hL hlt).2, tc_pr A hL d _ _ (cm_le hlt hL).2]
theorem fo_c {α : Type} {f g : Nat → α → α} {a : α} : ∀ n, (∀ q, q < n → f q = g q) → fo f a n = fo g a n
  | 0, _ => rfl
  | n + 1, h => by
    show f n (fo f a n) = g n (fo g a n)
    rw [h n (Nat.lt_succ_self n), fo_c n (fun q hq => h q (Nat.lt_succ_of_lt hq))]
theorem tc_dV (A : ∀ j, j < L → T j = T' j) {a j : Nat} (h : a + j ≤ L) : dgV T a j = dgV T' a j := fo_c j (fun q hq => by
  funext v
  rw [A (a + q) (by omega)])
theorem tc_pN (A : ∀ j, j < L → T j = T' j) (hL : L ≤ 60) : ∀ (l : List Int32) {a : Nat} (ng : Int32), a ≤ L → psN T L l a ng = psN T' L l a ng
  | [], _, _, _ => rfl
  | c :: r, a, ng, ha => by
    unfold psN
    have h1 := fun ng => tc_pN A hL r (a := ptE T L a c) ng (pE_le ha hL)
    rw [tc_nx A hL ha, ← tc_pE A hL ha, h1, h1, tc_dV A (dgs_le ha hL 1), tc_dV A (dgs_le ha hL 2), tc_ds A hL 1 ha, tc_ds A hL 2 ha]
theorem tc_cN (A : ∀ j, j < L → T j = T' j) (hL : L ≤ 60) {a : Nat} (ha : a ≤ L) : cmN T L a = cmN T' L a := by
  unfold cmN
  rw [tc_kf A hL ha, tc_pN A hL _ _ ha]
theorem tc_st (A : ∀ j, j < L → T j = T' j) (hL : L ≤ 60) {a : Nat} {h : Nat → Int32} (ha : a ≤ L) : stE T L h a = stE T' L h a := by
  unfold stE
  rw [tc_kf A hL ha, tc_cN A hL ha]
theorem tc_ex (A : ∀ j, j < L → T j = T' j) (hL : L ≤ 60) : ∀ (d e : Nat) (h : Nat → Int32) (c : Nat), e ≤ L → exS T L d e h c = exS T' L d e h c
  | 0, _, _, _, _ => rfl
  | d + 1, e, h, c, he => by
    unfold exS
    have hc := (cm_le (T := T) he hL).2
    rw [tc_st A hL he, ← (tc_cm A hL he).2, ← tc_nx (c := 59) A hL hc]
    by_cases k : (stE T' L h e).1 = 0
    · rw [if_pos k, if_pos k]
    · rw [if_neg k, if_neg k]
      by_cases g : nxV T L (cmE T L e) 59 = 0
      · rw [if_pos g, if_pos g]
      · rw [if_neg g, if_neg g]
        have hlt : cmE T L e < L := Nat.lt_of_not_le (fun z => g (nx_a (nI_le z (by omega))))
        exact tc_ex A hL d _ _ _ hlt
end TXC
/-- the law's three texts -/
theorem tq_p : prs (chB 11) 1 3 (cmV (chB 11) 1 0) (cmE (chB 11) 1 0) = (0, 0) := by decide +kernel
theorem tr_p : ¬ (prs (chB 12) 8 10 (cmV (chB 12) 8 0) (cmE (chB 12) 8 0)).1 = 0 := by decide +kernel
theorem th_p : ∀ d : Nat, d < 10 → ¬ (prs (fZ (f2K 13 d) 4) 4 6 (cmV (fZ (f2K 13 d) 4) 4 0) (cmE (fZ (f2K 13 d) 4) 4 0)).1 = 0 := by decide +kernel
theorem tr_k : kf (chB 12) 8 0 = 3 ∧ kf (chB 12) 8 2 = 3 ∧ kf (chB 12) 8 4 = 4 ∧ cmE (chB 12) 8 0 = 1 ∧ cmE (chB 12) 8 2 = 3 ∧ ¬ nxV (chB 12) 8 1 59 = 0 ∧ ¬ nxV (chB 12) 8 3 59 = 0 ∧ (cmN (chB 12) 8 4).getD 0 0 = 9 ∧ (cmN (chB 12) 8 4).getD 1 0 = 1 := by decide +kernel
theorem th_k : ∀ d : Nat, d < 10 → kf (fZ (f2K 13 d) 4) 4 0 = 7 ∧ (cmN (fZ (f2K 13 d) 4) 4 0).getD 0 0 = 0 ∧ (cmN (fZ (f2K 13 d) 4) 4 0).getD 1 0 = nI d := by decide +kernel
theorem tr_x {h : Nat → Int32} {n m : Nat} (W : WF h n m) (h2 : 2 ≤ n) : ∃ h', exS (chB 12) 8 10 0 h 0 = (0, h', 2, 3, nI n) := by
  have hn := W.1.2.1
  obtain ⟨k1, k2, k3, k4, k5, k6, k7, k8, k9⟩ := tr_k
  have ps : ∀ (g : Nat → Int32) (x y z : Int32), tN (g 0) = n → stp g 3 x y z = oks (goR g (tN (g 0)) (tN (g 1))) (gmV g (tN (g 0)) (tN (g 0))) := fun g x y z e => by
    show stPas g (tN (g 0)) (tN (g 1)) = _
    unfold stPas
    rw [if_neg (by omega)]
  have e0 := W.n0
  have W1 := WF.go W
  have e1 := W1.n0
  have W2 := WF.go W1
  have s1 := ps h ((cmN (chB 12) 8 0).getD 0 0) ((cmN (chB 12) 8 0).getD 1 0) ((cmN (chB 12) 8 0).getD 2 0) e0.1
  rw [e0.1, e0.2] at s1
  have s2 := ps (goR h n m) ((cmN (chB 12) 8 2).getD 0 0) ((cmN (chB 12) 8 2).getD 1 0) ((cmN (chB 12) 8 2).getD 2 0) e1.1
  rw [e1.1, e1.2] at s2
  generalize goR (goR h n m) n (gbN h n m).2 = h3 at *
  generalize goR h n m = g1 at *
  have t1 : stE (chB 12) 8 h 0 = oks g1 (gmV h n n) := by unfold stE; rw [k1]; exact s1
  have t2 : stE (chB 12) 8 g1 2 = oks h3 (gmV g1 n n) := by unfold stE; rw [k2]; exact s2
  have t3 : stE (chB 12) 8 h3 4 = rfs h3 3 (nI n) := by
    unfold stE
    rw [k3, k8, k9]
    show stTel h3 9 1 = _
    unfold stTel
    rw [if_pos, W2.1.1]
    unfold oneH
    rw [W2.1.1]
    unfold rngB
    rw [if_neg (by decide), show nI n - 1 = nI (n - 1) from by rw [← nI_pred (n - 1), show n - 1 + 1 = n by omega]]
    exact if_pos (nI_lt (a := n - 1) (b := 9) (by omega) (by decide))
  have o1 : ∀ (g : Nat → Int32) (a : Int32), ¬ (oks g a).1 = 0 := fun _ _ => (by show ¬ (1 : Int32) = 0; decide)
  refine ⟨h3, ?_⟩
  unfold exS
  rw [t1, if_neg (o1 _ _), k4, if_neg k6]
  unfold exS
  rw [show (oks g1 (gmV h n n)).2.1 = g1 from rfl, t2, if_neg (o1 _ _), k5, if_neg k7]
  unfold exS
  rw [show (oks h3 (gmV g1 n n)).2.1 = h3 from rfl, t3, if_pos (show (rfs h3 3 (nI n)).1 = 0 from rfl)]
  rfl
theorem th_x {h : Nat → Int32} {n m d : Nat} (W : WF h n m) (h2 : 2 ≤ n) (hd : d < 10) (e : h 7 = nI d) : exS (fZ (f2K 13 d) 4) 4 6 0 h 0 = (0, h, 0, 5, nI d) := by
  have hn := W.1.2.1
  obtain ⟨k1, k2, k3⟩ := th_k d hd
  have t1 : stE (fZ (f2K 13 d) 4) 4 h 0 = rfs h 5 (nI d) := by
    unfold stE
    rw [k1, k2, k3]
    show stAcc h 0 (nI d) = _
    unfold stAcc
    rw [if_neg (one_0 W.1.1 h2 hn), if_neg (show ¬ rngB (nI d) 0 9 = 0 from rng_le (n := 9) rfl rfl (by omega) (by decide))]
    exact if_pos e
  unfold exS
  rw [t1, if_pos (show (rfs h 5 (nI d)).1 = 0 from rfl)]
  rfl
theorem tr_p2 : ∀ L, L = 8 → ¬ (prs (chB 12) L (L + 2) (cmV (chB 12) L 0) (cmE (chB 12) L 0)).1 = 0 := by rintro _ rfl; exact tr_p
theorem th_p2 {d : Nat} (hd : d < 10) : ∀ L, L = 4 → ¬ (prs (fZ (f2K 13 d) 4) L (L + 2) (cmV (fZ (f2K 13 d) 4) L 0) (cmE (fZ (f2K 13 d) 4) L 0)).1 = 0 := by rintro _ rfl; exact th_p d hd
theorem tr_x2 {h : Nat → Int32} {n m : Nat} (W : WF h n m) (h2 : 2 ≤ n) : ∃ h', ∀ L, L = 8 → exS (chB 12) L (L + 2) 0 h 0 = (0, h', 2, 3, nI n) := by
  obtain ⟨h', e⟩ := tr_x W h2
  exact ⟨h', by rintro _ rfl; exact e⟩
theorem th_x2 {h : Nat → Int32} {n m d : Nat} (W : WF h n m) (h2 : 2 ≤ n) (hd : d < 10) (e : h 7 = nI d) : ∀ L, L = 4 → exS (fZ (f2K 13 d) 4) L (L + 2) 0 h 0 = (0, h, 0, 5, nI d) := by rintro _ rfl; exact th_x W h2 hd e
section TXG
variable {σ μ ν : Mem} {f : Nat → Int32} {n m : Nat}
theorem txK_t (h0 : gL ν = 0) : ∀ k, k ≤ 60 → ∀ j, j < k → txK ν f k 284 j = f j
  | 0, _, _, hj => absurd hj (Nat.not_lt_zero _)
  | k + 1, hk, j, hj => by
    rw [txK_s]
    unfold apeM
    rw [if_neg (by omega), sg_at]
    by_cases c : j = k
    · subst c; rw [if_pos ⟨rfl, rfl⟩]
    · rw [if_neg (fun z => c z.2), sg_n (by decide)]
      unfold thM
      rw [sg_n (by decide)]
      exact txK_t h0 k (by omega) j (by omega)
/-- a text is told, and read -/
theorem tx_a (R : RF μ ν) (hL : μ 276 11 = 0) (L : Nat) (hL6 : L ≤ 60) : gL ν = 0 ∧ gL (txK ν f L) = L ∧ txK ν f L 277 = μ 277 ∧ (∀ j, j < L → txK ν f L 284 j = f j) ∧ ∀ g, RF μ (cmB (txK ν f L) g) := by
  have h0 : gL ν = 0 := by rw [R.2.n.2.2.2]; show tN (μ 276 11) = 0; rw [hL]; decide
  obtain ⟨a, b⟩ := txK_k (μ := ν) (f := f) L
  have e7 : txK ν f L 277 = μ 277 := (a 277 (by decide) (by decide)).trans R.1
  refine ⟨h0, txK_L h0 L hL6, e7, txK_t h0 L hL6, fun g => ⟨(cmB_c (by decide)).trans e7, fun j _ => by rw [cmB_c (by decide), e7], ?_, ?_, ?_, ?_, ?_⟩⟩
  · exact (cmB_j (by decide)).trans ((b 4 (by decide) (by decide)).trans R.2.2.1)
  · exact (cmB_c (by decide)).trans ((a 280 (by decide) (by decide)).trans R.2.2.2.1)
  · exact (cmB_j (by decide)).trans ((b 6 (by decide) (by decide)).trans R.2.2.2.2.1)
  · exact (cmB_c (by decide)).trans ((a 281 (by decide) (by decide)).trans R.2.2.2.2.2.1)
  · rw [hL]; exact cmB_w.1
theorem tx_q (R : RF μ ν) (hL : μ 276 11 = 0) : (cmG (txK ν (chB 11) 1)).1 = -1001 ∧ RF μ (cmG (txK ν (chB 11) 1)).2 ∧ (cmG (txK ν (chB 11) 1)).2 276 15 = 0 := by
  obtain ⟨-, a2, -, a4, a5⟩ := tx_a (f := chB 11) R hL 1 (by decide)
  have e : cmP (txK ν (chB 11) 1) 1 = (0, 0) := by
    unfold cmP
    rw [(tc_cm a4 (by decide) (Nat.zero_le _)).1, (tc_cm a4 (by decide) (Nat.zero_le _)).2, tc_pr a4 (by decide) _ _ _ (cm_le (Nat.zero_le _) (by decide)).2]
    exact tq_p
  unfold cmG
  rw [a2, e]
  rw [if_pos (show ((0, 0) : Int32 × Nat).1 = 0 from rfl)]
  refine ⟨rfl, a5 _, ?_⟩
  show cmB (txK ν (chB 11) 1) (nI 0) 276 15 = 0
  rw [cmB_w.2]; rfl
theorem tx_c {L : Nat} {h' : Nat → Int32} {k : Nat} {d w : Int32} (R : RF μ ν) (hL : μ 276 11 = 0) (hL6 : L ≤ 60) (hp : ¬ (prs f L (L + 2) (cmV f L 0) (cmE f L 0)).1 = 0) (hx : exS f L (L + 2) 0 (μ 277) 0 = (0, h', k, w, d)) (hw : ¬ w = 0) : (cmG (txK ν f L)).1 = -1002 ∧ RF μ (cmG (txK ν f L)).2 ∧ (cmG (txK ν f L)).2 276 15 = -1 ∧ RsK (cmG (txK ν f L)).2 w d (nI k) := by
  obtain ⟨-, a2, a3, a4, a5⟩ := tx_a (f := f) R hL L hL6
  have e : ¬ (cmP (txK ν f L) L).1 = 0 := by
    unfold cmP
    rw [(tc_cm a4 hL6 (Nat.zero_le _)).1, (tc_cm a4 hL6 (Nat.zero_le _)).2, tc_pr a4 hL6 _ _ _ (cm_le (Nat.zero_le _) hL6).2]
    exact hp
  have e2 : cmX (txK ν f L) L = (0, h', k, w, d) := by
    unfold cmX
    rw [tc_ex a4 hL6 _ _ _ _ (Nat.zero_le _), a3]
    exact hx
  unfold cmG
  rw [a2, if_neg e, e2]
  rw [if_pos (show ((0, h', k, w, d) : ExT).1 = 0 from rfl)]
  show (-1002 : Int32) = -1002 ∧ RF μ (gR (cmB (txK ν f L) (-1)) w d (nI k)) ∧ gR (cmB (txK ν f L) (-1)) w d (nI k) 276 15 = -1 ∧ RsK (gR (cmB (txK ν f L) (-1)) w d (nI k)) w d (nI k)
  refine ⟨rfl, ⟨(gR_c (by decide)).trans (a5 (-1)).1, CoE.gR.tr (a5 (-1)).2⟩, ?_, hw, gR_w⟩
  show gR (cmB (txK ν f L) (-1)) w d (nI k) 276 15 = -1
  rw [gR_j (by decide)]; exact cmB_w.2
end TXG

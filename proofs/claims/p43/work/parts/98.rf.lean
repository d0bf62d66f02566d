/-! what is refused, and what is asked out of range -/
def RF (μ ν : Mem) : Prop := ν 277 = μ 277 ∧ CoE ν μ
theorem hA_1 {T V : Int32} (h : T = 1) : hA T V = -1001 := by subst h; unfold hA; rw [if_neg (by decide)]; decide
theorem hA_2 {T V : Int32} (h : T = 2) : hA T V = -1002 := by subst h; unfold hA; rw [if_neg (by decide)]; decide
theorem hA_0 {T V v : Int32} (h : T = 0) (e : V = v) : hA T V = v := by subst h; subst e; rfl
theorem srch_0 {f : Nat → Int32} {x : Int32} : ∀ d k, (∀ q, k ≤ q → q < k + d → ¬ f q = x) → srch f x d k = -1
  | 0, _, _ => rfl
  | d + 1, k, h => by
    unfold srch
    rw [if_neg (h k (Nat.le_refl _) (by omega))]
    exact srch_0 d (k + 1) (fun q h1 h2 => h q (by omega) (by omega))
theorem srch_1 {f : Nat → Int32} {x : Int32} {b : Nat} : ∀ d k, k ≤ b → b < k + d → f b = x → (∀ q, k ≤ q → q < b → ¬ f q = x) → srch f x d k = nI b
  | 0, k, h1, h2, _, _ => by omega
  | d + 1, k, h1, h2, e, h => by
    unfold srch
    by_cases c : k = b
    · subst c; rw [if_pos e]
    · rw [if_neg (h k (Nat.le_refl _) (by omega))]
      exact srch_1 d (k + 1) (by omega) (by omega) e (fun q h3 h4 => h q (by omega) h4)
theorem cnt_b {f : Nat → Int32} : ∀ k, ∃ c, c ≤ k ∧ cntB f k = nI c ∧ ∀ b, b < k → f b = 0 → c < k
  | 0 => ⟨0, by omega, rfl, fun b hb => absurd hb (Nat.not_lt_zero _)⟩
  | k + 1 => by
    obtain ⟨c, hc, e, h⟩ := cnt_b (f := f) k
    rw [cntB_s]
    by_cases q : f k = 0
    · rw [if_pos q]; exact ⟨c, by omega, e, fun _ _ _ => by omega⟩
    · rw [if_neg q, e]
      refine ⟨c + 1, by omega, nI_1 c, fun b hb hz => ?_⟩
      have hbk : b < k := by
        rcases Nat.lt_or_ge b k with z | z
        · exact z
        · exfalso; apply q; rw [show k = b by omega]; exact hz
      have := h b hbk hz
      omega
section RFF
variable {σ μ ν ρ : Mem} {h : Nat → Int32} {i n m : Nat} {x y z r w d : Int32}
theorem RF.a (e : ν 277 = μ 277) (c : CoE ν μ) : RF μ ν := ⟨e, c⟩
theorem rf_ch (R : RF μ ν) (t : stp (μ 277) i x y z = rfs (μ 277) w d) (hw : ¬ w = 0) (h1 : r = (chG ν i x y z).1) (h2 : ρ = (chG ν i x y z).2) : r = -1001 ∧ RF μ ρ ∧ RsK ρ w d 0 := by
  have t2 : stp (ν 277) i x y z = rfs (μ 277) w d := by rw [R.1]; exact t
  obtain ⟨a1, a2⟩ := ch_w (μ := ν) (i := i) (x := x) (y := y) (z := z) (by rw [t2]; rfl)
  rw [h1, h2, a1, a2, t2]
  exact ⟨rfl, ⟨(gR_c (by decide)).trans R.1, CoE.gR.tr R.2⟩, hw, gR_w⟩
/-- refusals, row by row -/
theorem one_k {k : Nat} (e : h 0 = nI n) (hk : k < n) (hn : n ≤ 6) : ¬ oneH h (nI k) = 0 := by unfold oneH; rw [e]; exact rng_in rfl hk (by omega)
theorem one_0 (e : h 0 = nI n) (h2 : 2 ≤ n) (hn : n ≤ 6) : ¬ oneH h 0 = 0 := one_k (k := 0) e (by omega) hn
theorem one_1 (e : h 0 = nI n) (h2 : 2 ≤ n) (hn : n ≤ 6) : ¬ oneH h 1 = 0 := one_k (k := 1) e (by omega) hn
theorem one_n (e : h 0 = nI n) (hn : n ≤ 6) : oneH h (nI n) = 0 := by unfold oneH; rw [e]; exact rng_n (by omega)
theorem one_m : oneH h (-1) = 0 := rng_m
theorem t_p21 : stp h (if (1 : Int32) = 0 then 0 else 1) 21 0 0 = rfs h 1 0 := by
  rw [if_neg (by decide)]
  show stCom h (tN (h 0)) 21 1 = _
  unfold stCom
  exact if_pos (by decide)
theorem t_pm : stp h (if (0 : Int32) = 0 then 0 else 1) (-21) 0 0 = rfs h 1 0 := by
  rw [if_pos rfl]
  show stCom h (tN (h 0)) (-21) 0 = _
  unfold stCom
  exact if_pos (by decide)
theorem t_p0 (e : h 0 = nI n) (h6 : n = 6) : stp h (if (1 : Int32) = 0 then 0 else 1) 0 0 0 = rfs h 2 6 := by
  rw [if_neg (by decide)]
  show stCom h (tN (h 0)) 0 1 = _
  unfold stCom
  rw [if_neg (by decide), if_pos (by rw [e, h6]; exact tN_nI (by decide))]
theorem t_f1 (e : h 0 = nI n) (hn : n ≤ 6) : stp h 2 (nI n) 0 99 = rfs h 3 (nI n) := (if_pos (one_n e hn)).trans (congrArg (rfs h 3) e)
theorem t_f2 (e : h 0 = nI n) (h2 : 2 ≤ n) (hn : n ≤ 6) : stp h 2 0 (-1) 1 = rfs h 3 (nI n) := (if_neg (one_0 e h2 hn)).trans ((if_pos one_m).trans (congrArg (rfs h 3) e))
theorem t_f3 (e : h 0 = nI n) (h2 : 2 ≤ n) (hn : n ≤ 6) : stp h 2 1 1 99 = rfs h 4 1 := (if_neg (one_1 e h2 hn)).trans ((if_neg (one_1 e h2 hn)).trans (if_pos rfl))
theorem t_f4 (e : h 0 = nI n) (h2 : 2 ≤ n) (hn : n ≤ 6) : stp h 2 0 1 10 = rfs h 1 0 := (if_neg (one_0 e h2 hn)).trans ((if_neg (one_1 e h2 hn)).trans ((if_neg (by decide)).trans (if_pos (by decide))))
theorem t_f5 (e : h 0 = nI n) (h2 : 2 ≤ n) (hn : n ≤ 6) : stp h 2 0 1 (-1) = rfs h 1 0 := (if_neg (one_0 e h2 hn)).trans ((if_neg (one_1 e h2 hn)).trans ((if_neg (by decide)).trans (if_pos (by decide))))
theorem t_t1 (e : h 0 = nI n) (hn : n ≤ 6) : stp h 4 (nI n) 0 0 = rfs h 3 (nI n) := (if_pos (one_n e hn)).trans (congrArg (rfs h 3) e)
theorem t_t2 (e : h 0 = nI n) (h2 : 2 ≤ n) (hn : n ≤ 6) : stp h 4 0 0 0 = rfs h 1 0 := (if_neg (one_0 e h2 hn)).trans (if_pos (by decide))
theorem t_t3 (e : h 0 = nI n) (h2 : 2 ≤ n) (hn : n ≤ 6) : stp h 4 0 10 0 = rfs h 1 0 := (if_neg (one_0 e h2 hn)).trans (if_pos (by decide))
theorem t_b1 (e : h 0 = nI n) (hn : n ≤ 6) : stp h 5 (nI n) 0 99 = rfs h 3 (nI n) := (if_pos (one_n e hn)).trans (congrArg (rfs h 3) e)
theorem t_b2 (e : h 0 = nI n) (h2 : 2 ≤ n) (hn : n ≤ 6) : stp h 5 0 (nI n) 0 = rfs h 3 (nI n) := (if_neg (one_0 e h2 hn)).trans ((if_pos (one_n e hn)).trans (congrArg (rfs h 3) e))
theorem t_b3 (e : h 0 = nI n) (h2 : 2 ≤ n) (hn : n ≤ 6) : stp h 5 1 1 99 = rfs h 4 1 := (if_neg (one_1 e h2 hn)).trans ((if_neg (one_1 e h2 hn)).trans (if_pos rfl))
theorem t_b4 (e : h 0 = nI n) (h2 : 2 ≤ n) (hn : n ≤ 6) : stp h 5 0 1 41 = rfs h 1 0 := (if_neg (one_0 e h2 hn)).trans ((if_neg (one_1 e h2 hn)).trans ((if_neg (by decide)).trans (if_pos (by decide))))
theorem t_b5 (e : h 0 = nI n) (h2 : 2 ≤ n) (hn : n ≤ 6) : stp h 5 0 1 (-1) = rfs h 1 0 := (if_neg (one_0 e h2 hn)).trans ((if_neg (one_1 e h2 hn)).trans ((if_neg (by decide)).trans (if_pos (by decide))))
theorem t_r1 (e : h 1 = nI m) (hm : m ≤ 6) : stp h 6 (nI m) 0 0 = rfs h 8 (nI m) := (if_pos (by rw [e]; exact rng_n (by omega))).trans (congrArg (rfs h 8) e)
theorem t_r2 (e : h 1 = nI m) : stp h 6 (-1) 0 0 = rfs h 8 (nI m) := by
  show stTak h (tN (h 1)) (-1) = _
  unfold stTak
  rw [if_pos rng_m, e]
theorem t_h1 (e : h 0 = nI n) (hn : n ≤ 6) : stp h 7 (nI n) 99 0 = rfs h 3 (nI n) := (if_pos (one_n e hn)).trans (congrArg (rfs h 3) e)
theorem t_h2 (e : h 0 = nI n) (h2 : 2 ≤ n) (hn : n ≤ 6) : stp h 7 0 10 0 = rfs h 1 0 := (if_neg (one_0 e h2 hn)).trans (if_pos (by decide))
theorem t_h3 (e : h 0 = nI n) (h2 : 2 ≤ n) (hn : n ≤ 6) : stp h 7 0 (-1) 0 = rfs h 1 0 := (if_neg (one_0 e h2 hn)).trans (if_pos (by decide))
theorem okN_rg {v : Int32} (o : okN v) : ¬ rngB v 0 9 = 0 := by
  obtain ⟨k, hk, rfl⟩ := o
  exact rng_le (n := 9) rfl rfl (by omega) (by decide)
theorem t_hp {k : Nat} (W : WF h n m) (hk : k < n) : stp h 7 (nI k) (h (6 + 5 * k + 1)) 0 = rfs h 5 (h (6 + 5 * k + 1)) := by
  have hn := W.1.2.1
  refine (if_neg (one_k W.1.1 hk hn)).trans ((if_neg (okN_rg (W.1.2.2.2.2.1 k (by omega)))).trans (if_pos ?_))
  rw [tN_nI (by omega)]
theorem t_t6 {k : Nat} (W : WF h n m) (hk : k < n) (z : h (6 + 5 * k + 0) = 0) : stp h 4 (nI k) 9 0 = rfs h 6 (h (6 + 5 * k + 1)) := by
  have hn := W.1.2.1
  refine (if_neg (one_k W.1.1 hk hn)).trans ((if_neg (by decide)).trans ((if_pos ?_).trans ?_))
  · rw [tN_nI (by omega)]; exact z
  · rw [tN_nI (by omega)]
theorem t_t7 {k : Nat} (W : WF h n m) (hk : k < n) (z : ¬ h (6 + 5 * k + 0) = 0) (g : ¬ h (6 + 5 * k + 1) ≤ 2) : stp h 4 (nI k) 1 0 = rfs h 7 1 := by
  have hn := W.1.2.1
  refine (if_neg (one_k W.1.1 hk hn)).trans ((if_neg (by decide)).trans ((if_neg ?_).trans (if_pos ?_)))
  · rw [tN_nI (by omega)]; exact z
  · rw [tN_nI (by omega)]
    obtain ⟨a, ha, ea⟩ := W.1.2.2.2.2.1 k (by omega)
    have key : ∀ a : Nat, a ≤ 9 → ¬ nI a ≤ 2 → mxI 0 (1 - nI a / 3) = 0 := by decide +kernel
    unfold frR
    rw [ea] at g ⊢
    exact key a ha g
theorem t_fq {k q : Nat} (W : WF h n m) (hk : k < n) (hq : q < n) (hne : ¬ nI q = nI k) : stp h 2 (nI k) (nI q) (h (36 + 6 * k + q)) = rfs h 5 (h (36 + 6 * k + q)) := by
  have hn := W.1.2.1
  refine (if_neg (one_k W.1.1 hk hn)).trans ((if_neg (one_k W.1.1 hq hn)).trans ((if_neg (fun z => hne z.symm)).trans ((if_neg (okN_rg (W.1.2.2.2.2.2.1 k q (by omega) (by omega)))).trans (if_pos ?_))))
  rw [tN_nI (by omega), tN_nI (by omega)]
theorem t_bb {b : Nat} (W : WF h n m) (hb : b < m) : stp h 5 (h (72 + 4 * b + 1)) (h (72 + 4 * b + 0)) 3 = rfs h 9 (nI b) := by
  have hn := W.1.2.1
  have hm := W.1.2.2.2.1
  have W8 := W.2.2.2.2.2.2.2.1
  obtain ⟨⟨b1, b2⟩, -, -, b5⟩ := W8 b hb
  have ob := W.1.2.2.2.2.2.2 b hb
  have e0 : h (72 + 4 * b + 0) = nI (tN (h (72 + 4 * b + 0))) := ob.1.1
  have e1 : h (72 + 4 * b + 1) = nI (tN (h (72 + 4 * b + 1))) := ob.2.1
  generalize tN (h (72 + 4 * b + 0)) = lo at *
  generalize tN (h (72 + 4 * b + 1)) = hi at *
  have em : tN (h 1) = m := by rw [W.1.2.2.1]; exact tN_nI (by omega)
  have f9 : fnR h m (nI hi) (nI lo) = nI b := by
    unfold fnR
    rw [(mnx_n (a := hi) (b := lo) (by omega)).1, (mnx_n (a := hi) (b := lo) (by omega)).2, show min hi lo = lo by omega, show max hi lo = hi by omega]
    refine srch_1 m 0 (Nat.zero_le _) (by omega) ?_ (fun q _ hq => ?_)
    · unfold fbR; rw [if_pos e0, if_pos e1]
    · have := b5 q hq
      rw [e0, e1] at this
      unfold fbR
      by_cases c0 : h (72 + 4 * q + 0) = nI lo
      · by_cases c1 : h (72 + 4 * q + 1) = nI hi
        · exact absurd ⟨c0, c1⟩ this
        · rw [if_pos c0, if_neg c1]; decide
      · rw [if_neg c0]; decide
  rw [e0, e1]
  refine (if_neg (one_k W.1.1 b2 hn)).trans ((if_neg (one_k W.1.1 (by omega) hn)).trans ((if_neg (fun z => by have := (nI_eq (by omega) (by omega)).mp z; omega)).trans ((if_neg (by decide)).trans ((if_pos ?_).trans ?_))))
  · rw [em, f9]; exact nI_pos' (by omega)
  · rw [em, f9]
/-- asked out of range -/
theorem o1 (R : RF μ ν) : one1 ν x = oneH (μ 277) x := by unfold one1 oneH; rw [R.1]
theorem q_n (R : RF μ ν) (e : μ 277 0 = nI n) (hn : n ≤ 6) : one1 ν (nI n) = 0 := (o1 R).trans (one_n e hn)
theorem q_m (R : RF μ ν) : one1 ν (-1) = 0 := (o1 R).trans one_m
theorem q_0 (R : RF μ ν) (e : μ 277 0 = nI n) (h2 : 2 ≤ n) (hn : n ≤ 6) : ¬ one1 ν 0 = 0 := fun z => one_0 e h2 hn ((o1 R).symm.trans z)
theorem q_k {k : Nat} (R : RF μ ν) (e : μ 277 0 = nI n) (hk : k < n) (hn : n ≤ 6) : ¬ one1 ν (nI k) = 0 := fun z => one_k e hk hn ((o1 R).symm.trans z)
theorem b_n (R : RF μ ν) (e : μ 277 1 = nI m) (hm : m ≤ 6) : mn1 ν (nI m) = 0 := by unfold mn1; rw [R.1, e]; exact rng_n (by omega)
theorem b_k {k : Nat} (R : RF μ ν) (e : μ 277 1 = nI m) (hk : k < m) (hm : m ≤ 6) : ¬ mn1 ν (nI k) = 0 := by unfold mn1; rw [R.1, e]; exact rng_in rfl hk (by omega)
theorem of_8 (z : ¬ one1 ν 0 = 0) : pofT ν 0 8 = 2 := by unfold pofT; rw [if_neg z]; decide
theorem of_m (z : ¬ one1 ν 0 = 0) : pofT ν 0 (-1) = 2 := by unfold pofT; rw [if_neg z]; decide
/-- a person's habit, and tilt -/
theorem of_1 {k : Nat} (R : RF μ ν) (W : WF (μ 277) n m) (hk : k < n) : hA (pofT ν (nI k) 1) (pofV ν (gn ν) (nI k) 1) = μ 277 (6 + 5 * k + 1) := by
  have hn := W.1.2.1
  have z := q_k R W.1.1 hk hn
  refine hA_0 ?_ ?_
  · unfold pofT; rw [if_neg z]; decide
  · unfold pofV; rw [if_neg z, if_neg (by decide), if_pos rfl, R.1, tN_nI (by omega)]
theorem of_0 {k : Nat} (R : RF μ ν) (W : WF (μ 277) n m) (hk : k < n) : hA (pofT ν (nI k) 0) (pofV ν (gn ν) (nI k) 0) = μ 277 (6 + 5 * k + 0) := by
  have hn := W.1.2.1
  have z := q_k R W.1.1 hk hn
  refine hA_0 ?_ ?_
  · unfold pofT; rw [if_neg z]; decide
  · unfold pofV; rw [if_neg z, if_pos rfl, R.1, tN_nI (by omega)]
theorem wg_q {k q : Nat} (R : RF μ ν) (W : WF (μ 277) n m) (hk : k < n) (hq : q < n) : hA (wgT ν (nI k) (nI q)) (wgV ν (nI k) (nI q)) = μ 277 (36 + 6 * k + q) := by
  have hn := W.1.2.1
  have z := q_k R W.1.1 hk hn
  have z2 := q_k R W.1.1 hq hn
  refine hA_0 ?_ ?_
  · unfold wgT; rw [if_neg z, if_neg z2]
  · unfold wgV; rw [if_neg z, if_neg z2, R.1, tN_nI (by omega), tN_nI (by omega)]
theorem bo_k {b j : Nat} (R : RF μ ν) (W : WF (μ 277) n m) (hb : b < m) (hj : j < 4) : hA (bofT ν (nI b) (nI j)) (bofV ν (nI b) (nI j)) = μ 277 (72 + 4 * b + j) := by
  have hm := W.1.2.2.2.1
  have z := b_k R W.1.2.2.1 hb hm
  have z2 : ¬ rngB (nI j) 0 4 = 0 := rng_le (n := 4) rfl rfl (by omega) (by decide)
  refine hA_0 ?_ ?_
  · unfold bofT; rw [if_neg z, if_neg z2]
  · unfold bofV
    rw [if_neg z, if_neg z2, if_neg (fun z => by have := (nI_eq (a := j) (b := 4) (by omega) (by decide)).mp z; omega), R.1, tN_nI (by omega), tN_nI (by omega)]
theorem ran_n {w : Int32} (hn : n ≤ 6) : rkS h n w (nI n) < 0 := by
  have e : rkS h n w (nI n) = -1 := by
    unfold rkS
    refine srch_0 n 0 (fun q _ hq => ?_)
    obtain ⟨c, h1, h2, h3⟩ := cnt_b (f := fun q' => rkI (meR h n q' w - meR h n q w) q' q) n
    have := h3 q (by omega) (by
      show rkI (meR h n q w - meR h n q w) q q = 0
      rw [Int32.sub_self]
      unfold rkI
      rw [if_neg (by decide), if_pos rfl, if_pos (nI_le (Nat.le_refl _) (by omega))])
    unfold rkC
    rw [h2]
    intro z
    have := (nI_eq (by omega) (by omega)).mp z
    omega
  rw [e]; decide
theorem wea_n (hm : m ≤ 6) : wkS h m (nI m) < 0 := by
  have e : wkS h m (nI m) = -1 := by
    unfold wkS
    refine srch_0 m 0 (fun q _ hq => ?_)
    obtain ⟨c, h1, h2, h3⟩ := cnt_b (f := wkT h q) m
    have := h3 q (by omega) (if_pos rfl)
    rw [h2]
    intro z
    have := (nI_eq (by omega) (by omega)).mp z
    omega
  rw [e]; decide
theorem chr_20 (C : CRel σ ν) : chrT ν 120 = 1 := by
  obtain ⟨-, -, -, -, -, ⟨L, h1, -, h3, -⟩, -⟩ := C
  unfold chrT
  rw [h3, if_pos]
  unfold rngB
  rw [if_neg (by decide)]
  cases L with
  | zero => rfl
  | succ k =>
    rw [nI_pred]
    exact if_pos (nI_lt (a := k) (b := 120) (by omega) (by decide))
end RFF

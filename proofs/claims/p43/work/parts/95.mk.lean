/-! what the law makes, change by change -/
def MkI (ν : Mem) (n m : Nat) : Prop := gn ν = n ∧ gm ν ≤ m ∧ gL ν = 0
theorem smX {x : Int32} {N : Nat} (h0 : 0 < N) (h1 : N ≤ 1000) : ∃ q, smV x (nI N) = nI q ∧ q < N := ⟨_, smN h0 h1⟩
theorem md_n {p t n : Nat} (hp : p < n) (ht : t < n - 1) : (p + 1 + t) % n < n ∧ (p + 1 + t) % n ≠ p := by
  refine ⟨Nat.mod_lt _ (by omega), ?_⟩
  rcases Nat.lt_or_ge (p + 1 + t) n with q | q
  · rw [Nat.mod_eq_of_lt q]; omega
  · rw [Nat.mod_eq_sub_mod q, Nat.mod_eq_of_lt (by omega)]; omega
theorem rea_gR {μ : Mem} {w d x : Int32} (h : ¬ w = 0) : hA (reaT (gR μ w d x) 0) (reaV (gR μ w d x) 0) = w := (RsK.e ⟨h, gR_w⟩).1
section MKK
variable {σ ν : Mem} {n m p q k : Nat} {i : Nat} {x y : Int32}
theorem mk_gR {w d x : Int32} (I : MkI ν n m) : MkI (gR ν w d x) n m := by
  have e := (CoE.gR (μ := ν) (w := w) (d := d) (x := x)).n
  exact ⟨e.1.trans I.1, by rw [e.2.1]; exact I.2.1, e.2.2.2.trans I.2.2⟩
theorem mk_gK {h : Nat → Int32} {n' m' : Nat} (I : MkI ν n m) (h0 : tN (h 0) = n') (h1 : tN (h 1) ≤ m') : MkI (gK ν h) n' m' := by
  refine ⟨?_, ?_, ?_⟩
  · show tN (gK ν h 277 0) = n'
    rw [gK_77]; exact h0
  · show tN (gK ν h 277 1) ≤ m'
    rw [gK_77]; exact h1
  · show tN (gK ν h 276 11) = 0
    rw [gK_j (by decide)]; exact I.2.2
theorem mk_com {b : Int32} (C : CRel σ ν) (I : MkI ν n m) (hn : n < 6) (hj : k < 41) (e : stp (ν 277) i (nI k - 20) 0 0 = stCom (ν 277) (tN (ν 277 0)) (nI k - 20) b) : (chG ν i (nI k - 20) 0 0).1 = nI n ∧ MkI (chG ν i (nI k - 20) 0 0).2 (n + 1) m := by
  have hn0 : tN (ν 277 0) = n := I.1
  have e1 : stp (ν 277) i (nI k - 20) 0 0 = oks (upd (upd (comR (ν 277) n 5) (6 + 5 * n + 0) (nI k - 20)) (6 + 5 * n + 2) b) (nI n) := by
    rw [e]
    unfold stCom
    rw [hn0, if_neg (rng_20 k hj), if_neg (by omega)]
  have q : ¬ (stp (ν 277) i (nI k - 20) 0 0).1 = 0 := by rw [e1]; show ¬ (1 : Int32) = 0; decide
  obtain ⟨a1, a2, -⟩ := ch_u C.gw q
  rw [a1, a2, e1]
  refine ⟨rfl, mk_gK I ?_ ?_⟩
  · show tN (upd (upd (comR (ν 277) n 5) (6 + 5 * n + 0) (nI k - 20)) (6 + 5 * n + 2) b 0) = n + 1
    rw [hd_com.1, tN_nI (by omega)]
  · show tN (upd (upd (comR (ν 277) n 5) (6 + 5 * n + 0) (nI k - 20)) (6 + 5 * n + 2) b 1) ≤ m
    rw [hd_com.2]; exact I.2.1
theorem mk_per {r : Int32} {ρ : Mem} (C : CRel σ ν) (I : MkI ν n m) (hn : n < 6) (hj : k < 41) (h1 : r = (chG ν (if y = 0 then 0 else 1) (nI k - 20) 0 0).1) (h2 : ρ = (chG ν (if y = 0 then 0 else 1) (nI k - 20) 0 0).2) : r = nI n ∧ MkI ρ (n + 1) m := by
  rw [h1, h2]
  by_cases c : y = 0
  · rw [if_pos c]; exact mk_com (b := 0) C I hn hj rfl
  · rw [if_neg c]; exact mk_com (b := 1) C I hn hj rfl
theorem mk_hd (I : MkI ν n m) (C : CRel σ ν) : ν 277 0 = nI n ∧ n ≤ 6 ∧ ∀ p, p < n → ¬ oneH (ν 277) (nI p) = 0 := by
  have W := C.gw
  have h6 := W.1.2.1
  have e : ν 277 0 = nI n := by rw [W.1.1, I.1]
  have h6' : n ≤ 6 := by have := I.1; omega
  exact ⟨e, h6', fun p hp => by unfold oneH; rw [e]; exact rng_in rfl hp (by omega)⟩
theorem mk_fri {r : Int32} {ρ : Mem} (C : CRel σ ν) (I : MkI ν n m) (hp : p < n) (hq : q < n) (hpq : q ≠ p) (hk : k < 10) (h1 : r = (chG ν 2 (nI p) (nI q) (nI k)).1) (h2 : ρ = (chG ν 2 (nI p) (nI q) (nI k)).2) : MkI ρ n m ∧ (r = -1001 → hA (reaT ρ 0) (reaV ρ 0) = 5) := by
  obtain ⟨e0, h6, ho⟩ := mk_hd I C
  have hne : ¬ nI p = nI q := fun z => hpq ((nI_eq (by omega) (by omega)).mp z).symm
  have hz : ¬ rngB (nI k) 0 9 = 0 := rng_le (n := 9) rfl rfl (by omega) (by decide)
  have e1 : stp (ν 277) 2 (nI p) (nI q) (nI k) = stBef (ν 277) (nI p) (nI q) (nI k) := rfl
  unfold stBef at e1
  rw [if_neg (ho p hp), if_neg (ho q hq), if_neg hne, if_neg hz] at e1
  by_cases c : ν 277 (36 + 6 * tN (nI p) + tN (nI q)) = nI k
  · rw [if_pos c] at e1
    obtain ⟨a1, a2⟩ := ch_w (μ := ν) (i := 2) (x := nI p) (y := nI q) (z := nI k) (by rw [e1]; rfl)
    rw [h2, a2, e1]
    exact ⟨mk_gR I, fun _ => rea_gR (by show ¬ (5 : Int32) = 0; decide)⟩
  · rw [if_neg c] at e1
    obtain ⟨a1, a2, a3⟩ := ch_u (i := 2) (x := nI p) (y := nI q) (z := nI k) C.gw (by rw [e1]; show ¬ (1 : Int32) = 0; decide)
    refine ⟨?_, fun z => absurd (h1.symm.trans z) a3⟩
    rw [h2, a2, e1]
    refine mk_gK I ?_ ?_
    · exact (congrArg tN ((pk_un (by omega)).trans (pk_un (by omega)))).trans I.1
    · exact Nat.le_trans (Nat.le_of_eq (congrArg tN ((pk_un (by omega)).trans (pk_un (by omega))))) I.2.1
theorem mk_bea {r : Int32} {ρ : Mem} (C : CRel σ ν) (I : MkI ν n m) (hm : m < 6) (hp : p < n) (hq : q < n) (hpq : q ≠ p) (hk : k < 41) (h1 : r = (chG ν 5 (nI p) (nI q) (nI k)).1) (h2 : ρ = (chG ν 5 (nI p) (nI q) (nI k)).2) : MkI ρ n (m + 1) ∧ (r = -1001 → hA (reaT ρ 0) (reaV ρ 0) = 9) := by
  obtain ⟨e0, h6, ho⟩ := mk_hd I C
  have hne : ¬ nI p = nI q := fun z => hpq ((nI_eq (by omega) (by omega)).mp z).symm
  have hz : ¬ rngB (nI k) 0 40 = 0 := rng_le (n := 40) rfl rfl (by omega) (by decide)
  have hm0 : tN (ν 277 1) ≤ m := I.2.1
  have e1 : stp (ν 277) 5 (nI p) (nI q) (nI k) = stPut (ν 277) (tN (ν 277 1)) (nI p) (nI q) (nI k) := rfl
  unfold stPut at e1
  rw [if_neg (ho p hp), if_neg (ho q hq), if_neg hne, if_neg hz] at e1
  by_cases c : 0 ≤ fnR (ν 277) (tN (ν 277 1)) (nI p) (nI q)
  · rw [if_pos c] at e1
    obtain ⟨a1, a2⟩ := ch_w (μ := ν) (i := 5) (x := nI p) (y := nI q) (z := nI k) (by rw [e1]; rfl)
    rw [h2, a2, e1]
    have I2 := mk_gR (w := 9) (d := fnR (ν 277) (tN (ν 277 1)) (nI p) (nI q)) (x := 0) I
    exact ⟨⟨I2.1, Nat.le_succ_of_le I2.2.1, I2.2.2⟩, fun _ => rea_gR (by show ¬ (9 : Int32) = 0; decide)⟩
  · rw [if_neg c, if_neg (show ¬ tN (ν 277 1) = 6 by omega)] at e1
    obtain ⟨a1, a2, a3⟩ := ch_u (i := 5) (x := nI p) (y := nI q) (z := nI k) C.gw (by rw [e1]; show ¬ (1 : Int32) = 0; decide)
    refine ⟨?_, fun z => absurd (h1.symm.trans z) a3⟩
    rw [h2, a2, e1]
    generalize tN (ν 277 1) = mb at *
    refine mk_gK I ?_ ?_
    · show tN (ptR (ν 277) mb (nI p) (nI q) (nI k) 0) = n
      unfold ptR
      rw [pk_un (by omega), pk_un (by omega), pk_un (by omega), pk_un (by omega), pk_un (by decide)]
      exact I.1
    · show tN (ptR (ν 277) mb (nI p) (nI q) (nI k) 1) ≤ m + 1
      unfold ptR
      rw [pk_un (by omega), pk_un (by omega), pk_un (by omega), pk_un (by omega), pk_us, tN_nI (by omega)]
      omega
theorem mk_hab {r : Int32} {ρ : Mem} (C : CRel σ ν) (I : MkI ν n m) (hp : p < n) (hk : k < 10) (h1 : r = (chG ν 7 (nI p) (nI k) 0).1) (h2 : ρ = (chG ν 7 (nI p) (nI k) 0).2) : MkI ρ n m ∧ (r = -1001 → hA (reaT ρ 0) (reaV ρ 0) = 5) := by
  obtain ⟨e0, h6, ho⟩ := mk_hd I C
  have hz : ¬ rngB (nI k) 0 9 = 0 := rng_le (n := 9) rfl rfl (by omega) (by decide)
  have e1 : stp (ν 277) 7 (nI p) (nI k) 0 = stAcc (ν 277) (nI p) (nI k) := rfl
  unfold stAcc at e1
  rw [if_neg (ho p hp), if_neg hz] at e1
  by_cases c : ν 277 (6 + 5 * tN (nI p) + 1) = nI k
  · rw [if_pos c] at e1
    obtain ⟨a1, a2⟩ := ch_w (μ := ν) (i := 7) (x := nI p) (y := nI k) (z := 0) (by rw [e1]; rfl)
    rw [h2, a2, e1]
    exact ⟨mk_gR I, fun _ => rea_gR (by show ¬ (5 : Int32) = 0; decide)⟩
  · rw [if_neg c] at e1
    obtain ⟨a1, a2, a3⟩ := ch_u (i := 7) (x := nI p) (y := nI k) (z := 0) C.gw (by rw [e1]; show ¬ (1 : Int32) = 0; decide)
    refine ⟨?_, fun z => absurd (h1.symm.trans z) a3⟩
    rw [h2, a2, e1]
    refine mk_gK I ?_ ?_
    · exact (congrArg tN (pk_un (by omega))).trans I.1
    · exact Nat.le_trans (Nat.le_of_eq (congrArg tN (pk_un (by omega)))) I.2.1
theorem mk_rnd {r : Int32} {ρ : Mem} (C : CRel σ ν) (I : MkI ν n m) (hn : 2 ≤ n) (h1 : r = (chG ν 3 0 0 0).1) (h2 : ρ = (chG ν 3 0 0 0).2) : ¬ r < 0 ∧ 2 ≤ gn ρ ∧ gL ρ = 0 := by
  obtain ⟨e0, h6, ho⟩ := mk_hd I C
  have hn0 : tN (ν 277 0) = n := I.1
  have e1 : stp (ν 277) 3 0 0 0 = stPas (ν 277) (tN (ν 277 0)) (tN (ν 277 1)) := rfl
  unfold stPas at e1
  rw [if_neg (by omega)] at e1
  obtain ⟨a1, a2, a3⟩ := ch_u (i := 3) (x := 0) (y := 0) (z := 0) C.gw (by rw [e1]; show ¬ (1 : Int32) = 0; decide)
  rw [h1, h2, a1, a2, e1]
  refine ⟨?_, ?_, ?_⟩
  · obtain ⟨c, hc, e⟩ := gmV_n (h := ν 277) (n := tN (ν 277 0)) (tN (ν 277 0))
    show ¬ gmV (ν 277) (tN (ν 277 0)) (tN (ν 277 0)) < 0
    rw [e]; exact nI_pos (by omega)
  · show 2 ≤ tN (gK ν (goR (ν 277) (tN (ν 277 0)) (tN (ν 277 1))) 277 0)
    rw [gK_77, goR_0 C.gw.1, hn0]; exact hn
  · show tN (gK ν _ 276 11) = 0
    rw [gK_j (by decide)]; exact I.2.2
end MKK

/-! the reference's own functions, on its row h of numbers (σ 277) and on the memory -/
def refR (σ : Mem) (x y : Int32) : Mem := sg (sg (sg σ 276 16 x) 276 17 y) 276 18 0
def triM (σ : Mem) : Mem := sb (sg σ 276 20 0) 278 (fil (σ 277) (σ 278) 96)
theorem triM_c {σ : Mem} {c : Nat} (h1 : c ≠ 278) (h2 : c ≠ 276) : triM σ c = σ c := by
  unfold triM; rw [sb_n h1, sg_n h2]
theorem triM_276 {σ : Mem} {j : Nat} (h : j ≠ 20) : triM σ 276 j = σ 276 j := by
  unfold triM; rw [sb_n (by decide), sg_at, if_neg (fun z => h z.2)]
/-- k places of t, laid from place o on -/
def putR (r t : Nat → Int32) (o k : Nat) : Nat → Int32 := fun p => if o ≤ p ∧ p < o + k then t (p - o) else r p
theorem putR_0 {r t : Nat → Int32} {o : Nat} : putR r t o 0 = r := by
  funext p; unfold putR; rw [if_neg (by omega)]
theorem putR_s {r t : Nat → Int32} {o k : Nat} : upd (putR r t o k) (o + k) (t k) = putR r t o (k + 1) := by
  funext p
  unfold upd putR
  by_cases h : p = o + k
  · subst h; rw [if_pos rfl, if_pos (by omega), show o + k - o = k by omega]
  · rw [if_neg h]
    by_cases g : o ≤ p ∧ p < o + k
    · rw [if_pos g, if_pos (by omega)]
    · rw [if_neg g, if_neg (by omega)]
def kp0 (σ : Mem) (u : Nat) : Mem := if u = 8 then sg (sb σ 280 (fil (fun q => σ 280 (96 + q)) (σ 280) 672)) 276 4 (nI 7) else σ
def kpU (u : Nat) : Nat := if u = 8 then 7 else u
def keepM (σ : Mem) (u : Nat) : Mem := sg (sb (kp0 σ u) 280 (putR (kp0 σ u 280) (σ 278) (96 * kpU u) 96)) 276 4 (nI (kpU u + 1))
theorem kp0_c {σ : Mem} {u c : Nat} (h1 : c ≠ 280) (h2 : c ≠ 276) : kp0 σ u c = σ c := by
  unfold kp0; split
  · rw [sg_n h2, sb_n h1]
  · rfl
theorem kp0_u {σ : Mem} {u : Nat} (h : σ 276 4 = nI u) : kp0 σ u 276 4 = nI (kpU u) := by
  unfold kp0 kpU; split
  · rw [sg_ss]
  · exact h
theorem kpU_le {u : Nat} (h : u ≤ 8) : kpU u ≤ 7 := by
  unfold kpU; split <;> omega
def endV (b : Int32) (σ : Mem) : Int32 := if b = 0 then 0 else σ 276 19
def endM (b : Int32) (σ : Mem) (u : Nat) : Mem := if b = 0 then sg σ 276 20 1 else keepM σ u
def one1 (σ : Mem) (x : Int32) : Int32 := rngB x 0 (σ 277 0 - 1)
def tcB (σ : Mem) (x : Int32) : Int32 := if one1 σ x = 0 then 0 else 1
def tcM (σ : Mem) (x : Int32) : Mem := if one1 σ x = 0 then refR σ 3 (σ 277 0) else σ
theorem rngN {x y : Int32} {n : Nat} (h : ¬ rngB x 0 (y - 1) = 0) (hy : y = nI n) (hn : n ≤ 1000) : x = nI (tN x) ∧ tN x < n := by
  unfold rngB at h
  by_cases h1 : x < 0
  · rw [if_pos h1] at h; exact absurd rfl h
  · rw [if_neg h1] at h
    have h2 : ¬ y - 1 < x := fun h2 => by rw [if_pos h2] at h; exact absurd rfl h
    have h3 : 0 ≤ x := Int32.not_lt.mp h1
    have e := nI_tn h3
    refine ⟨e, ?_⟩
    unfold tN at e ⊢
    have h6 : x.toNatClampNeg < 2 ^ 31 := by
      have := Int32.toInt_lt x
      show x.toInt.toNat < _
      omega
    rw [hy, e] at h2
    have h4 := Int32.le_iff_toInt_le.mp (Int32.not_lt.mp h2)
    rw [nI_toInt h6] at h4
    rcases Nat.eq_zero_or_pos n with g | g
    · subst g
      exfalso
      have : (nI 0 - 1 : Int32).toInt = -1 := by decide
      omega
    · rw [show (1 : Int32) = nI 1 from rfl, pk_sub (by omega), nI_toInt (by omega)] at h4
      omega
theorem tcB_N {σ : Mem} {x : Int32} {n : Nat} (h : ¬ tcB σ x = 0) (hn : σ 277 0 = nI n) (hn6 : n ≤ 6) : x = nI (tN x) ∧ tN x < n := by
  unfold tcB at h
  by_cases g : one1 σ x = 0
  · rw [if_pos g] at h; exact absurd rfl h
  · exact rngN g hn (by omega)
/-- what a beam of the row must be -/
def okB (h : Nat → Int32) (b : Nat) : Prop := (h (72 + 4 * b + 0) = nI (tN (h (72 + 4 * b + 0))) ∧ tN (h (72 + 4 * b + 0)) < 6) ∧ (h (72 + 4 * b + 1) = nI (tN (h (72 + 4 * b + 1))) ∧ tN (h (72 + 4 * b + 1)) < 6)
def apR (h : Nat → Int32) (b : Nat) : Int32 := abI (h (6 + 5 * tN (h (72 + 4 * b + 0)) + 0) - h (6 + 5 * tN (h (72 + 4 * b + 1)) + 0))
def wtR (h : Nat → Int32) (n p : Nat) : Int32 := sumR (fun q => h (36 + 6 * p + q)) 0 n
def msR (h : Nat → Int32) (p k : Nat) : Int32 := fo (fun q a => a + h (6 + 5 * q + 0) * h (36 + 6 * p + q)) (h (6 + 5 * p + 0) * (h (6 + 5 * p + 1) + 1)) k
def mnR (h : Nat → Int32) (n p : Nat) : Int32 := msR h p n / (h (6 + 5 * p + 1) + 1 + wtR h n p)
def stR (h : Nat → Int32) (p : Nat) : Int32 := if h (6 + 5 * p + 2) = 1 then (10 - h (6 + 5 * p + 1)) / 2 else 10 - h (6 + 5 * p + 1)
def mvR (h : Nat → Int32) (n p : Nat) : Int32 := mxI (-stR h p) (mnI (stR h p) (mnR h n p - h (6 + 5 * p + 0)))
def comR (h : Nat → Int32) (n k : Nat) : Nat → Int32 := putR (upd h 0 (nI (n + 1))) (fun _ => 0) (6 + 5 * n) k
def comB (n : Nat) (x : Int32) : Int32 := if rngB x (-20) 20 = 0 then 0 else if n = 6 then 0 else 1
def comM (σ : Mem) (n : Nat) (x b : Int32) : Mem := if rngB x (-20) 20 = 0 then refR σ 1 0 else if n = 6 then refR σ 2 6 else sg (sg (sg (sb σ 277 (comR (σ 277) n 5)) 277 (6 + 5 * n + 0) x) 277 (6 + 5 * n + 2) b) 276 19 (nI n)
def befB (σ : Mem) (x y w : Int32) : Int32 := if tcB σ x = 0 then 0 else if tcB σ y = 0 then 0 else if x = y then 0 else if rngB w 0 9 = 0 then 0 else if σ 277 (36 + 6 * tN x + tN y) = w then 0 else 1
def befM (σ : Mem) (x y w : Int32) : Mem :=
  if tcB σ x = 0 then tcM σ x else if tcB σ y = 0 then tcM σ y else if x = y then refR σ 4 x else if rngB w 0 9 = 0 then refR σ 1 0 else if σ 277 (36 + 6 * tN x + tN y) = w then refR σ 5 w
  else sg (sg (sg σ 277 (36 + 6 * tN x + tN y) w) 277 (36 + 6 * tN y + tN x) w) 276 19 (σ 277 (36 + 6 * tN x + tN y))
theorem tcM_1 {σ : Mem} {x : Int32} (h : ¬ tcB σ x = 0) : tcM σ x = σ := by
  unfold tcB at h; unfold tcM
  by_cases g : one1 σ x = 0
  · rw [if_pos g] at h; exact absurd rfl h
  · rw [if_neg g]
/-- beam b of m goes: the later ones one place down -/
def shR (r : Nat → Int32) (b k : Nat) : Nat → Int32 := fun j => if 72 + 4 * b ≤ j ∧ j < k then r (j + 4) else r j
theorem shR_0 {r : Nat → Int32} {b : Nat} : shR r b (72 + 4 * b) = r := by
  funext j; unfold shR; rw [if_neg (by omega)]
theorem shR_s {r : Nat → Int32} {b k : Nat} (h : 72 + 4 * b ≤ k) : upd (shR r b k) k (r (k + 4)) = shR r b (k + 1) := by
  funext j
  unfold upd shR
  by_cases g : j = k
  · subst g; rw [if_pos rfl, if_pos (by omega)]
  · rw [if_neg g]
    by_cases g2 : 72 + 4 * b ≤ j ∧ j < k
    · rw [if_pos g2, if_pos (by omega)]
    · rw [if_neg g2, if_neg (by omega)]
def drpR (h : Nat → Int32) (b m : Nat) : Nat → Int32 := shR (upd h 1 (nI (m - 1))) b (72 + 4 * (m - 1))
theorem rngB_nar {x lo hi : Int32} : narrow .boolean (.int (rngB x lo hi)) = .int (rngB x lo hi) := by
  unfold rngB; split
  · rfl
  · split <;> rfl
theorem refR_k {σ : Mem} {x y : Int32} {j : Nat} (h : j ≠ 16 ∧ j ≠ 17 ∧ j ≠ 18) : refR σ x y 276 j = σ 276 j := by
  unfold refR; simp [sg_at, h]
theorem tcM_k {σ : Mem} {x : Int32} {j : Nat} (h : j ≠ 16 ∧ j ≠ 17 ∧ j ≠ 18) : tcM σ x 276 j = σ 276 j := by
  unfold tcM; split
  · exact refR_k h
  · rfl
theorem comM_k {σ : Mem} {n : Nat} {x b : Int32} {j : Nat} (h : j ≠ 16 ∧ j ≠ 17 ∧ j ≠ 18 ∧ j ≠ 19) : comM σ n x b 276 j = σ 276 j := by
  unfold comM; split
  · exact refR_k ⟨h.1, h.2.1, h.2.2.1⟩
  · split
    · exact refR_k ⟨h.1, h.2.1, h.2.2.1⟩
    · simp [sg_at, sbAp, h]
theorem befM_k {σ : Mem} {x y w : Int32} {j : Nat} (h : j ≠ 16 ∧ j ≠ 17 ∧ j ≠ 18 ∧ j ≠ 19) : befM σ x y w 276 j = σ 276 j := by
  have h3 : j ≠ 16 ∧ j ≠ 17 ∧ j ≠ 18 := ⟨h.1, h.2.1, h.2.2.1⟩
  unfold befM; repeat' split
  all_goals first | exact tcM_k h3 | exact refR_k h3 | simp [sg_at, h]
/-! a round of the reference -/
def gp1 (mv : Nat → Int32) (p : Nat) (r : Nat → Int32) : Nat → Int32 := upd r (6 + 5 * p + 0) (r (6 + 5 * p + 0) + mv p)
def gp2 (mv : Nat → Int32) (p : Nat) (r : Nat → Int32) : Nat → Int32 := upd (gp1 mv p r) (6 + 5 * p + 4) (gp1 mv p r (6 + 5 * p + 4) + abI (mv p))
def gp3 (mv : Nat → Int32) (p : Nat) (r : Nat → Int32) : Nat → Int32 := if abI (mv p) = 0 then upd (gp2 mv p r) (6 + 5 * p + 1) (mnI 9 (gp2 mv p r (6 + 5 * p + 1) + 1)) else gp2 mv p r
def gpS (mv : Nat → Int32) (p : Nat) (r : Nat → Int32) : Nat → Int32 := if abI (mv p) < 3 then gp3 mv p r else upd (gp3 mv p r) (6 + 5 * p + 1) (mxI 0 (gp3 mv p r (6 + 5 * p + 1) - 1))
def gpK (mv h : Nat → Int32) (k : Nat) : Nat → Int32 := fo (gpS mv) h k
theorem gp3_out {mv r : Nat → Int32} {p j : Nat} (h : j < 6 ∨ 36 ≤ j) (hp : p < 6) : gp3 mv p r j = r j := by
  have e1 : ∀ (x y z : Int32) , upd (upd (upd r (6 + 5 * p + 0) x) (6 + 5 * p + 4) y) (6 + 5 * p + 1) z j = r j := fun x y z => by
    rw [pk_un (by omega), pk_un (by omega), pk_un (by omega)]
  unfold gp3
  split
  · exact e1 _ _ _
  · unfold gp2 gp1
    rw [pk_un (by omega), pk_un (by omega)]
theorem gpS_out {mv r : Nat → Int32} {p j : Nat} (h : j < 6 ∨ 36 ≤ j) (hp : p < 6) : gpS mv p r j = r j := by
  unfold gpS
  split
  · exact gp3_out h hp
  · rw [pk_un (by omega)]; exact gp3_out h hp
theorem gpK_out {mv h : Nat → Int32} {j : Nat} (hj : j < 6 ∨ 36 ≤ j) : ∀ k, k ≤ 6 → gpK mv h k j = h j
  | 0, _ => rfl
  | k + 1, hk => by
    show gpS mv k (gpK mv h k) j = h j
    rw [gpS_out hj (by omega)]
    exact gpK_out hj k (by omega)
def crkR (r : Nat → Int32) (b : Nat) : Nat → Int32 := if apR r b ≤ r (72 + 4 * b + 2) then r else upd (upd r 4 (r 4 + 1)) (72 + 4 * b + 3) (r (72 + 4 * b + 3) + 1)
def gbw : Nat → (Nat → Int32) → Nat → Nat → (Nat → Int32) × Nat
  | 0, r, _, m => (r, m)
  | d + 1, r, b, m => if crkR r b (72 + 4 * b + 3) = 3 then gbw d (drpR (upd (crkR r b) 5 (crkR r b 5 + 1)) b m) b (m - 1) else gbw d (crkR r b) (b + 1) m
def okN (x : Int32) : Prop := ∃ k, k ≤ 9 ∧ x = nI k
/-- the row of the reference, well made -/
def RowOK (h : Nat → Int32) (n mb : Nat) : Prop := h 0 = nI n ∧ n ≤ 6 ∧ h 1 = nI mb ∧ mb ≤ 6 ∧ (∀ p, p < 6 → okN (h (6 + 5 * p + 1))) ∧ (∀ p q, p < 6 → q < 6 → okN (h (36 + 6 * p + q))) ∧ ∀ q, q < mb → okB h q
theorem okN_sum {f : Nat → Int32} : ∀ n, (∀ q, q < n → okN (f q)) → ∃ k, k ≤ 9 * n ∧ sumR f 0 n = nI k
  | 0, _ => ⟨0, by omega, rfl⟩
  | n + 1, h => by
    obtain ⟨k, hk, e⟩ := okN_sum n (fun q hq => h q (by omega))
    obtain ⟨j, hj, e2⟩ := h n (by omega)
    refine ⟨k + j, by omega, ?_⟩
    show sumR f 0 n + f n = _
    rw [e, e2, nI_add]
theorem RowOK.hd {h : Nat → Int32} {n mb : Nat} (g : RowOK h n mb) {p : Nat} (hp : p < 6) : ¬ h (6 + 5 * p + 1) + 1 + wtR h n p = 0 := by
  obtain ⟨-, g1, -, -, g2, g3, -⟩ := g
  obtain ⟨k, hk, e⟩ := g2 p hp
  obtain ⟨j, hj, e2⟩ := okN_sum (f := fun q => h (36 + 6 * p + q)) n (fun q hq => g3 p q hp (by omega))
  show ¬ h (6 + 5 * p + 1) + 1 + sumR (fun q => h (36 + 6 * p + q)) 0 n = 0
  rw [e, e2, nI_1, nI_add]
  exact nI_ne0 (by omega) (by omega)
theorem okB_c {r r' : Nat → Int32} {b : Nat} (h : ∀ w, w < 2 → r' (72 + 4 * b + w) = r (72 + 4 * b + w)) (g : okB r b) : okB r' b := by
  unfold okB
  rw [h 0 (by omega), h 1 (by omega)]
  exact g
theorem crkR_out {r : Nat → Int32} {b j : Nat} (h : j ≠ 4) (h2 : j ≠ 72 + 4 * b + 3) : crkR r b j = r j := by
  unfold crkR; split
  · rfl
  · rw [pk_un h2, pk_un h]
theorem okB_drp {r : Nat → Int32} {b m q : Nat} (hq : q < m - 1) (hm : ∀ q, q < m → okB r q) : okB (drpR r b m) q := by
  unfold drpR
  by_cases h : q < b
  · refine okB_c (fun w hw => ?_) (hm q (by omega))
    unfold shR
    rw [if_neg (by omega), pk_un (by omega)]
  · have g := hm (q + 1) (by omega)
    have e : ∀ w, w < 2 → shR (upd r 1 (nI (m - 1))) b (72 + 4 * (m - 1)) (72 + 4 * q + w) = r (72 + 4 * (q + 1) + w) := fun w hw => by
      unfold shR
      rw [if_pos (by omega), pk_un (by omega)]
      exact congrArg r (by omega)
    unfold okB
    rw [e 0 (by omega), e 1 (by omega)]
    exact g
theorem drpR_lo {r : Nat → Int32} {b m j : Nat} (h1 : j ≠ 1) (h : j < 72) : drpR r b m j = r j := by
  unfold drpR shR
  rw [if_neg (by omega), pk_un h1]
theorem drpR_1 {r : Nat → Int32} {b m : Nat} : drpR r b m 1 = nI (m - 1) := by
  unfold drpR shR
  rw [if_neg (by omega)]; exact if_pos rfl
/-- what the beams' part keeps -/
theorem gbw_ok : ∀ (d : Nat) {r : Nat → Int32} {b m : Nat}, b + d = m → r 1 = nI m → m ≤ 6 → (∀ q, q < m → okB r q) → (gbw d r b m).2 ≤ m ∧ (gbw d r b m).1 1 = nI (gbw d r b m).2 ∧ (∀ q, q < (gbw d r b m).2 → okB (gbw d r b m).1 q) ∧ ∀ j, j < 72 → j ≠ 1 → j ≠ 4 → j ≠ 5 → (gbw d r b m).1 j = r j
  | 0, r, b, m, _, h1, _, h3 => ⟨Nat.le_refl _, h1, h3, fun _ _ _ _ _ => rfl⟩
  | d + 1, r, b, m, hd, h1, h2, h3 => by
    unfold gbw
    split
    · obtain ⟨a1, a2, a3, a4⟩ := gbw_ok d (r := drpR (upd (crkR r b) 5 (crkR r b 5 + 1)) b m) (b := b) (m := m - 1) (by omega) drpR_1 (by omega) (fun q hq => okB_drp hq (fun q hq => okB_c (fun w hw => by rw [pk_un (by omega), crkR_out (by omega) (by omega)]) (h3 q hq)))
      refine ⟨by omega, a2, a3, fun j j1 j2 j3 j4 => ?_⟩
      rw [a4 j j1 j2 j3 j4, drpR_lo j2 j1, pk_un j4, crkR_out j3 (by omega)]
    · obtain ⟨a1, a2, a3, a4⟩ := gbw_ok d (r := crkR r b) (b := b + 1) (m := m) (by omega) (by rw [crkR_out (by omega) (by omega)]; exact h1) h2 (fun q hq => okB_c (fun w hw => by rw [crkR_out (by omega) (by omega)]) (h3 q hq))
      exact ⟨a1, a2, a3, fun j j1 j2 j3 j4 => by rw [a4 j j1 j2 j3 j4, crkR_out j3 (by omega)]⟩
def gbN (h : Nat → Int32) (n mb : Nat) : (Nat → Int32) × Nat := gbw mb (gpK (mvR h n) h n) 0 mb
def goR (h : Nat → Int32) (n mb : Nat) : Nat → Int32 := upd (gbN h n mb).1 2 ((gbN h n mb).1 2 + 1)
def gmV (h : Nat → Int32) (n k : Nat) : Int32 := fo (fun p a => if abI (mvR h n p) ≤ 0 then a else a + 1) 0 k
def goM (σ : Mem) (n mb : Nat) : Mem := sb (sb σ 282 (fil (mvR (σ 277) n) (σ 282) n)) 277 (goR (σ 277) n mb)
theorem habN {x y : Int32} (h : okN x) : okN (mnI 9 (x + 1)) ∧ okN (mxI 0 (x - 1)) := by
  obtain ⟨k, hk, rfl⟩ := h
  have : ∀ k, k ≤ 9 → mnI 9 (nI k + 1) = nI (min 9 (k + 1)) ∧ mxI 0 (nI k - 1) = nI (k - 1) := by decide +kernel
  obtain ⟨e1, e2⟩ := this k hk
  exact ⟨⟨_, by omega, e1⟩, ⟨_, by omega, e2⟩⟩
theorem gpS_hab {mv r : Nat → Int32} {p q : Nat} (h : okN (r (6 + 5 * q + 1))) (hp : p < 6) : okN (gpS mv p r (6 + 5 * q + 1)) := by
  have e2 : gp2 mv p r (6 + 5 * q + 1) = r (6 + 5 * q + 1) := by
    unfold gp2 gp1
    rw [pk_un (by omega), pk_un (by omega)]
  have e3 : okN (gp3 mv p r (6 + 5 * q + 1)) := by
    unfold gp3; split
    · by_cases g : q = p
      · subst g; rw [pk_us, e2]; exact (habN (y := 0) h).1
      · rw [pk_un (by omega), e2]; exact h
    · rw [e2]; exact h
  unfold gpS; split
  · exact e3
  · by_cases g : q = p
    · subst g; rw [pk_us]; exact (habN (y := 0) e3).2
    · rw [pk_un (by omega)]; exact e3
theorem gpK_hab {mv h : Nat → Int32} (hh : ∀ p, p < 6 → okN (h (6 + 5 * p + 1))) : ∀ k, k ≤ 6 → ∀ p, p < 6 → okN (gpK mv h k (6 + 5 * p + 1))
  | 0, _, p, hp => hh p hp
  | k + 1, hk, p, hp => gpS_hab (gpK_hab hh k (by omega) p hp) (by omega)
theorem RowOK.go {h : Nat → Int32} {n mb : Nat} (g : RowOK h n mb) : RowOK (goR h n mb) n (gbN h n mb).2 ∧ (gbN h n mb).2 ≤ mb := by
  obtain ⟨g0, g1, g2, g3, g4, g5, g6⟩ := g
  obtain ⟨a1, a2, a3, a4⟩ := gbw_ok mb (r := gpK (mvR h n) h n) (b := 0) (m := mb) (by omega) (by rw [gpK_out (by omega) n g1]; exact g2) g3 (fun q hq => okB_c (fun w hw => gpK_out (by omega) n g1) (g6 q hq))
  refine ⟨⟨?_, g1, ?_, by show (gbw mb (gpK (mvR h n) h n) 0 mb).2 ≤ 6; omega, fun p hp => ?_, fun p q hp hq => ?_, fun q hq => ?_⟩, a1⟩
  · show upd _ 2 _ 0 = _
    rw [pk_un (by omega)]
    show (gbw _ _ _ _).1 0 = _
    rw [a4 0 (by omega) (by omega) (by omega) (by omega), gpK_out (by omega) n g1]; exact g0
  · show upd _ 2 _ 1 = _
    rw [pk_un (by omega)]; exact a2
  · show okN (upd _ 2 _ _)
    rw [pk_un (by omega)]
    show okN ((gbw _ _ _ _).1 _)
    rw [a4 _ (by omega) (by omega) (by omega) (by omega)]
    exact gpK_hab g4 n g1 p hp
  · show okN (upd _ 2 _ _)
    rw [pk_un (by omega)]
    show okN ((gbw _ _ _ _).1 _)
    rw [a4 _ (by omega) (by omega) (by omega) (by omega), gpK_out (by omega) n g1]
    exact g5 p q hp hq
  · refine okB_c (fun w hw => ?_) (a3 q hq)
    show upd _ 2 _ _ = _
    rw [pk_un (by omega)]
    rfl

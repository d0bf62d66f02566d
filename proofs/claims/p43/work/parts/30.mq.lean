/-! the reference's questions, on: plain functions -/
theorem sg_sg {σ : Mem} {b k : Nat} {x y : Int32} : sg (sg σ b k x) b k y = sg σ b k y := by
  funext c j; simp only [sg_at]; split <;> rfl
theorem th_r {σ : Mem} {x : Int32} : sg σ 276 20 x 277 = σ 277 := sg_n (by decide)
theorem rngL {x hi : Int32} {n : Nat} (h : ¬ rngB x 0 hi = 0) (e : hi = nI n) (hn : n < 1000) : x = nI (tN x) ∧ tN x ≤ n := by
  subst e
  rw [← nI_pred n] at h
  obtain ⟨a, b⟩ := rngN h rfl (by omega)
  exact ⟨a, by omega⟩
theorem tN_ne {x : Int32} {n : Nat} (h : x = nI (tN x)) (g : ¬ x = nI n) : tN x ≠ n := fun e => g (by rw [h, e])
def pofV (σ : Mem) (n : Nat) (x y : Int32) : Int32 :=
  if one1 σ x = 0 then 0 else if y = 0 then σ 277 (6 + 5 * tN x + 0) else if y = 1 then σ 277 (6 + 5 * tN x + 1) else if y = 2 then σ 277 (6 + 5 * tN x + 2)
  else if y = 3 then stR (σ 277) (tN x) else if y = 4 then foR (σ 277) n (tN x) else if y = 5 then wtR (σ 277) n (tN x) else if y = 6 then σ 277 (6 + 5 * tN x + 3) else if y = 7 then σ 277 (6 + 5 * tN x + 4) else 0
def pofT (σ : Mem) (x y : Int32) : Int32 :=
  if one1 σ x = 0 then 1 else if y = 0 then 0 else if y = 1 then 0 else if y = 2 then 0 else if y = 3 then 0 else if y = 4 then 0 else if y = 5 then 0 else if y = 6 then 0 else if y = 7 then 0 else 2
def wgV (σ : Mem) (x y : Int32) : Int32 := if one1 σ x = 0 then 0 else if one1 σ y = 0 then 0 else σ 277 (36 + 6 * tN x + tN y)
def wgT (σ : Mem) (x y : Int32) : Int32 := if one1 σ x = 0 then 1 else if one1 σ y = 0 then 1 else 0
def bofV (σ : Mem) (x y : Int32) : Int32 := if mn1 σ x = 0 then 0 else if rngB y 0 4 = 0 then 0 else if y = 4 then apR (σ 277) (tN x) else σ 277 (72 + 4 * tN x + tN y)
def bofT (σ : Mem) (x y : Int32) : Int32 := if mn1 σ x = 0 then 1 else if rngB y 0 4 = 0 then 2 else 0
def pulV (σ : Mem) (n : Nat) (x : Int32) : Int32 := if one1 σ x = 0 then 0 else if nI (bsR (σ 277) (tN x) n) = nI (tN x) then 0 else nI (bsR (σ 277) (tN x) n)
def pulT (σ : Mem) (n : Nat) (x : Int32) : Int32 := if one1 σ x = 0 then 1 else if nI (bsR (σ 277) (tN x) n) = nI (tN x) then 2 else 0
theorem bsR_s {h : Nat → Int32} {p k : Nat} : bsR h p (k + 1) = if plR h p k ≤ plR h p (bsR h p k) then bsR h p k else k := rfl
def fceV (σ : Mem) (x y : Int32) : Int32 := if one1 σ x = 0 then 0 else if rngB y 1 9 = 0 then 0 else frR (σ 277) (tN x) y
def fceT (σ : Mem) (x y : Int32) : Int32 := if one1 σ x = 0 then 1 else if rngB y 1 9 = 0 then 2 else 0
def atR (h : Nat → Int32) (p : Nat) : Int32 := abI (h (6 + 5 * p + 0))
def facV (σ : Mem) (x y : Int32) : Int32 := if one1 σ x = 0 then 0 else if rngB y 1 9 = 0 then 0 else if atR (σ 277) (tN x) ≤ 0 then nI (fcR (frR (σ 277) (tN x) y) (atR (σ 277) (tN x)) 40 0) else if frR (σ 277) (tN x) y = 0 then 0 else nI (fcR (frR (σ 277) (tN x) y) (atR (σ 277) (tN x)) 40 0)
def facT (σ : Mem) (x y : Int32) : Int32 := if one1 σ x = 0 then 1 else if rngB y 1 9 = 0 then 2 else if atR (σ 277) (tN x) ≤ 0 then 0 else if frR (σ 277) (tN x) y = 0 then 3 else 0
/-- camps -/
def sdR (h : Nat → Int32) (p : Nat) : Int32 := sgnV (h (6 + 5 * p + 0)) 0
def cmI (h : Nat → Int32) (p a : Nat) (t : Nat) (x : Int32) : Int32 := fo (fun b v => if h (36 + 6 * a + b) ≤ 0 then v else if sdR h b = sdR h p then v ||| oneV b else v) x t
theorem cmI_s {h : Nat → Int32} {p a t : Nat} {x : Int32} : cmI h p a (t + 1) x = if h (36 + 6 * a + t) ≤ 0 then cmI h p a t x else if sdR h t = sdR h p then cmI h p a t x ||| oneV t else cmI h p a t x := rfl
def cmA (h : Nat → Int32) (n p : Nat) (k : Nat) (x : Int32) : Int32 := fo (fun a v => if bitV v a = 0 then v else cmI h p a n v) x k
theorem cmA_s {h : Nat → Int32} {n p k : Nat} {x : Int32} : cmA h n p (k + 1) x = if bitV (cmA h n p k x) k = 0 then cmA h n p k x else cmI h p k n (cmA h n p k x) := rfl
def cmK (h : Nat → Int32) (n p : Nat) (k : Nat) : Int32 := fo (fun _ v => cmA h n p n v) (oneV p) k
theorem cmK_s {h : Nat → Int32} {n p k : Nat} : cmK h n p (k + 1) = cmA h n p n (cmK h n p k) := rfl
def cmR (h : Nat → Int32) (n p : Nat) : Int32 := if sdR h p = 0 then 0 else cmK h n p 6
def ntz3 (n i : Int32) : Int32 := n + (i.toUInt32 >>> ((1 : Int32).toUInt32 &&& Int32.toUInt32 31)).toInt32
def ush (i : Int32) (k : Int32) : Int32 := (i.toUInt32 >>> (k.toUInt32 &&& Int32.toUInt32 31)).toInt32
def ntz2 (n i : Int32) : Int32 := if i ≤ 1 <<< ((2 : Int32) &&& 31) then ntz3 n i else ntz3 (n + 2) (ush i 2)
def ntz1 (n i : Int32) : Int32 := if i ≤ 1 <<< ((4 : Int32) &&& 31) then ntz2 n i else ntz2 (n + 4) (ush i 4)
def greF (h : Nat → Int32) (b : Int32) (p : Nat) : Int32 := if b = 0 then h (6 + 5 * p + 0) else -h (6 + 5 * p + 0)
def gbs (h : Nat → Int32) (b : Int32) (k : Nat) : Int32 × Int32 := fo (fun q a => if a.1 < greF h b q then (greF h b q, nI q) else a) (0, -1) k
theorem gbs_s {h : Nat → Int32} {b : Int32} {k : Nat} : gbs h b (k + 1) = if (gbs h b k).1 < greF h b k then (greF h b k, nI k) else gbs h b k := rfl
def greV (h : Nat → Int32) (n : Nat) (b : Int32) : Int32 := if 0 ≤ (gbs h b n).2 then (gbs h b n).2 else 0
def greT (h : Nat → Int32) (n : Nat) (b : Int32) : Int32 := if 0 ≤ (gbs h b n).2 then 0 else 1
def meR (h : Nat → Int32) (n p : Nat) (w : Int32) : Int32 := if w = 0 then h (6 + 5 * p + 0) else if w = 1 then abI (h (6 + 5 * p + 0)) else if w = 2 then h (6 + 5 * p + 1) else wtR h n p
def rkI (d : Int32) (q p : Nat) : Int32 := if 0 < d then 1 else if d = 0 then (if nI p ≤ nI q then 0 else 1) else 0
def rkC (h : Nat → Int32) (n : Nat) (w : Int32) (p : Nat) (t : Nat) : Int32 := cntB (fun q => rkI (meR h n q w - meR h n p w) q p) t
theorem rkC_s {h : Nat → Int32} {n p t : Nat} {w : Int32} : rkC h n w p (t + 1) = if rkI (meR h n t w - meR h n p w) t p = 0 then rkC h n w p t else rkC h n w p t + 1 := rfl
def rkS (h : Nat → Int32) (n : Nat) (w x : Int32) : Int32 := srch (fun p => rkC h n w p n) x n 0
def ranV (h : Nat → Int32) (n : Nat) (w x : Int32) : Int32 := if rngB w 0 3 = 0 then 0 else if rkS h n w x < 0 then 0 else rkS h n w x
def ranT (h : Nat → Int32) (n : Nat) (w x : Int32) : Int32 := if rngB w 0 3 = 0 then 1 else if rkS h n w x < 0 then 2 else 0
def wkD (h : Nat → Int32) (i j : Nat) : Int32 := h (72 + 4 * j + 2) - apR h j - h (72 + 4 * i + 2) + apR h i
def wkE (h : Nat → Int32) (i j : Nat) : Int32 := if wkD h i j = 0 then h (72 + 4 * i + 3) - h (72 + 4 * j + 3) else wkD h i j
def wkR (h : Nat → Int32) (i j : Nat) : Int32 := rkI (wkE h i j) i j
def wkT (h : Nat → Int32) (b q : Nat) : Int32 := if nI q = nI b then 0 else wkR h q b
def wkS (h : Nat → Int32) (mb : Nat) (x : Int32) : Int32 := srch (fun b => cntB (wkT h b) mb) x mb 0
def weaV (h : Nat → Int32) (mb : Nat) (x : Int32) : Int32 := if wkS h mb x < 0 then 0 else wkS h mb x
def weaT (h : Nat → Int32) (mb : Nat) (x : Int32) : Int32 := if wkS h mb x < 0 then 1 else 0
def reaV (σ : Mem) (x : Int32) : Int32 := if rngB x 0 2 = 0 then 0 else if σ 276 16 = 0 then 0 else if x = 0 then σ 276 16 else if x = 1 then σ 276 17 else σ 276 18
def reaT (σ : Mem) (x : Int32) : Int32 := if rngB x 0 2 = 0 then 1 else if σ 276 16 = 0 then 2 else 0
/-- the reference's line -/
def mlM (σ : Mem) (c : Int32) : Mem := sg (sg σ 276 9 (σ 276 9 + 1)) 283 (tN (σ 276 9)) c
def ml1 (σ : Mem) (x : Int32) : Mem := mlM σ (chI (48 + (x - x / 10 * 10)))
def mlN (σ : Mem) (x : Int32) : Mem := ml1 (if x ≤ 9 then σ else ml1 σ (x / 10)) x
def LmP (τ σ : Mem) (B : Nat) : Prop := (∀ c, c ≠ 276 → c ≠ 283 → τ c = σ c) ∧ (∀ j, j ≠ 9 → τ 276 j = σ 276 j) ∧ ∃ L, L ≤ B ∧ τ 276 9 = nI L
theorem LmP_0 {σ τ : Mem} {c : Int32} (h : τ = sg (sg σ 276 20 c) 276 9 0) : LmP τ (sg σ 276 20 c) 0 := by
  subst h
  exact ⟨fun c h _ => sg_n h, fun j h => by rw [sg_at, if_neg (fun z => h z.2)], 0, by omega, by rw [sg_ss]; exact nI_0.symm⟩
theorem LmP_up {τ σ : Mem} {A B : Nat} (h : LmP τ σ A) (g : A ≤ B) : LmP τ σ B := by
  obtain ⟨h1, h2, L, h3, h4⟩ := h
  exact ⟨h1, h2, L, by omega, h4⟩
theorem LmP_put {τ σ : Mem} {c : Int32} {B : Nat} (h : LmP τ σ B) : LmP (mlM τ c) σ (B + 1) := by
  obtain ⟨h1, h2, L, h3, h4⟩ := h
  unfold mlM
  refine ⟨fun c h5 h6 => by rw [sg_n h6, sg_n h5, h1 c h5 h6], fun j h5 => by rw [sg_n (by decide), sg_at, if_neg (fun z => h5 z.2), h2 j h5], L + 1, by omega, by rw [sg_n (by decide), sg_ss, h4, nI_1]⟩
theorem LmP_if {τ τ' σ : Mem} {P : Prop} [Decidable P] {B : Nat} (h : LmP τ σ B) (h' : LmP τ' σ B) : LmP (if P then τ else τ') σ B := by
  split <;> assumption
theorem LmP_num {τ σ : Mem} {x : Int32} {B : Nat} (h : LmP τ σ B) : LmP (mlN τ x) σ (B + 2) := LmP_put (LmP_if (LmP_up h (by omega)) (LmP_put h))
theorem LmP_l {τ σ : Mem} {B : Nat} (h : LmP τ σ B) : LmP τ τ B := ⟨fun _ _ _ => rfl, fun _ _ => rfl, h.2.2⟩
theorem LmP_r {τ σ : Mem} {B : Nat} (h : LmP τ σ B) : τ 277 = σ 277 := h.1 277 (by decide) (by decide)
def ln0 (h : Nat → Int32) (σ : Mem) (p : Nat) : Mem := mlM (sg σ 276 9 0) (if h (6 + 5 * p + 2) = 1 then 115 else 111)
def ln1 (h : Nat → Int32) (σ : Mem) (p : Nat) : Mem := if h (6 + 5 * p + 0) = 0 then ln0 h σ p else mlM (ln0 h σ p) (if 0 ≤ h (6 + 5 * p + 0) then 43 else 45)
def ln2 (h : Nat → Int32) (σ : Mem) (p : Nat) : Mem := mlN (mlM (mlN (ln1 h σ p) (abI (h (6 + 5 * p + 0)))) 35) (h (6 + 5 * p + 1))
def lnF (h : Nat → Int32) (p q : Nat) (a : Mem) : Mem := if h (36 + 6 * p + q) = 0 then a else mlN (mlM (mlN (mlM a 32) (nI q)) 42) (h (36 + 6 * p + q))
def lnK (h : Nat → Int32) (σ : Mem) (p k : Nat) : Mem := fo (lnF h p) (ln2 h σ p) k
theorem lnK_s {h : Nat → Int32} {σ : Mem} {p k : Nat} : lnK h σ p (k + 1) = if h (36 + 6 * p + k) = 0 then lnK h σ p k else mlN (mlM (mlN (mlM (lnK h σ p k) 32) (nI k)) 42) (h (36 + 6 * p + k)) := rfl
theorem LmP_z {σ : Mem} : LmP (sg σ 276 9 0) σ 0 := ⟨fun c h _ => sg_n h, fun j h => by rw [sg_at, if_neg (fun z => h z.2)], 0, by omega, by rw [sg_ss]; exact nI_0.symm⟩
theorem LmP_ln0 {h : Nat → Int32} {σ : Mem} {p : Nat} : LmP (ln0 h σ p) σ 1 := LmP_put LmP_z
theorem LmP_ln1 {h : Nat → Int32} {σ : Mem} {p : Nat} : LmP (ln1 h σ p) σ 2 := LmP_if (LmP_up LmP_ln0 (by omega)) (LmP_put LmP_ln0)
theorem LmP_ln2 {h : Nat → Int32} {σ : Mem} {p : Nat} : LmP (ln2 h σ p) σ 7 := LmP_num (LmP_put (LmP_num LmP_ln1))
theorem LmP_lnK {h : Nat → Int32} {σ : Mem} {p : Nat} : ∀ k, LmP (lnK h σ p k) σ (7 + 6 * k)
  | 0 => LmP_ln2
  | k + 1 => LmP_if (LmP_up (LmP_lnK k) (by omega)) (LmP_num (LmP_put (LmP_num (LmP_put (LmP_lnK k)))))
def lbC (a : Mem) (k : Nat) : Mem := fo (fun _ a => mlM a 33) a k
def lbB (h : Nat → Int32) (b : Nat) (a : Mem) : Mem := mlN (mlM (mlN (mlM (mlN (if nI b ≤ 0 then a else mlM a 32) (h (72 + 4 * b + 0))) 45) (h (72 + 4 * b + 1))) 60) (h (72 + 4 * b + 2))
def lbF (h : Nat → Int32) (b : Nat) (a : Mem) : Mem := lbC (lbB h b a) (tN (h (72 + 4 * b + 3)))
def lbM (h : Nat → Int32) (σ : Mem) (k : Nat) : Mem := fo (lbF h) (sg σ 276 9 0) k
theorem LmP_lbC {τ σ : Mem} {B : Nat} (h : LmP τ σ B) : ∀ k, LmP (lbC τ k) σ (B + k)
  | 0 => h
  | k + 1 => LmP_put (LmP_lbC h k)
theorem LmP_lbB {h : Nat → Int32} {τ σ : Mem} {b B : Nat} (g : LmP τ σ B) : LmP (lbB h b τ) σ (B + 9) := LmP_num (LmP_put (LmP_num (LmP_put (LmP_num (LmP_if (LmP_up g (by omega)) (LmP_put g))))))
theorem LmP_lbM {h : Nat → Int32} {σ : Mem} {m : Nat} (hc : ∀ q, q < m → tN (h (72 + 4 * q + 3)) ≤ 9) : ∀ k, k ≤ m → LmP (lbM h σ k) σ (18 * k)
  | 0, _ => LmP_z
  | k + 1, hk => LmP_up (LmP_lbC (LmP_lbB (LmP_lbM hc k (by omega))) _) (by have := hc k (by omega); omega)
def chrV (σ : Mem) (x : Int32) : Int32 := if rngB x 0 (σ 276 9 - 1) = 0 then 97 else σ 283 (tN x)
def chrT (σ : Mem) (x : Int32) : Int32 := if rngB x 0 (σ 276 9 - 1) = 0 then 1 else 0
def accV (σ : Mem) (n : Nat) (x : Int32) : Int32 :=
  if x = 0 then σ 277 0 else if x = 1 then fo (fun q a => a + foR (σ 277) n q) 0 n / 2 else if x = 2 then σ 277 1 else if x = 3 then plmR (fun q => σ 277 (6 + 5 * q + 0)) n else if x = 4 then σ 277 2 else if x = 5 then σ 277 3 else if x = 6 then σ 277 4 else if x = 7 then σ 277 5
  else if x = 8 then sumR (fun q => σ 277 (6 + 5 * q + 0)) 0 n else if x = 9 then σ 276 4 else if x = 10 then σ 276 11 else 0
def accT (x : Int32) : Int32 :=
  if x = 0 then 0 else if x = 1 then 0 else if x = 2 then 0 else if x = 3 then 0 else if x = 4 then 0 else if x = 5 then 0 else if x = 6 then 0 else if x = 7 then 0 else if x = 8 then 0 else if x = 9 then 0 else if x = 10 then 0 else 1
def undV (u : Nat) : Int32 := if u = 0 then 0 else nI (u - 1)
def undM (σ : Mem) (u : Nat) : Mem := if u = 0 then thM σ 1 else sb (sg (thM σ 0) 276 4 (nI (u - 1))) 277 (fil (fun q => σ 280 (96 * (u - 1) + q)) (σ 277) 96)
def savM (σ : Mem) : Mem := sb (sg (thM σ 0) 276 6 1) 281 (fil (σ 277) (σ 281) 96)
def rstV (σ : Mem) : Int32 := if σ 276 6 = 0 then 0 else σ 281 0
def rstM (σ : Mem) : Mem := if σ 276 6 = 0 then thM σ 1 else sg (sb (thM σ 0) 277 (fil (σ 281) (σ 277) 96)) 276 4 0
def apeV (L : Nat) : Int32 := if L = 60 then 0 else nI (L + 1)
def apeM (σ : Mem) (L : Nat) (c : Int32) : Mem := if L = 60 then thM σ 1 else sg (sg (thM σ 0) 276 11 (nI (L + 1))) 284 L c

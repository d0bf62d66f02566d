/-! a round's beams, as lists: the class takes the broken ones away from the last on, the reference from the first on -/
def ovQ (T : Nat → Int32) (t : Q4) : Int32 := if abI (T (tN t.1) - T (tN t.2.1)) ≤ t.2.2.1 then 0 else 1
def crQ (T : Nat → Int32) (t : Q4) : Q4 := if ovQ T t = 0 then t else (t.1, t.2.1, t.2.2.1, t.2.2.2 + 1)
def kpQ (t : Q4) : Bool := decide (t.2.2.2 < 3)
/-- how many of a list creak -/
def nOv (T : Nat → Int32) : List Q4 → Nat
  | [] => 0
  | t :: L => (if ovQ T t = 0 then 0 else 1) + nOv T L
theorem ei_take {α : Type} : ∀ (l : List α) (k : Nat), (l.eraseIdx k).take k = l.take k
  | [], k => by simp
  | a :: l, 0 => by simp
  | a :: l, k + 1 => by rw [List.eraseIdx_cons_succ, List.take_succ_cons, List.take_succ_cons, ei_take l k]
theorem ei_drop {α : Type} : ∀ (l : List α) (k : Nat), (l.eraseIdx k).drop k = l.drop (k + 1)
  | [], k => by simp
  | a :: l, 0 => by simp
  | a :: l, k + 1 => by rw [List.eraseIdx_cons_succ, List.drop_succ_cons, List.drop_succ_cons, ei_drop l k]
theorem nOv_app {T : Nat → Int32} : ∀ (L M : List Q4), nOv T (L ++ M) = nOv T L + nOv T M
  | [], M => by simp [nOv]
  | t :: L, M => by show _ + nOv T (L ++ M) = _ + nOv T L + _; rw [nOv_app L M]; omega
theorem lc_crk {σ : Mem} {bb pb m : Nat} : lsC (crk σ bb pb m) bb m = (lsC σ bb m).map (crQ (σ (pb + 1))) := by
  refine lc_ext (by rw [List.length_map, lc_len]) fun b hb => ?_
  rw [List.getElem?_map, lc_at hb]
  show some _ = some _
  congr 1
  have e : ovQ (σ (pb + 1)) (bmC σ bb b) = overB σ bb pb b := rfl
  have e1 : crk σ bb pb m (bb + 1) b = σ (bb + 1) b := by rw [crk_ap]; exact if_neg (fun z => absurd z.1 (by omega))
  have e2 : crk σ bb pb m (bb + 2) b = σ (bb + 2) b := by rw [crk_ap]; exact if_neg (fun z => absurd z.1 (by omega))
  have e3 : crk σ bb pb m (bb + 3) b = σ (bb + 3) b := by rw [crk_ap]; exact if_neg (fun z => absurd z.1 (by omega))
  have e4 : crk σ bb pb m (bb + 4) b = if overB σ bb pb b = 0 then σ (bb + 4) b else σ (bb + 4) b + 1 := by
    rw [crk_ap]
    by_cases c : overB σ bb pb b = 0
    · rw [if_neg (fun z => z.2.2 c), if_pos c]
    · rw [if_pos ⟨rfl, hb, c⟩, if_neg c]
  unfold crQ
  rw [e]
  show _ = (crk σ bb pb m (bb + 1) b, crk σ bb pb m (bb + 2) b, crk σ bb pb m (bb + 3) b, crk σ bb pb m (bb + 4) b)
  rw [e1, e2, e3, e4]
  by_cases c : overB σ bb pb b = 0
  · rw [if_pos c, if_pos c]; rfl
  · rw [if_neg c, if_neg c]; rfl
theorem lc_succ {σ : Mem} {bb m : Nat} : lsC σ bb (m + 1) = lsC σ bb m ++ [bmC σ bb m] := by
  unfold lsC; rw [List.range_succ, List.map_append]; rfl
theorem cnt_ov {σ : Mem} {bb pb : Nat} : ∀ m, cntB (overB σ bb pb) m = nI (nOv (σ (pb + 1)) (lsC σ bb m))
  | 0 => rfl
  | m + 1 => by
    rw [lc_succ, nOv_app]
    show (if overB σ bb pb m = 0 then cntB (overB σ bb pb) m else cntB (overB σ bb pb) m + 1) = _
    rw [cnt_ov m]
    have e : ovQ (σ (pb + 1)) (bmC σ bb m) = overB σ bb pb m := rfl
    unfold nOv nOv
    rw [e]
    by_cases c : overB σ bb pb m = 0
    · rw [if_pos c, if_pos c]; rfl
    · rw [if_neg c, if_neg c, nI_1]
theorem lc_brk {bb : Nat} : ∀ k {σ : Mem} {m : Nat}, k ≤ m → lsC (brk bb k σ m).1 bb (brk bb k σ m).2 = ((lsC σ bb m).take k).filter kpQ ++ (lsC σ bb m).drop k ∧ (brk bb k σ m).2 ≤ m
  | 0, σ, m, _ => ⟨by simp [brk], Nat.le_refl _⟩
  | k + 1, σ, m, h => by
    have hk : (lsC σ bb m)[k]? = some (bmC σ bb k) := lc_at (by omega)
    have e3 : kpQ (bmC σ bb k) = decide (σ (bb + 4) k < 3) := rfl
    have et : (lsC σ bb m).take (k + 1) = (lsC σ bb m).take k ++ [bmC σ bb k] := by rw [List.take_add_one, hk]; rfl
    have ed : (lsC σ bb m).drop k = bmC σ bb k :: (lsC σ bb m).drop (k + 1) := by
      rw [List.drop_eq_getElem_cons (by rw [lc_len]; omega)]
      congr 1
      exact Option.some.inj ((List.getElem?_eq_getElem _).symm.trans hk)
    unfold brk
    by_cases c : σ (bb + 4) k < 3
    · rw [if_pos c]
      obtain ⟨a1, a2⟩ := lc_brk k (σ := σ) (m := m) (by omega)
      refine ⟨?_, a2⟩
      rw [a1, et, List.filter_append, ed, List.append_assoc]
      congr 1
      simp [List.filter, e3, c]
    · rw [if_neg c]
      obtain ⟨a1, a2⟩ := lc_brk k (σ := takeB σ bb k m) (m := m - 1) (by omega)
      refine ⟨?_, Nat.le_trans a2 (Nat.sub_le _ _)⟩
      rw [a1, lc_take (by omega), et, List.filter_append, ei_take, ei_drop]
      simp [List.filter, e3, c]
/-- a list with its place b changed -/
theorem ls_crk {r : Nat → Int32} {T : Nat → Int32} {b m : Nat} (hb : b < m) (hT : ∀ p, p < 6 → r (6 + 5 * p + 0) = T p) (ho : okB r b) : lsR (crkR r b) m = (lsR r m).set b (crQ T (bmR r b)) ∧ bmR (crkR r b) b = crQ T (bmR r b) ∧ (crkR r b) 4 = r 4 + nI (nOv T [bmR r b]) := by
  have e : apR r b ≤ r (72 + 4 * b + 2) ↔ ovQ T (bmR r b) = 0 := by
    have : apR r b = abI (T (tN (bmR r b).1) - T (tN (bmR r b).2.1)) := by
      unfold apR
      rw [hT _ ho.1.2, hT _ ho.2.2]
      rfl
    rw [this]
    unfold ovQ
    constructor
    · intro z; exact if_pos z
    · intro z
      by_cases c : abI (T (tN (bmR r b).1) - T (tN (bmR r b).2.1)) ≤ (bmR r b).2.2.1
      · exact c
      · rw [if_neg c] at z; exact absurd z (by decide)
  have kb : bmR (crkR r b) b = crQ T (bmR r b) := by
    unfold crQ
    by_cases c : ovQ T (bmR r b) = 0
    · rw [if_pos c]; unfold crkR; rw [if_pos (e.mpr c)]
    · rw [if_neg c]
      unfold bmR crkR
      rw [if_neg (fun z => c (e.mp z)), pk_un (by omega), pk_un (by omega), pk_un (by omega), pk_un (by omega), pk_un (by omega), pk_un (by omega), pk_us]
  refine ⟨?_, kb, ?_⟩
  · refine ls_ext (by rw [List.length_set, ls_len]) fun q hq => ?_
    rw [List.getElem?_set]
    by_cases c : b = q
    · rw [if_pos c, if_pos (by rw [ls_len]; omega), ← c, kb]
    · rw [if_neg c, ls_at hq]
      unfold bmR
      rw [crkR_out (by omega) (by omega), crkR_out (by omega) (by omega), crkR_out (by omega) (by omega), crkR_out (by omega) (by omega)]
  · unfold nOv nOv
    by_cases c : ovQ T (bmR r b) = 0
    · rw [if_pos c]; unfold crkR; rw [if_pos (e.mpr c)]; exact (Int32.add_zero _).symm
    · rw [if_neg c]; unfold crkR; rw [if_neg (fun z => c (e.mp z)), pk_un (by omega), pk_us]; rfl
theorem ls_gbw {T : Nat → Int32} : ∀ (d : Nat) {r : Nat → Int32} {b m : Nat}, b + d = m → m ≤ 6 → r 1 = nI m → (∀ p, p < 6 → r (6 + 5 * p + 0) = T p) → (∀ q, q < m → okB r q) → (∀ q, b ≤ q → q < m → ∃ k, k ≤ 2 ∧ r (72 + 4 * q + 3) = nI k) →
    lsR (gbw d r b m).1 (gbw d r b m).2 = (lsR r m).take b ++ (((lsR r m).drop b).map (crQ T)).filter kpQ ∧ (gbw d r b m).1 4 = r 4 + nI (nOv T ((lsR r m).drop b)) ∧ (gbw d r b m).1 5 = r 5 + nI (m - (gbw d r b m).2) ∧ (gbw d r b m).2 ≤ m
  | 0, r, b, m, hd, hm, h1, hT, hO, hC => by
    have e : b = m := by omega
    subst e
    have e2 : (lsR r b).drop b = [] := List.drop_eq_nil_of_le (by rw [ls_len]; omega)
    have e3 : (lsR r b).take b = lsR r b := List.take_of_length_le (by rw [ls_len]; omega)
    refine ⟨by rw [e2, e3]; simp [gbw], by rw [e2]; exact (Int32.add_zero _).symm, ?_, Nat.le_refl _⟩
    show r 5 = r 5 + nI (b - b)
    rw [Nat.sub_self]; exact (Int32.add_zero _).symm
  | d + 1, r, b, m, hd, hm, h1, hT, hO, hC => by
    have hbm : b < m := by omega
    obtain ⟨c1, c2, c3⟩ := ls_crk (T := T) hbm hT (hO b hbm)
    have hx : (lsR r m)[b]? = some (bmR r b) := ls_at hbm
    have ed : (lsR r m).drop b = bmR r b :: (lsR r m).drop (b + 1) := by
      rw [List.drop_eq_getElem_cons (by rw [ls_len]; omega)]
      congr 1
      exact Option.some.inj ((List.getElem?_eq_getElem _).symm.trans hx)
    have hk3 : (crkR r b) (72 + 4 * b + 3) = (crQ T (bmR r b)).2.2.2 := congrArg (fun z => z.2.2.2) c2
    have hkp : kpQ (crQ T (bmR r b)) = decide (¬ (crkR r b) (72 + 4 * b + 3) = 3) := by
      unfold kpQ
      rw [← hk3]
      obtain ⟨k, hk, ek⟩ := hC b (Nat.le_refl _) hbm
      have key : ∀ k, k ≤ 3 → decide (nI k < 3) = decide (¬ nI k = 3) := by decide +kernel
      unfold crkR
      split
      · rw [ek]; exact key k (by omega)
      · rw [pk_us, ek, nI_1]; exact key (k + 1) (by omega)
    have hT1 : ∀ p, p < 6 → crkR r b (6 + 5 * p + 0) = T p := fun p hp => by rw [crkR_out (by omega) (by omega)]; exact hT p hp
    have hO1 : ∀ q, q < m → okB (crkR r b) q := fun q hq => okB_c (fun w hw => crkR_out (by omega) (by omega)) (hO q hq)
    have hC1 : ∀ q, b + 1 ≤ q → q < m → ∃ k, k ≤ 2 ∧ crkR r b (72 + 4 * q + 3) = nI k := fun q h1 h2 => by rw [crkR_out (by omega) (by omega)]; exact hC q (by omega) h2
    unfold gbw
    by_cases c : (crkR r b) (72 + 4 * b + 3) = 3
    · rw [if_pos c]
      have hU : ∀ j, j ≠ 5 → upd (crkR r b) 5 (crkR r b 5 + 1) j = crkR r b j := fun j hj => pk_un hj
      have lU : lsR (upd (crkR r b) 5 (crkR r b 5 + 1)) m = lsR (crkR r b) m := ls_ext ls_len fun q hq => by
        rw [ls_at hq]; unfold bmR
        rw [hU _ (by omega), hU _ (by omega), hU _ (by omega), hU _ (by omega)]
      have lD : lsR (drpR (upd (crkR r b) 5 (crkR r b 5 + 1)) b m) (m - 1) = (lsR r m).eraseIdx b := by
        rw [ls_drp hbm, lU, c1]
        exact List.eraseIdx_set_eq ..
      have hgt : ∀ q, b ≤ q → q < m - 1 → drpR (upd (crkR r b) 5 (crkR r b 5 + 1)) b m (72 + 4 * q + 3) = crkR r b (72 + 4 * (q + 1) + 3) := fun q q1 q2 => by
        unfold drpR shR
        rw [if_pos (by omega), pk_un (by omega), pk_un (by omega)]
        exact congrArg _ (by omega)
      obtain ⟨a1, a2, a3, a4⟩ := ls_gbw (T := T) d (r := drpR (upd (crkR r b) 5 (crkR r b 5 + 1)) b m) (b := b) (m := m - 1) (by omega) (by omega) drpR_1 (fun p hp => by rw [drpR_lo (by omega) (by omega), hU _ (by omega)]; exact hT1 p hp)
        (fun q hq => okB_drp hq (fun q hq => okB_c (fun w hw => hU _ (by omega)) (hO1 q hq))) (fun q q1 q2 => by rw [hgt q q1 q2]; exact hC1 (q + 1) (by omega) (by omega))
      rw [lD] at a1 a2
      rw [ei_drop] at a1 a2
      rw [ei_take] at a1
      refine ⟨?_, ?_, ?_, by omega⟩
      · rw [a1, ed, List.map_cons, List.filter_cons, hkp]
        simp [c]
      · rw [a2, drpR_lo (by omega) (by omega), hU 4 (by omega), c3, ed, show bmR r b :: (lsR r m).drop (b + 1) = [bmR r b] ++ (lsR r m).drop (b + 1) from rfl, nOv_app, Int32.add_assoc, nI_add]
      · rw [a3]
        revert a4
        generalize (gbw d (drpR (upd (crkR r b) 5 (crkR r b 5 + 1)) b m) b (m - 1)).2 = X
        intro a4
        rw [drpR_lo (by omega) (by omega), pk_us, crkR_out (by omega) (by omega), Int32.add_assoc, show (1 : Int32) = nI 1 from rfl, nI_add]
        congr 2
        omega
    · rw [if_neg c]
      obtain ⟨a1, a2, a3, a4⟩ := ls_gbw (T := T) d (r := crkR r b) (b := b + 1) (m := m) (by omega) hm (by rw [crkR_out (by omega) (by omega)]; exact h1) hT1 hO1 hC1
      rw [c1] at a1 a2
      have et : ((lsR r m).set b (crQ T (bmR r b))).take (b + 1) = (lsR r m).take b ++ [crQ T (bmR r b)] := by
        rw [List.take_add_one, List.getElem?_set_self (by rw [ls_len]; omega), List.take_set_of_le (Nat.le_refl _)]
        rfl
      have edd : ((lsR r m).set b (crQ T (bmR r b))).drop (b + 1) = (lsR r m).drop (b + 1) := List.drop_set_of_lt (by omega)
      rw [et, edd] at a1
      rw [edd] at a2
      refine ⟨?_, ?_, ?_, a4⟩
      · rw [a1, ed, List.map_cons, List.filter_cons, hkp, List.append_assoc]
        simp [c]
      · rw [a2, c3, ed, show bmR r b :: (lsR r m).drop (b + 1) = [bmR r b] ++ (lsR r m).drop (b + 1) from rfl, nOv_app, Int32.add_assoc, nI_add]
      · rw [a3, crkR_out (by omega) (by omega)]

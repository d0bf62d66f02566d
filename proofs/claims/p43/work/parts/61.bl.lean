/-! beams as lists of (low, high, limit, creaks) -/
abbrev Q4 : Type := Int32 × Int32 × Int32 × Int32
def bmR (h : Nat → Int32) (b : Nat) : Q4 := (h (72 + 4 * b + 0), h (72 + 4 * b + 1), h (72 + 4 * b + 2), h (72 + 4 * b + 3))
def bmC (σ : Mem) (bb b : Nat) : Q4 := (σ (bb + 1) b, σ (bb + 2) b, σ (bb + 3) b, σ (bb + 4) b)
def lsR (h : Nat → Int32) (m : Nat) : List Q4 := (List.range m).map (bmR h)
def lsC (σ : Mem) (bb m : Nat) : List Q4 := (List.range m).map (bmC σ bb)
def gdQ (n : Nat) (t : Q4) : Prop := (∃ a c, a < c ∧ c < n ∧ t.1 = nI a ∧ t.2.1 = nI c) ∧ (∃ k, k ≤ 40 ∧ t.2.2.1 = nI k) ∧ ∃ k, k ≤ 2 ∧ t.2.2.2 = nI k
def apQ (s t : Q4) : Prop := ¬ (s.1 = t.1 ∧ s.2.1 = t.2.1)
def BmL (L : List Q4) (n : Nat) : Prop := (∀ t, t ∈ L → gdQ n t) ∧ L.Pairwise apQ
theorem ls_len {h : Nat → Int32} {m : Nat} : (lsR h m).length = m := by unfold lsR; simp
theorem ls_at {h : Nat → Int32} {m b : Nat} (hb : b < m) : (lsR h m)[b]? = some (bmR h b) := by unfold lsR; simp [hb]
theorem lc_at {σ : Mem} {bb m b : Nat} (hb : b < m) : (lsC σ bb m)[b]? = some (bmC σ bb b) := by unfold lsC; simp [hb]
theorem lc_len {σ : Mem} {bb m : Nat} : (lsC σ bb m).length = m := by unfold lsC; simp
theorem ls_ext {h : Nat → Int32} {m : Nat} {L : List Q4} (hl : L.length = m) (he : ∀ b, b < m → L[b]? = some (bmR h b)) : lsR h m = L := by
  apply List.ext_getElem?
  intro i
  by_cases c : i < m
  · rw [ls_at c, he i c]
  · rw [List.getElem?_eq_none (by rw [ls_len]; omega), List.getElem?_eq_none (by omega)]
theorem lc_ext {σ : Mem} {bb m : Nat} {L : List Q4} (hl : L.length = m) (he : ∀ b, b < m → L[b]? = some (bmC σ bb b)) : lsC σ bb m = L := by
  apply List.ext_getElem?
  intro i
  by_cases c : i < m
  · rw [lc_at c, he i c]
  · rw [List.getElem?_eq_none (by rw [lc_len]; omega), List.getElem?_eq_none (by omega)]
theorem BmW_L {h : Nat → Int32} {n mb : Nat} (hn : n ≤ 6) : ((∀ q, q < mb → okB h q) ∧ BmW h n mb) ↔ BmL (lsR h mb) n := by
  constructor
  · rintro ⟨h1, h2⟩
    refine ⟨fun t ht => ?_, ?_⟩
    · obtain ⟨b, hb, rfl⟩ := List.mem_map.mp ht
      have hb := List.mem_range.mp hb
      obtain ⟨⟨o1, o2⟩, o3, o4⟩ := h1 b hb
      obtain ⟨⟨b1, b2⟩, b3, b4, -⟩ := h2 b hb
      exact ⟨⟨_, _, b1, b2, o1, o3⟩, b3, b4⟩
    · rw [List.pairwise_iff_getElem]
      intro i j hi hj hij
      rw [ls_len] at hi hj
      have e1 : (lsR h mb)[i]'(by rw [ls_len]; exact hi) = bmR h i := by unfold lsR; simp
      have e2 : (lsR h mb)[j]'(by rw [ls_len]; exact hj) = bmR h j := by unfold lsR; simp
      rw [e1, e2]
      exact (h2 j hj).2.2.2 i hij
  · rintro ⟨h1, h2⟩
    have g : ∀ b, b < mb → gdQ n (bmR h b) := fun b hb => h1 _ (List.mem_map.mpr ⟨b, List.mem_range.mpr hb, rfl⟩)
    refine ⟨fun q hq => ?_, fun b hb => ?_⟩
    · obtain ⟨⟨a, c, a1, a2, a3, a4⟩, -, -⟩ := g q hq
      have a3 : h (72 + 4 * q + 0) = nI a := a3
      have a4 : h (72 + 4 * q + 1) = nI c := a4
      unfold okB
      rw [a3, a4, tN_nI (by omega), tN_nI (by omega)]
      exact ⟨⟨rfl, by omega⟩, rfl, by omega⟩
    · obtain ⟨⟨a, c, a1, a2, a3, a4⟩, b3, b4⟩ := g b hb
      have a3 : h (72 + 4 * b + 0) = nI a := a3
      have a4 : h (72 + 4 * b + 1) = nI c := a4
      refine ⟨by rw [a3, a4, tN_nI (by omega), tN_nI (by omega)]; exact ⟨a1, a2⟩, b3, b4, fun i hi => ?_⟩
      have := List.pairwise_iff_getElem.mp h2 i b (by rw [ls_len]; omega) (by rw [ls_len]; omega) hi
      have e1 : (lsR h mb)[i]'(by rw [ls_len]; omega) = bmR h i := by unfold lsR; simp
      have e2 : (lsR h mb)[b]'(by rw [ls_len]; omega) = bmR h b := by unfold lsR; simp
      rw [e1, e2] at this
      exact this
theorem BRel_L {τ : Mem} {bb m : Nat} {h : Nat → Int32} (h1 : h 1 = nI m) (hm : m ≤ 6) : BRel τ bb h ↔ τ bb 4 = h 1 ∧ lsC τ bb m = lsR h m := by
  have e : tN (h 1) = m := by rw [h1]; exact tN_nI (by omega)
  unfold BRel
  rw [e]
  constructor
  · rintro ⟨a, b⟩
    refine ⟨a, lc_ext ls_len fun q hq => ?_⟩
    rw [ls_at hq]
    have b0 := b q hq 0 (by omega)
    have b1 := b q hq 1 (by omega)
    have b2 := b q hq 2 (by omega)
    have b3 := b q hq 3 (by omega)
    exact congrArg some (Prod.ext b0.symm (Prod.ext b1.symm (Prod.ext b2.symm b3.symm)))
  · rintro ⟨a, b⟩
    refine ⟨a, fun q hq w hw => ?_⟩
    have k : bmC τ bb q = bmR h q := Option.some.inj (by rw [← lc_at hq, ← ls_at hq, b])
    rcases (show w = 0 ∨ w = 1 ∨ w = 2 ∨ w = 3 by omega) with rfl | rfl | rfl | rfl
    · exact congrArg Prod.fst k
    · exact congrArg (fun z => z.2.1) k
    · exact congrArg (fun z => z.2.2.1) k
    · exact congrArg (fun z => z.2.2.2) k
/-- a row whose beams differ -/
theorem WF.bms {h r : Nat → Int32} {n mb m' : Nat} (w : WF h n mb) (hm : m' ≤ 6) (hi : ∀ j, j < 72 → j ≠ 1 → j ≠ 2 → j ≠ 4 → j ≠ 5 → r j = h j) (k1 : r 1 = nI m') (kb : BmL (lsR r m') n) : WF r n m' := by
  obtain ⟨⟨r0, r1, r2, r3, r4, r5, r6⟩, w1, w2, w3, w4, w5, w6, w7, w8⟩ := w
  obtain ⟨kb1, kb2⟩ := (BmW_L r1).mpr kb
  refine ⟨⟨by rw [hi _ (by omega) (by omega) (by omega) (by omega) (by omega)]; exact r0, r1, k1, hm, fun p hp => by rw [hi _ (by omega) (by omega) (by omega) (by omega) (by omega)]; exact r4 p hp, fun p q hp hq => by rw [hi _ (by omega) (by omega) (by omega) (by omega) (by omega)]; exact r5 p q hp hq, kb1⟩, fun p hp => by rw [hi _ (by omega) (by omega) (by omega) (by omega) (by omega)]; exact w1 p hp, fun p hp => by rw [hi _ (by omega) (by omega) (by omega) (by omega) (by omega)]; exact w2 p hp, fun p q hp hq => by rw [hi _ (by omega) (by omega) (by omega) (by omega) (by omega), hi _ (by omega) (by omega) (by omega) (by omega) (by omega)]; exact w3 p q hp hq, fun p hp => by rw [hi _ (by omega) (by omega) (by omega) (by omega) (by omega)]; exact w4 p hp, fun p h1 hp w hw => by rw [hi _ (by omega) (by omega) (by omega) (by omega) (by omega)]; exact w5 p h1 hp w hw, fun p q hp hq h1 => by rw [hi _ (by omega) (by omega) (by omega) (by omega) (by omega)]; exact w6 p q hp hq h1, kb2, ?_⟩
  rw [hi 3 (by omega) (by omega) (by omega) (by omega) (by omega), w8]
  exact sumR_e 6 (fun q hq => (hi _ (by omega) (by omega) (by omega) (by omega) (by omega)).symm)
theorem srch_e {f g : Nat → Int32} {x : Int32} : ∀ d k, (∀ q, k ≤ q → q < k + d → f q = g q) → srch f x d k = srch g x d k
  | 0, _, _ => rfl
  | d + 1, k, h => by
    show (if f k = x then nI k else srch f x d (k + 1)) = (if g k = x then nI k else srch g x d (k + 1))
    rw [h k (Nat.le_refl _) (by omega), srch_e d (k + 1) (fun q h1 h2 => h q (by omega) (by omega))]
theorem srch_n {f : Nat → Int32} {x : Int32} : ∀ d k, k + d ≤ 1000 → ¬ 0 ≤ srch f x d k → ∀ q, k ≤ q → q < k + d → ¬ f q = x
  | 0, _, _, _ => fun q h1 h2 => absurd h1 (by omega)
  | d + 1, k, hk, h => by
    have h' : ¬ 0 ≤ (if f k = x then nI k else srch f x d (k + 1)) := h
    by_cases c : f k = x
    · rw [if_pos c] at h'; exact absurd (nI_pos' (by omega)) h'
    · rw [if_neg c] at h'
      intro q h1 h2
      by_cases e : q = k
      · rw [e]; exact c
      · exact srch_n d (k + 1) (by omega) h' q (by omega) (by omega)
theorem mnx_n {a b : Nat} (h : a < 1000 ∧ b < 1000) : mnI (nI a) (nI b) = nI (min a b) ∧ mxI (nI a) (nI b) = nI (max a b) := by
  refine ⟨mnI_min ⟨by omega, by omega⟩, ?_⟩
  unfold mxI
  rcases Nat.lt_or_ge a b with g | g
  · rw [if_pos ((nI_ltI (by omega) (by omega)).mpr g), Nat.max_eq_right (by omega)]
  · rw [if_neg (fun z => by have := (nI_ltI (by omega) (by omega)).mp z; omega), Nat.max_eq_left g]
section LK4
variable {σ : Mem} {hb cb n mb : Nat} {h : Nat → Int32} {x y z : Int32}
theorem ls_put (hx : x = nI (tN x)) (hy : y = nI (tN y)) : lsR (ptR h mb x y z) (mb + 1) = lsR h mb ++ [(mnI x y, mxI x y, z, 0)] := by
  have hi : ∀ j, j ≠ 1 → j < 72 + 4 * mb → ptR h mb x y z j = h j := fun j h1 h2 => by unfold ptR; rw [pk_un (by omega), pk_un (by omega), pk_un (by omega), pk_un (by omega), pk_un h1]
  refine ls_ext (by rw [List.length_append, ls_len]; rfl) fun b hb => ?_
  by_cases c : b < mb
  · rw [List.getElem?_append_left (by rw [ls_len]; exact c), ls_at c]
    unfold bmR
    rw [hi _ (by omega) (by omega), hi _ (by omega) (by omega), hi _ (by omega) (by omega), hi _ (by omega) (by omega)]
  · have e : b = mb := by omega
    subst e
    rw [List.getElem?_append_right (by rw [ls_len]; omega), ls_len, Nat.sub_self]
    unfold bmR ptR
    simp [upd]
theorem BmL_put (w : WF h n mb) {a b : Nat} (ha : a < n) (hb : b < n) (hab : a ≠ b) (hz : ¬ rngB z 0 40 = 0) (hf : ¬ 0 ≤ fnR h mb (nI a) (nI b)) : BmL (lsR h mb ++ [(mnI (nI a) (nI b), mxI (nI a) (nI b), z, 0)]) n := by
  have hn6 := w.1.2.1
  have hm6 := w.1.2.2.2.1
  obtain ⟨g1, g2⟩ := (BmW_L hn6).mp ⟨w.1.2.2.2.2.2.2, w.2.2.2.2.2.2.2.1⟩
  obtain ⟨m1, m2⟩ := mnx_n (a := a) (b := b) ⟨by omega, by omega⟩
  obtain ⟨z1, z2⟩ := rngL (n := 40) hz rfl (by decide)
  refine ⟨fun t ht => ?_, ?_⟩
  · rcases List.mem_append.mp ht with c | c
    · exact g1 t c
    · obtain rfl := List.mem_singleton.mp c
      exact ⟨⟨min a b, max a b, by omega, by omega, m1, m2⟩, ⟨_, z2, z1⟩, 0, by omega, rfl⟩
  · rw [List.pairwise_append]
    refine ⟨g2, List.pairwise_singleton _ _, fun s hs t ht => ?_⟩
    obtain rfl := List.mem_singleton.mp ht
    obtain ⟨q, hq, rfl⟩ := List.mem_map.mp hs
    have hq := List.mem_range.mp hq
    intro ⟨k1, k2⟩
    have := srch_n mb 0 (by omega) hf q (Nat.zero_le _) (by omega)
    apply this
    unfold fbR
    exact (if_pos k1).trans (if_pos k2)
theorem car_put (w : WF h n mb) (g : HR σ hb h) (hcb : hb + 20 ≤ cb) (h5 : σ cb 5 = 0) (hx : σ cb 1 = x) (hy : σ cb 2 = y) (hz : σ cb 3 = z) : StR (putM σ hb mb cb) hb cb (stPut h mb x y z) := by
  unfold putM stPut
  rw [hx, hy, hz, g.1.1, hold_one w.1.1 w.1.2.1, hold_one w.1.1 w.1.2.1]
  by_cases c1 : oneH h x = 0
  · rw [if_pos c1, if_pos c1]; exact StR_r w g hcb (by decide)
  · rw [if_neg c1, if_neg c1]
    by_cases c2 : oneH h y = 0
    · rw [if_pos c2, if_pos c2]; exact StR_r w g hcb (by decide)
    · rw [if_neg c2, if_neg c2]
      by_cases c3 : x = y
      · rw [if_pos c3, if_pos c3]; exact StR_r w g hcb (by decide)
      · rw [if_neg c3, if_neg c3]
        by_cases c4 : rngB z 0 40 = 0
        · rw [if_pos c4, if_pos c4]; exact StR_r w g hcb (by decide)
        · rw [if_neg c4, if_neg c4]
          have hn6 := w.1.2.1
          have hm6 := w.1.2.2.2.1
          have h1 := w.1.2.2.1
          obtain ⟨x1, x2⟩ := rngN c1 w.1.1 (by omega)
          obtain ⟨y1, y2⟩ := rngN c2 w.1.1 (by omega)
          have hne : tN x ≠ tN y := fun q => c3 (by rw [x1, y1, q])
          obtain ⟨b1, b2⟩ := (BRel_L h1 hm6).mp g.2.2.1
          have e : btwV σ hb mb x y = fnR h mb x y := srch_e mb 0 (fun q q1 q2 => by
            have k : bmC σ (hb + 15) q = bmR h q := Option.some.inj (by rw [← lc_at (m := mb) (by omega), ← ls_at (m := mb) (by omega), b2])
            have k1 : σ (hb + 15 + 1) q = h (72 + 4 * q + 0) := congrArg Prod.fst k
            have k2 : σ (hb + 15 + 2) q = h (72 + 4 * q + 1) := congrArg (fun z => z.2.1) k
            unfold bmB fbR
            rw [k1, k2])
          rw [e]
          by_cases c5 : 0 ≤ fnR h mb x y
          · rw [if_pos c5, if_pos c5]; exact StR_r w g hcb (by decide)
          · rw [if_neg c5, if_neg c5]
            by_cases c6 : mb = 6
            · rw [if_pos c6, if_pos c6]; exact StR_r w g hcb (by decide)
            · rw [if_neg c6, if_neg c6]
              have L := ls_put (h := h) (mb := mb) (z := z) x1 y1
              have hi : ∀ j, j < 72 → j ≠ 1 → ptR h mb x y z j = h j := fun j j1 j2 => by unfold ptR; rw [pk_un (by omega), pk_un (by omega), pk_un (by omega), pk_un (by omega), pk_un j2]
              have k1 : ptR h mb x y z 1 = nI (mb + 1) := by unfold ptR; rw [pk_un (by omega), pk_un (by omega), pk_un (by omega), pk_un (by omega), pk_us]
              have kb : BmL (lsR (ptR h mb x y z) (mb + 1)) n := by
                rw [L, x1, y1]
                exact BmL_put w x2 y2 hne c4 (by rw [← x1, ← y1]; exact c5)
              refine StR_o (w.bms (by omega) (fun j j1 j2 _ _ _ => hi j j1 j2) k1 kb) ?_ hcb (by rw [sg_n (by omega), sg_n (by omega), sg_n (by omega), sg_n (by omega), sg_n (by omega)]; exact h5)
              have hc : ∀ c, c < hb + 15 ∨ hb + 20 ≤ c → sg (sg (sg (sg (sg σ (hb + 15 + 1) mb (mnI x y)) (hb + 15 + 2) mb (mxI x y)) (hb + 15 + 3) mb z) (hb + 15 + 4) mb 0) (hb + 15) 4 (nI (mb + 1)) c = σ c := fun c hc => by rw [sg_n (by omega), sg_n (by omega), sg_n (by omega), sg_n (by omega), sg_n (by omega)]
              have k4 : sg (sg (sg (sg (sg σ (hb + 15 + 1) mb (mnI x y)) (hb + 15 + 2) mb (mxI x y)) (hb + 15 + 3) mb z) (hb + 15 + 4) mb 0) (hb + 15) 4 (nI (mb + 1)) (hb + 15) 4 = nI (mb + 1) := sg_ss
              have kl : lsC (sg (sg (sg (sg (sg σ (hb + 15 + 1) mb (mnI x y)) (hb + 15 + 2) mb (mxI x y)) (hb + 15 + 3) mb z) (hb + 15 + 4) mb 0) (hb + 15) 4 (nI (mb + 1))) (hb + 15) (mb + 1) = lsR (ptR h mb x y z) (mb + 1) := by
                rw [L, ← b2]
                refine lc_ext (by rw [List.length_append, lc_len]; rfl) fun b hb' => ?_
                by_cases c : b < mb
                · rw [List.getElem?_append_left (by rw [lc_len]; exact c), lc_at c]
                  unfold bmC
                  congr 2
                  · simp only [sg_at]; simp; omega
                  · congr 1
                    · simp only [sg_at]; simp; omega
                    · congr 1
                      · simp only [sg_at]; simp; omega
                      · simp only [sg_at]; simp; omega
                · have e : b = mb := by omega
                  subst e
                  rw [List.getElem?_append_right (by rw [lc_len]; omega), lc_len, Nat.sub_self]
                  unfold bmC
                  simp [sg_at]
              generalize sg (sg (sg (sg (sg σ (hb + 15 + 1) mb (mnI x y)) (hb + 15 + 2) mb (mxI x y)) (hb + 15 + 3) mb z) (hb + 15 + 4) mb 0) (hb + 15) 4 (nI (mb + 1)) = τ at *
              generalize ptR h mb x y z = r at *
              obtain ⟨⟨g0, g1⟩, g2, -, g6, g7, g8⟩ := g
              refine ⟨⟨by rw [hc _ (by omega), hi _ (by omega) (by omega)]; exact g0, fun p hp => ?_⟩, fun p hp => ?_, (BRel_L k1 (by omega)).mpr ⟨k4.trans k1.symm, kl⟩, ?_, ?_, ?_⟩
              · rw [hc _ (by omega), hc (hb + 1 + 2) (by omega), hc (hb + 1 + 3) (by omega), hc (hb + 1 + 7 + p) (by omega), hi _ (by omega) (by omega), hi (6 + 5 * p + 1) (by omega) (by omega), hi (6 + 5 * p + 2) (by omega) (by omega)]
                obtain ⟨a1, a2, a3, a4⟩ := g1 p hp
                exact ⟨a1, a2, a3, fun q hq => by rw [hi _ (by omega) (by omega)]; exact a4 q hq⟩
              · rw [hc _ (by omega), hc (hb + 1 + 5) (by omega), hi _ (by omega) (by omega), hi (6 + 5 * p + 4) (by omega) (by omega)]; exact g2 p hp
              · rw [hc _ (by omega), hi _ (by omega) (by omega)]; exact g6
              · rw [hc _ (by omega), hi _ (by omega) (by omega)]; exact g7
              · rw [hc _ (by omega), hi _ (by omega) (by omega)]; exact g8
end LK4

/-! a change, told of the reference's row alone: (done 1, or refused 0; the row; the answer; why; the detail) -/
abbrev StT : Type := Int32 × (Nat → Int32) × Int32 × Int32 × Int32
def rfs (h : Nat → Int32) (w d : Int32) : StT := (0, h, 0, w, d)
def oks (h : Nat → Int32) (a : Int32) : StT := (1, h, a, 0, 0)
def oneH (h : Nat → Int32) (x : Int32) : Int32 := rngB x 0 (h 0 - 1)
def stCom (h : Nat → Int32) (n : Nat) (x b : Int32) : StT := if rngB x (-20) 20 = 0 then rfs h 1 0 else if n = 6 then rfs h 2 6 else oks (upd (upd (comR h n 5) (6 + 5 * n + 0) x) (6 + 5 * n + 2) b) (nI n)
def stBef (h : Nat → Int32) (x y z : Int32) : StT := if oneH h x = 0 then rfs h 3 (h 0) else if oneH h y = 0 then rfs h 3 (h 0) else if x = y then rfs h 4 x else if rngB z 0 9 = 0 then rfs h 1 0 else if h (36 + 6 * tN x + tN y) = z then rfs h 5 z
  else oks (upd (upd h (36 + 6 * tN x + tN y) z) (36 + 6 * tN y + tN x) z) (h (36 + 6 * tN x + tN y))
def stPas (h : Nat → Int32) (n mb : Nat) : StT := if n = 0 then rfs h 10 (h 2) else oks (goR h n mb) (gmV h n n)
def stTel (h : Nat → Int32) (x y : Int32) : StT := if oneH h x = 0 then rfs h 3 (h 0) else if rngB y 1 9 = 0 then rfs h 1 0 else if h (6 + 5 * tN x + 0) = 0 then rfs h 6 (h (6 + 5 * tN x + 1)) else if frR h (tN x) y = 0 then rfs h 7 y else oks (telR h (tN x) y) (telT h (tN x) y)
def stPut (h : Nat → Int32) (mb : Nat) (x y z : Int32) : StT := if oneH h x = 0 then rfs h 3 (h 0) else if oneH h y = 0 then rfs h 3 (h 0) else if x = y then rfs h 4 x else if rngB z 0 40 = 0 then rfs h 1 0 else if 0 ≤ fnR h mb x y then rfs h 9 (fnR h mb x y) else if mb = 6 then rfs h 2 6 else oks (ptR h mb x y z) (nI mb)
def stTak (h : Nat → Int32) (mb : Nat) (x : Int32) : StT := if rngB x 0 (h 1 - 1) = 0 then rfs h 8 (h 1) else oks (drpR h (tN x) mb) (nI (mb - 1))
def stAcc (h : Nat → Int32) (x y : Int32) : StT := if oneH h x = 0 then rfs h 3 (h 0) else if rngB y 0 9 = 0 then rfs h 1 0 else if h (6 + 5 * tN x + 1) = y then rfs h 5 y else oks (upd h (6 + 5 * tN x + 1) y) (h (6 + 5 * tN x + 1))
def stp (h : Nat → Int32) (j : Nat) (x y z : Int32) : StT := match j with
  | 0 => stCom h (tN (h 0)) x 0
  | 1 => stCom h (tN (h 0)) x 1
  | 2 => stBef h x y z
  | 3 => stPas h (tN (h 0)) (tN (h 1))
  | 4 => stTel h x y
  | 5 => stPut h (tN (h 1)) x y z
  | 6 => stTak h (tN (h 1)) x
  | _ => stAcc h x y
/-- what it does to the reference's memory -/
def StM (τ σ : Mem) (t : StT) : Prop := (t.1 = 0 ∧ τ = refR σ t.2.2.2.1 t.2.2.2.2) ∨ (t.1 = 1 ∧ (∀ c, c ≠ 276 → c ≠ 277 → c ≠ 282 → τ c = σ c) ∧ (∀ j, j ≠ 19 → τ 276 j = σ 276 j) ∧ τ 277 = t.2.1 ∧ τ 276 19 = t.2.2.1)
theorem StM_r {σ : Mem} {h : Nat → Int32} {w d : Int32} : (0 : Int32) = (rfs h w d).1 ∧ StM (refR σ w d) σ (rfs h w d) := ⟨rfl, Or.inl ⟨rfl, rfl⟩⟩
theorem StM_o {τ σ : Mem} {h : Nat → Int32} {a : Int32} (h1 : ∀ c, c ≠ 276 → c ≠ 277 → c ≠ 282 → τ c = σ c) (h2 : ∀ j, j ≠ 19 → τ 276 j = σ 276 j) (h3 : τ 277 = h) (h4 : τ 276 19 = a) : (1 : Int32) = (oks h a).1 ∧ StM τ σ (oks h a) := ⟨rfl, Or.inr ⟨rfl, h1, h2, h3, h4⟩⟩
/-- the usual shape: rows of 277, then the answer -/
theorem StM_s {σ : Mem} {h : Nat → Int32} {a : Int32} : (1 : Int32) = (oks h a).1 ∧ StM (sg (sb σ 277 h) 276 19 a) σ (oks h a) :=
  StM_o (fun c h1 h2 _ => by rw [sg_n h1, sb_n h2]) (fun j hj => by rw [sg_at, if_neg (fun z => hj z.2), sb_n (by decide)]) (by rw [sg_n (by decide), sb_s]) sg_ss
theorem tcB_e {σ : Mem} {x : Int32} : tcB σ x = if oneH (σ 277) x = 0 then 0 else 1 := rfl
theorem tcM_e {σ : Mem} {x : Int32} : tcM σ x = if oneH (σ 277) x = 0 then refR σ 3 (σ 277 0) else σ := rfl
theorem st_com {σ : Mem} {n : Nat} {x b : Int32} : comB n x = (stCom (σ 277) n x b).1 ∧ StM (comM σ n x b) σ (stCom (σ 277) n x b) := by
  unfold comB comM stCom
  by_cases h1 : rngB x (-20) 20 = 0
  · rw [if_pos h1, if_pos h1, if_pos h1]; exact StM_r
  · rw [if_neg h1, if_neg h1, if_neg h1]
    by_cases h2 : n = 6
    · rw [if_pos h2, if_pos h2, if_pos h2]; exact StM_r
    · rw [if_neg h2, if_neg h2, if_neg h2, sg_sb, sg_sb]; exact StM_s
theorem st_bef {σ : Mem} {x y z : Int32} : befB σ x y z = (stBef (σ 277) x y z).1 ∧ StM (befM σ x y z) σ (stBef (σ 277) x y z) := by
  unfold befB befM stBef
  rw [tcB_e, tcB_e, tcM_e, tcM_e]
  by_cases h1 : oneH (σ 277) x = 0
  · simp only [h1, ↓reduceIte]; exact StM_r
  · have h10 : ¬ (1 : Int32) = 0 := by decide
    simp only [h1, h10, ↓reduceIte]
    by_cases h2 : oneH (σ 277) y = 0
    · simp only [h2, ↓reduceIte]; exact StM_r
    · simp only [h2, h10, ↓reduceIte]
      by_cases h3 : x = y
      · rw [if_pos h3, if_pos h3, if_pos h3]; exact StM_r
      · rw [if_neg h3, if_neg h3, if_neg h3]
        by_cases h4 : rngB z 0 9 = 0
        · rw [if_pos h4, if_pos h4, if_pos h4]; exact StM_r
        · rw [if_neg h4, if_neg h4, if_neg h4]
          by_cases h5 : σ 277 (36 + 6 * tN x + tN y) = z
          · rw [if_pos h5, if_pos h5, if_pos h5]; exact StM_r
          · rw [if_neg h5, if_neg h5, if_neg h5, sg_row (σ := σ), sg_sb]; exact StM_s
theorem st_pas {σ : Mem} {n mb : Nat} : pasB n = (stPas (σ 277) n mb).1 ∧ StM (pasM σ n mb) σ (stPas (σ 277) n mb) := by
  unfold pasB pasM stPas
  by_cases h : n = 0
  · rw [if_pos h, if_pos h, if_pos h]; exact StM_r
  · rw [if_neg h, if_neg h, if_neg h]
    refine StM_o (fun c h1 h2 h3 => ?_) (fun j hj => ?_) ?_ sg_ss
    · rw [sg_n h1]; unfold goM; rw [sb_n h2, sb_n h3]
    · rw [sg_at, if_neg (fun z => hj z.2)]; exact goM_k
    · rw [sg_n (by decide)]; unfold goM; rw [sb_s]
theorem st_tel {σ : Mem} {x y : Int32} : rtlB σ x y = (stTel (σ 277) x y).1 ∧ StM (rtlM σ x y) σ (stTel (σ 277) x y) := by
  unfold rtlB rtlM stTel
  rw [tcB_e, tcM_e]
  have h10 : ¬ (1 : Int32) = 0 := by decide
  by_cases h1 : oneH (σ 277) x = 0
  · simp only [h1, ↓reduceIte]; exact StM_r
  · simp only [h1, h10, ↓reduceIte]
    by_cases h2 : rngB y 1 9 = 0
    · rw [if_pos h2, if_pos h2, if_pos h2]; exact StM_r
    · rw [if_neg h2, if_neg h2, if_neg h2]
      by_cases h3 : σ 277 (6 + 5 * tN x + 0) = 0
      · rw [if_pos h3, if_pos h3, if_pos h3]; exact StM_r
      · rw [if_neg h3, if_neg h3, if_neg h3]
        by_cases h4 : frR (σ 277) (tN x) y = 0
        · rw [if_pos h4, if_pos h4, if_pos h4]; exact StM_r
        · rw [if_neg h4, if_neg h4, if_neg h4]; exact StM_s
theorem st_put {σ : Mem} {mb : Nat} {x y z : Int32} : ptB σ mb x y z = (stPut (σ 277) mb x y z).1 ∧ StM (ptM σ mb x y z) σ (stPut (σ 277) mb x y z) := by
  unfold ptB ptM stPut
  rw [tcB_e, tcB_e, tcM_e, tcM_e]
  have h10 : ¬ (1 : Int32) = 0 := by decide
  by_cases h1 : oneH (σ 277) x = 0
  · simp only [h1, ↓reduceIte]; exact StM_r
  · simp only [h1, h10, ↓reduceIte]
    by_cases h2 : oneH (σ 277) y = 0
    · simp only [h2, ↓reduceIte]; exact StM_r
    · simp only [h2, h10, ↓reduceIte]
      by_cases h3 : x = y
      · rw [if_pos h3, if_pos h3, if_pos h3]; exact StM_r
      · rw [if_neg h3, if_neg h3, if_neg h3]
        by_cases h4 : rngB z 0 40 = 0
        · rw [if_pos h4, if_pos h4, if_pos h4]; exact StM_r
        · rw [if_neg h4, if_neg h4, if_neg h4]
          by_cases h5 : 0 ≤ fnR (σ 277) mb x y
          · rw [if_pos h5, if_pos h5, if_pos h5]; exact StM_r
          · rw [if_neg h5, if_neg h5, if_neg h5]
            by_cases h6 : mb = 6
            · rw [if_pos h6, if_pos h6, if_pos h6]; exact StM_r
            · rw [if_neg h6, if_neg h6, if_neg h6]; exact StM_s
theorem st_tak {σ : Mem} {mb : Nat} {x : Int32} : tkB σ x = (stTak (σ 277) mb x).1 ∧ StM (tkM σ mb x) σ (stTak (σ 277) mb x) := by
  unfold tkB tkM stTak mn1
  by_cases h1 : rngB x 0 (σ 277 1 - 1) = 0
  · rw [if_pos h1, if_pos h1, if_pos h1]; exact StM_r
  · rw [if_neg h1, if_neg h1, if_neg h1]; exact StM_s
theorem st_acc {σ : Mem} {x y : Int32} : acB σ x y = (stAcc (σ 277) x y).1 ∧ StM (acM σ x y) σ (stAcc (σ 277) x y) := by
  unfold acB acM stAcc
  rw [tcB_e, tcM_e]
  have h10 : ¬ (1 : Int32) = 0 := by decide
  by_cases h1 : oneH (σ 277) x = 0
  · simp only [h1, ↓reduceIte]; exact StM_r
  · simp only [h1, h10, ↓reduceIte]
    by_cases h2 : rngB y 0 9 = 0
    · rw [if_pos h2, if_pos h2, if_pos h2]; exact StM_r
    · rw [if_neg h2, if_neg h2, if_neg h2]
      by_cases h3 : σ 277 (6 + 5 * tN x + 1) = y
      · rw [if_pos h3, if_pos h3, if_pos h3]; exact StM_r
      · rw [if_neg h3, if_neg h3, if_neg h3, sg_row (σ := σ)]; exact StM_s
/-- a contract whose end says less -/
theorem MI.mono {l : Launch} {y : MethodName} {cc : ByteArray} {n : Nat} {ret : Option FieldType} {d : Nat} {D : va_G} {ct : Nat → ClassId} {ek ad : Nat → Nat} {N0 : Nat} {X : va_W} {F : State → Prop} {As : List Value} {σ : Mem} {post post' : Int32 → Mem → Prop} (h : MI l y cc n ret d D ct ek ad N0 X F As σ post) (hp : ∀ r τ, post r τ → post' r τ) : MI l y cc n ret d D ct ek ad N0 X F As σ post' := by
  intro p e h1 h2 h3 s m args below h4 h5 h6 h7
  obtain ⟨k, o, a1, a2, a3, ⟨⟨r, u, b1, b2, b3⟩, b4⟩, b5⟩ := h p e h1 h2 h3 s m args below h4 h5 h6 h7
  exact ⟨k, o, a1, a2, a3, ⟨⟨r, u, b1, hp r u b2, b3⟩, b4⟩, b5⟩
/-- how many numbers a command has -/
def nmC (j : Nat) : Nat := [1, 1, 3, 0, 2, 3, 1, 2].getD j 0
/-- rows stay well made -/
def RW (h : Nat → Int32) : Prop := RowOK h (tN (h 0)) (tN (h 1))
theorem RowOK.rw {h : Nat → Int32} {n mb : Nat} (g : RowOK h n mb) : RW h ∧ tN (h 0) = n ∧ tN (h 1) = mb := by
  have e1 : tN (h 0) = n := by rw [g.1]; exact tN_nI (by have := g.2.1; omega)
  have e2 : tN (h 1) = mb := by rw [g.2.2.1]; exact tN_nI (by have := g.2.2.2.1; omega)
  refine ⟨?_, e1, e2⟩
  unfold RW
  rw [e1, e2]
  exact g
theorem okN_0 : okN 0 := ⟨0, by omega, rfl⟩
theorem okN_r {x : Int32} (h : ¬ rngB x 0 9 = 0) : okN x := by
  obtain ⟨h1, h2⟩ := rngL (n := 9) h rfl (by decide)
  exact ⟨tN x, h2, h1⟩
theorem rw_com {h : Nat → Int32} {x b : Int32} (g : RW h) (ht : ¬ (stCom h (tN (h 0)) x b).1 = 0) : RW (stCom h (tN (h 0)) x b).2.1 := by
  unfold stCom at ht ⊢
  by_cases h1 : rngB x (-20) 20 = 0
  · rw [if_pos h1] at ht; exact absurd rfl ht
  · rw [if_neg h1] at ht ⊢
    by_cases h2 : tN (h 0) = 6
    · rw [if_pos h2] at ht; exact absurd rfl ht
    · rw [if_neg h2]
      obtain ⟨g0, g1, g2, g3, g4, g5, g6⟩ := g
      generalize tN (h 0) = n at *
      generalize tN (h 1) = mb at *
      have hlt : n < 6 := by omega
      have e : ∀ j, (j < 6 + 5 * n ∨ 6 + 5 * n + 5 ≤ j) → j ≠ 0 → upd (upd (comR h n 5) (6 + 5 * n + 0) x) (6 + 5 * n + 2) b j = h j := fun j h3 h4 => by
        rw [pk_un (by omega), pk_un (by omega)]
        unfold comR putR
        rw [if_neg (by omega), pk_un h4]
      have e0 : upd (upd (comR h n 5) (6 + 5 * n + 0) x) (6 + 5 * n + 2) b 0 = nI (n + 1) := by
        rw [pk_un (by omega), pk_un (by omega)]
        unfold comR putR
        rw [if_neg (by omega)]; exact pk_us
      refine (RowOK.rw (n := n + 1) (mb := mb) ⟨e0, by omega, ?_, g3, fun p hp => ?_, fun p q hp hq => ?_, fun q hq => ?_⟩).1
      · show upd (upd (comR h n 5) (6 + 5 * n + 0) x) (6 + 5 * n + 2) b 1 = _
        rw [e 1 (by omega) (by decide)]; exact g2
      · show okN (upd (upd (comR h n 5) (6 + 5 * n + 0) x) (6 + 5 * n + 2) b _)
        by_cases hpn : p = n
        · subst hpn
          rw [pk_un (by omega), pk_un (by omega)]
          unfold comR putR
          rw [if_pos (by omega)]; exact okN_0
        · rw [e _ (by omega) (by omega)]; exact g4 p hp
      · show okN (upd (upd (comR h n 5) (6 + 5 * n + 0) x) (6 + 5 * n + 2) b _)
        rw [e _ (by omega) (by omega)]; exact g5 p q hp hq
      · show okB (upd (upd (comR h n 5) (6 + 5 * n + 0) x) (6 + 5 * n + 2) b) q
        exact okB_c (fun w hw => e _ (by omega) (by omega)) (g6 q hq)
theorem rw_upd {h h' : Nat → Int32} (g : RW h) (e : ∀ j, j ≠ 0 → j ≠ 1 → (36 ≤ j → j < 72 → okN (h' j)) ∧ (∀ p, p < 6 → j = 6 + 5 * p + 1 → okN (h' j)) ∧ (72 ≤ j → h' j = h j)) (e0 : h' 0 = h 0) (e1 : h' 1 = h 1) : RW h' := by
  obtain ⟨g0, g1, g2, g3, g4, g5, g6⟩ := g
  refine (RowOK.rw (n := tN (h 0)) (mb := tN (h 1)) ⟨by rw [e0]; exact g0, g1, by rw [e1]; exact g2, g3, fun p hp => ?_, fun p q hp hq => ?_, fun q hq => ?_⟩).1
  · exact (e _ (by omega) (by omega)).2.1 p hp rfl
  · exact (e _ (by omega) (by omega)).1 (by omega) (by omega)
  · exact okB_c (fun w hw => (e _ (by omega) (by omega)).2.2 (by omega)) (g6 q hq)
theorem RW.w {h : Nat → Int32} (g : RW h) {j : Nat} (h1 : 36 ≤ j) (h2 : j < 72) : okN (h j) := by
  have := g.2.2.2.2.2.1 ((j - 36) / 6) ((j - 36) % 6) (by omega) (by omega)
  rwa [show 36 + 6 * ((j - 36) / 6) + (j - 36) % 6 = j by omega] at this
theorem rw_bef {h : Nat → Int32} {x y z : Int32} (g : RW h) (ht : ¬ (stBef h x y z).1 = 0) : RW (stBef h x y z).2.1 := by
  have g1 := g.2.1
  unfold stBef at ht ⊢
  by_cases h1 : oneH h x = 0
  · rw [if_pos h1] at ht; exact absurd rfl ht
  · rw [if_neg h1] at ht ⊢
    by_cases h2 : oneH h y = 0
    · rw [if_pos h2] at ht; exact absurd rfl ht
    · rw [if_neg h2] at ht ⊢
      by_cases h3 : x = y
      · rw [if_pos h3] at ht; exact absurd rfl ht
      · rw [if_neg h3] at ht ⊢
        by_cases h4 : rngB z 0 9 = 0
        · rw [if_pos h4] at ht; exact absurd rfl ht
        · rw [if_neg h4] at ht ⊢
          by_cases h5 : h (36 + 6 * tN x + tN y) = z
          · rw [if_pos h5] at ht; exact absurd rfl ht
          · rw [if_neg h5]
            obtain ⟨-, hx⟩ := rngN (show ¬ rngB x 0 (h 0 - 1) = 0 from h1) g.1 (by omega)
            obtain ⟨-, hy⟩ := rngN (show ¬ rngB y 0 (h 0 - 1) = 0 from h2) g.1 (by omega)
            refine rw_upd g (fun j j0 j1 => ⟨fun a1 a2 => ?_, fun p hp hj => ?_, fun a1 => ?_⟩) ?_ ?_
            · show okN (upd (upd h _ z) _ z j)
              unfold upd
              split
              · exact okN_r h4
              · split
                · exact okN_r h4
                · exact g.w a1 a2
            · show okN (upd (upd h _ z) _ z j)
              rw [pk_un (by omega), pk_un (by omega), hj]
              exact g.2.2.2.2.1 p hp
            · show upd (upd h _ z) _ z j = _
              rw [pk_un (by omega), pk_un (by omega)]
            · show upd (upd h _ z) _ z 0 = _
              rw [pk_un (by omega), pk_un (by omega)]
            · show upd (upd h _ z) _ z 1 = _
              rw [pk_un (by omega), pk_un (by omega)]
theorem rw_tel {h : Nat → Int32} {x y : Int32} (g : RW h) (ht : ¬ (stTel h x y).1 = 0) : RW (stTel h x y).2.1 := by
  have g1 := g.2.1
  unfold stTel at ht ⊢
  by_cases h1 : oneH h x = 0
  · rw [if_pos h1] at ht; exact absurd rfl ht
  · rw [if_neg h1] at ht ⊢
    by_cases h2 : rngB y 1 9 = 0
    · rw [if_pos h2] at ht; exact absurd rfl ht
    · rw [if_neg h2] at ht ⊢
      by_cases h3 : h (6 + 5 * tN x + 0) = 0
      · rw [if_pos h3] at ht; exact absurd rfl ht
      · rw [if_neg h3] at ht ⊢
        by_cases h4 : frR h (tN x) y = 0
        · rw [if_pos h4] at ht; exact absurd rfl ht
        · rw [if_neg h4]
          obtain ⟨-, hx⟩ := rngN (show ¬ rngB x 0 (h 0 - 1) = 0 from h1) g.1 (by omega)
          have e : ∀ j, j ≠ 3 → j ≠ 6 + 5 * tN x + 0 → j ≠ 6 + 5 * tN x + 3 → telR h (tN x) y j = h j := fun j a b c => by
            unfold telR; rw [pk_un a, pk_un c, pk_un b]
          refine rw_upd g (fun j j0 j1 => ⟨fun a1 a2 => ?_, fun p hp hj => ?_, fun a1 => ?_⟩) ?_ ?_
          · show okN (telR h (tN x) y j)
            rw [e j (by omega) (by omega) (by omega)]; exact g.w a1 a2
          · show okN (telR h (tN x) y j)
            rw [e j (by omega) (by omega) (by omega), hj]; exact g.2.2.2.2.1 p hp
          · exact e j (by omega) (by omega) (by omega)
          · exact e 0 (by omega) (by omega) (by omega)
          · exact e 1 (by omega) (by omega) (by omega)
theorem rw_acc {h : Nat → Int32} {x y : Int32} (g : RW h) (ht : ¬ (stAcc h x y).1 = 0) : RW (stAcc h x y).2.1 := by
  have g1 := g.2.1
  unfold stAcc at ht ⊢
  by_cases h1 : oneH h x = 0
  · rw [if_pos h1] at ht; exact absurd rfl ht
  · rw [if_neg h1] at ht ⊢
    by_cases h2 : rngB y 0 9 = 0
    · rw [if_pos h2] at ht; exact absurd rfl ht
    · rw [if_neg h2] at ht ⊢
      by_cases h3 : h (6 + 5 * tN x + 1) = y
      · rw [if_pos h3] at ht; exact absurd rfl ht
      · rw [if_neg h3]
        obtain ⟨-, hx⟩ := rngN (show ¬ rngB x 0 (h 0 - 1) = 0 from h1) g.1 (by omega)
        refine rw_upd g (fun j j0 j1 => ⟨fun a1 a2 => ?_, fun p hp hj => ?_, fun a1 => ?_⟩) ?_ ?_
        · show okN (upd h _ y j)
          rw [pk_un (by omega)]; exact g.w a1 a2
        · show okN (upd h _ y j)
          unfold upd
          split
          · exact okN_r h2
          · rw [hj]; exact g.2.2.2.2.1 p hp
        · show upd h _ y j = _
          rw [pk_un (by omega)]
        · show upd h (6 + 5 * tN x + 1) y 0 = h 0
          rw [pk_un (by omega)]
        · show upd h (6 + 5 * tN x + 1) y 1 = h 1
          rw [pk_un (by omega)]
theorem rw_pas {h : Nat → Int32} (g : RW h) (ht : ¬ (stPas h (tN (h 0)) (tN (h 1))).1 = 0) : RW (stPas h (tN (h 0)) (tN (h 1))).2.1 := by
  unfold stPas at ht ⊢
  by_cases h1 : tN (h 0) = 0
  · rw [if_pos h1] at ht; exact absurd rfl ht
  · rw [if_neg h1]
    exact (RowOK.go g).1.rw.1
theorem mnI_or (x y : Int32) : mnI x y = x ∨ mnI x y = y := by unfold mnI; split <;> simp
theorem mxI_or (x y : Int32) : mxI x y = x ∨ mxI x y = y := by unfold mxI; split <;> simp
theorem rw_put {h : Nat → Int32} {x y z : Int32} (g : RW h) (ht : ¬ (stPut h (tN (h 1)) x y z).1 = 0) : RW (stPut h (tN (h 1)) x y z).2.1 := by
  have g1 := g.2.1
  unfold stPut at ht ⊢
  by_cases h1 : oneH h x = 0
  · rw [if_pos h1] at ht; exact absurd rfl ht
  · rw [if_neg h1] at ht ⊢
    by_cases h2 : oneH h y = 0
    · rw [if_pos h2] at ht; exact absurd rfl ht
    · rw [if_neg h2] at ht ⊢
      by_cases h3 : x = y
      · rw [if_pos h3] at ht; exact absurd rfl ht
      · rw [if_neg h3] at ht ⊢
        by_cases h4 : rngB z 0 40 = 0
        · rw [if_pos h4] at ht; exact absurd rfl ht
        · rw [if_neg h4] at ht ⊢
          by_cases h5 : 0 ≤ fnR h (tN (h 1)) x y
          · rw [if_pos h5] at ht; exact absurd rfl ht
          · rw [if_neg h5] at ht ⊢
            by_cases h6 : tN (h 1) = 6
            · rw [if_pos h6] at ht; exact absurd rfl ht
            · rw [if_neg h6]
              obtain ⟨ex, hx⟩ := rngN (show ¬ rngB x 0 (h 0 - 1) = 0 from h1) g.1 (by omega)
              obtain ⟨ey, hy⟩ := rngN (show ¬ rngB y 0 (h 0 - 1) = 0 from h2) g.1 (by omega)
              obtain ⟨g0, g1, g2, g3, g4, g5, g6⟩ := g
              generalize tN (h 1) = mb at *
              have e : ∀ j, j ≠ 1 → (j < 72 + 4 * mb ∨ 72 + 4 * mb + 4 ≤ j) → ptR h mb x y z j = h j := fun j a b => by
                unfold ptR; rw [pk_un (by omega), pk_un (by omega), pk_un (by omega), pk_un (by omega), pk_un a]
              refine (RowOK.rw (n := tN (h 0)) (mb := mb + 1) ⟨(e 0 (by omega) (by omega)).trans g0, g1, ?_, by omega, fun p hp => ?_, fun p q hp hq => ?_, fun q hq => ?_⟩).1
              · show ptR h mb x y z 1 = _
                unfold ptR; rw [pk_un (by omega), pk_un (by omega), pk_un (by omega), pk_un (by omega)]; exact pk_us
              · show okN (ptR h mb x y z _)
                rw [e _ (by omega) (by omega)]; exact g4 p hp
              · show okN (ptR h mb x y z _)
                rw [e _ (by omega) (by omega)]; exact g5 p q hp hq
              · show okB (ptR h mb x y z) q
                by_cases hqm : q = mb
                · subst hqm
                  have e0 : ptR h q x y z (72 + 4 * q + 0) = mnI x y := by
                    unfold ptR; rw [pk_un (by omega), pk_un (by omega), pk_un (by omega)]; exact pk_us
                  have e1 : ptR h q x y z (72 + 4 * q + 1) = mxI x y := by
                    unfold ptR; rw [pk_un (by omega), pk_un (by omega)]; exact pk_us
                  unfold okB
                  rw [e0, e1]
                  constructor
                  · rcases mnI_or x y with w | w <;> rw [w]
                    · exact ⟨ex, by omega⟩
                    · exact ⟨ey, by omega⟩
                  · rcases mxI_or x y with w | w <;> rw [w]
                    · exact ⟨ex, by omega⟩
                    · exact ⟨ey, by omega⟩
                · exact okB_c (fun w hw => e _ (by omega) (by omega)) (g6 q (by omega))
theorem rw_tak {h : Nat → Int32} {x : Int32} (g : RW h) (ht : ¬ (stTak h (tN (h 1)) x).1 = 0) : RW (stTak h (tN (h 1)) x).2.1 := by
  unfold stTak at ht ⊢
  by_cases h1 : rngB x 0 (h 1 - 1) = 0
  · rw [if_pos h1] at ht; exact absurd rfl ht
  · rw [if_neg h1]
    obtain ⟨g0, g1, g2, g3, g4, g5, g6⟩ := g
    obtain ⟨ex, hx⟩ := rngN h1 g2 (by omega)
    generalize tN (h 1) = mb at *
    refine (RowOK.rw (n := tN (h 0)) (mb := mb - 1) ⟨?_, g1, drpR_1, by omega, fun p hp => ?_, fun p q hp hq => ?_, fun q hq => ?_⟩).1
    · show drpR h (tN x) mb 0 = _
      rw [drpR_lo (by omega) (by omega)]; exact g0
    · show okN (drpR h (tN x) mb _)
      rw [drpR_lo (by omega) (by omega)]; exact g4 p hp
    · show okN (drpR h (tN x) mb _)
      rw [drpR_lo (by omega) (by omega)]; exact g5 p q hp hq
    · exact okB_drp hq g6
theorem rw_stp {h : Nat → Int32} {j : Nat} {x y z : Int32} (hj : j < 8) (g : RW h) (ht : ¬ (stp h j x y z).1 = 0) : RW (stp h j x y z).2.1 := by
  rcases (show j = 0 ∨ j = 1 ∨ j = 2 ∨ j = 3 ∨ j = 4 ∨ j = 5 ∨ j = 6 ∨ j = 7 by omega) with rfl | rfl | rfl | rfl | rfl | rfl | rfl | rfl
  · exact rw_com g ht
  · exact rw_com g ht
  · exact rw_bef g ht
  · exact rw_pas g ht
  · exact rw_tel g ht
  · exact rw_put g ht
  · exact rw_tak g ht
  · exact rw_acc g ht

/-! the law's cases: what a case's two calls tell, for each kind of call -/
section LMC
variable {σ τ τ2 : Mem} {v v' : Nat → Int64} {w w' : Nat → UInt64} {r : Int32} {n mb i jn u L : Nat} {x y z : Int32}
theorem tnn (W : WF (σ 277) n mb) : tN (σ 277 0) = n := by
  have := W.1.2.1
  rw [W.1.1]; exact tN_nI (by omega)
theorem tnm (W : WF (σ 277) n mb) : tN (σ 277 1) = mb := by
  have := W.1.2.2.2.1
  rw [W.1.2.2.1]; exact tN_nI (by omega)
/-- a change -/
theorem lcC (C : CRel σ σ) (W : WF (σ 277) n mb) (hi : i < 8) (hj : σ 77 1 = nI jn) (hj8 : jn < 8) (hu : σ 77 2 = nI u) (hu8 : u ≤ 8)
    (h : LQ [eUO] v w (fun a τ => CcR τ (askM σ 273 i x y z) n mb i jn u a) (fun E τ => E = eUO ∧ CcX τ (askM σ 273 i x y z) n mb i) r (τ, v', w')) :
    (∀ c, 276 ≤ c → τ c = σ c) ∧ ∀ (b : Int32) (M : Mem), (b = (stp (σ 277) i x y z).1 ∧ StM M (triM τ) (stp (σ 277) i x y z)) → endM b M u 276 20 = r ∧ (r = 0 → v' 0 = (endV b M).toInt64) ∧ CRel (endM b M u) (endM b M u) := by
  obtain ⟨-, h⟩ := LQ_1 (P' := fun τ => CcX τ (askM σ 273 i x y z) n mb i) h
  rcases h with ⟨rfl, a, ha, h0⟩ | ⟨rfl, hx⟩
  · refine ⟨(chg_ok C W hi hj hj8 hu hu8 ha).2.2.1, fun b M hM => ?_⟩
    obtain ⟨k1, k2, k3⟩ := ch_ok C W hi hj hj8 hu hu8 ha (fun _ _ => hM) rfl
    exact ⟨k1, fun _ => (show v' 0 = a.toInt64 from h0).trans (by rw [k2]), k3⟩
  · refine ⟨(chg_no C W hi hx).2.1, fun b M hM => ?_⟩
    obtain ⟨k1, k2⟩ := ch_no (u := u) C W hi hx (fun _ => hM) rfl
    exact ⟨k1, fun z => absurd z (by decide), k2⟩
theorem tri77 (h : ∀ c, 276 ≤ c → τ c = σ c) : triM τ 277 = σ 277 := (triM_c (by decide) (by decide)).trans (h 277 (by decide))
theorem sx_per (W : WF (σ 277) n mb) (e : triM τ 277 = σ 277) {x y : Int32} : comB n x = (stp (σ 277) (if y = 0 then 0 else 1) x 0 0).1 ∧ StM (comM (triM τ) n x (if y = 0 then 0 else 1)) (triM τ) (stp (σ 277) (if y = 0 then 0 else 1) x 0 0) := by
  have en := tnn W
  rw [← e] at en ⊢
  by_cases c : y = 0
  · rw [if_pos c, if_pos c]
    show comB n x = (stCom (triM τ 277) (tN (triM τ 277 0)) x 0).1 ∧ StM _ _ (stCom (triM τ 277) (tN (triM τ 277 0)) x 0)
    rw [en]; exact st_com
  · rw [if_neg c, if_neg c]
    show comB n x = (stCom (triM τ 277) (tN (triM τ 277 0)) x 1).1 ∧ StM _ _ (stCom (triM τ 277) (tN (triM τ 277 0)) x 1)
    rw [en]; exact st_com
theorem sx_bef (e : triM τ 277 = σ 277) : befB (triM τ) x y z = (stp (σ 277) 2 x y z).1 ∧ StM (befM (triM τ) x y z) (triM τ) (stp (σ 277) 2 x y z) := by
  rw [← e]; exact st_bef
theorem sx_pas (W : WF (σ 277) n mb) (e : triM τ 277 = σ 277) : pasB n = (stp (σ 277) 3 0 0 0).1 ∧ StM (pasM (triM τ) n mb) (triM τ) (stp (σ 277) 3 0 0 0) := by
  have en := tnn W
  have em := tnm W
  rw [← e] at en em ⊢
  show pasB n = (stPas (triM τ 277) (tN (triM τ 277 0)) (tN (triM τ 277 1))).1 ∧ StM _ _ (stPas (triM τ 277) (tN (triM τ 277 0)) (tN (triM τ 277 1)))
  rw [en, em]; exact st_pas
theorem sx_tel (e : triM τ 277 = σ 277) : rtlB (triM τ) x y = (stp (σ 277) 4 x y 0).1 ∧ StM (rtlM (triM τ) x y) (triM τ) (stp (σ 277) 4 x y 0) := by
  rw [← e]; exact st_tel
theorem sx_put (W : WF (σ 277) n mb) (e : triM τ 277 = σ 277) : ptB (triM τ) mb x y z = (stp (σ 277) 5 x y z).1 ∧ StM (ptM (triM τ) mb x y z) (triM τ) (stp (σ 277) 5 x y z) := by
  have em := tnm W
  rw [← e] at em ⊢
  show ptB (triM τ) mb x y z = (stPut (triM τ 277) (tN (triM τ 277 1)) x y z).1 ∧ StM _ _ (stPut (triM τ 277) (tN (triM τ 277 1)) x y z)
  rw [em]; exact st_put
theorem sx_tak (W : WF (σ 277) n mb) (e : triM τ 277 = σ 277) : tkB (triM τ) x = (stp (σ 277) 6 x 0 0).1 ∧ StM (tkM (triM τ) mb x) (triM τ) (stp (σ 277) 6 x 0 0) := by
  have em := tnm W
  rw [← e] at em ⊢
  show tkB (triM τ) x = (stTak (triM τ 277) (tN (triM τ 277 1)) x).1 ∧ StM _ _ (stTak (triM τ 277) (tN (triM τ 277 1)) x)
  rw [em]; exact st_tak
theorem sx_acc (e : triM τ 277 = σ 277) : acB (triM τ) x y = (stp (σ 277) 7 x y 0).1 ∧ StM (acM (triM τ) x y) (triM τ) (stp (σ 277) 7 x y 0) := by
  rw [← e]; exact st_acc
/-- meanAgain's own numbers -/
theorem aga_h (W : WF (σ 277) n mb) (g : HR σ 1 (σ 277)) (hp : tN x < n) : (∀ q, q < n → (if q = tN x then σ (1 + 1 + 2) (tN x) + 1 else σ (1 + 1 + 7 + tN x) q) = nI (tN (if q = tN x then σ (1 + 1 + 2) (tN x) + 1 else σ (1 + 1 + 7 + tN x) q))) ∧ (∀ q, q < n → tN (if q = tN x then σ (1 + 1 + 2) (tN x) + 1 else σ (1 + 1 + 7 + tN x) q) ≤ 10) := by
  have hn := W.1.2.1
  have k : ∀ q, q < n → ∃ a, a ≤ 10 ∧ (if q = tN x then σ (1 + 1 + 2) (tN x) + 1 else σ (1 + 1 + 7 + tN x) q) = nI a := fun q hq => by
    by_cases c : q = tN x
    · rw [if_pos c, show σ (1 + 1 + 2) (tN x) = _ from (g.1.2 (tN x) (by omega)).2.1]
      obtain ⟨a, ha, ea⟩ := W.1.2.2.2.2.1 (tN x) (by omega)
      exact ⟨a + 1, by omega, by rw [ea]; exact nI_1 a⟩
    · rw [if_neg c, show σ (1 + 1 + 7 + tN x) q = _ from (g.1.2 (tN x) (by omega)).2.2.2 q (by omega)]
      obtain ⟨a, ha, ea⟩ := W.1.2.2.2.2.2.1 (tN x) q (by omega) (by omega)
      exact ⟨a, by omega, ea⟩
  refine ⟨fun q hq => ?_, fun q hq => ?_⟩
  · obtain ⟨a, ha, ea⟩ := k q hq
    rw [ea, tN_nI (by omega)]
  · obtain ⟨a, ha, ea⟩ := k q hq
    rw [ea, tN_nI (by omega)]; exact ha
theorem hB_p (W : WF (σ 277) n mb) (g : HR σ 1 (σ 277)) (h : ¬ hB σ x = 0) : tN x < n := (q_p W (by rw [← q_hold W g]; exact h)).1
theorem aga_e (W : WF (σ 277) n mb) (g : HR σ 1 (σ 277)) (hp : tN x < n) : mAddV (σ (1 + 1 + 1)) (fun q => tN (if q = tN x then σ (1 + 1 + 2) (tN x) + 1 else σ (1 + 1 + 7 + tN x) q)) n = mnR (σ 277) n (tN x) := by
  have hn := W.1.2.1
  refine q_aga W hp (fun q hq => (g.1.2 q (by omega)).1) (fun q hq => ?_)
  have := (aga_h W g hp).1 q hq
  rw [← this]
  by_cases c : q = tN x
  · rw [if_pos c, if_pos c, show σ (1 + 1 + 2) (tN x) = _ from (g.1.2 (tN x) (by omega)).2.1]
  · rw [if_neg c, if_neg c, show σ (1 + 1 + 7 + tN x) q = _ from (g.1.2 (tN x) (by omega)).2.2.2 q (by omega)]
/-- no throw, the reference tells no number -/
theorem th_0 (C : CRel σ σ) (h : ∀ c, ¬ (61 ≤ c ∧ c < 77) → τ c = σ c) {T : Int32} : CRel (thM τ T) (thM τ T) := qc_rel C h th_E.1 th_E.2.1
/-- beams as a line -/
theorem bms_c (C : CRel σ σ) (W : WF (σ 277) n mb) (h1 : τ = wbM σ (1 + 15) mb) : τ 277 = σ 277 ∧ (τ 277 = σ 277 → τ 274 1 = lbM (τ 277) (thM τ 0) mb 276 9 ∧ CRel (lbM (τ 277) (thM τ 0) mb) (lbM (τ 277) (thM τ 0) mb)) := by
  subst h1
  have k := (bms_rel C W).2.1
  have e := k 277 (by omega)
  refine ⟨e, fun _ => ?_⟩
  have W1 : WF (wbM σ (1 + 15) mb 277) n mb := by rw [e]; exact W
  obtain ⟨a, -, b⟩ := bms_rel (own_m C k) W1
  have G := LmP_lbM (h := wbM σ (1 + 15) mb 277) (σ := thM (wbM σ (1 + 15) mb) 0) (m := mb) (fun q hq => by
    obtain ⟨-, -, ⟨v, hv, ev⟩, -⟩ := W1.2.2.2.2.2.2.2.1 q hq
    rw [ev, tN_nI (by omega)]; omega) mb (Nat.le_refl _)
  exact ⟨a, b.c (fun c hc => (G.1 c (by omega) (by omega)).trans (by unfold thM; rw [sg_n (by omega)]))⟩
/-- a person's line -/
theorem lin_c (C : CRel σ σ) (W : WF (σ 277) n mb) (g : HR σ 1 (σ 277)) (h : LQ [eIB] v w (fun a τ => τ = wpM σ (1 + 1) n (tN x) ∧ npT σ x = 0 ∧ a = wpM σ (1 + 1) n (tN x) 274 1) (PXd [eIB] (npT σ x) (fun τ => τ = σ)) r (τ, v', w')) :
    τ 277 = σ 277 ∧ linM τ n x 276 20 = r ∧ (r = 0 → v' 0 = (linV τ n x).toInt64) ∧ CRel (linM τ n x) (linM τ n x) := by
  obtain ⟨h1, -, h2⟩ := LQ_q (P := fun τ => τ = wpM σ (1 + 1) n (tN x)) (P' := fun τ => τ = σ) (by decide) (by decide) h
  have en := q_np W g (x := x)
  rcases h2 with ⟨a, b, c⟩ | ⟨a, b⟩
  · have c1 : ¬ one1 σ x = 0 := fun z => by rw [if_pos z] at en; exact absurd (en.symm.trans a) (by decide)
    obtain ⟨p1, p2⟩ := q_p W c1
    have k := (lin_rel C W p1).2.1
    replace b : τ = wpM σ (1 + 1) n (tN x) := b
    rw [← b] at k
    have e := k 277 (by omega)
    have W1 : WF (τ 277) n mb := by rw [e]; exact W
    have o1 : ¬ one1 τ x = 0 := by
      unfold one1 at c1 ⊢; rw [e]; exact c1
    obtain ⟨d1, -, d3⟩ := lin_rel (own_m C k) W1 p1
    have G := LmP_lnK (h := τ 277) (σ := thM τ 0) (p := tN x) n
    have eM : linM τ n x = lnK (τ 277) (thM τ 0) (tN x) n := if_neg o1
    have eV : linV τ n x = lnK (τ 277) (thM τ 0) (tN x) n 276 9 := if_neg o1
    refine ⟨e, ?_, fun _ => ?_, ?_⟩
    · rw [eM, G.2.1 20 (by decide)]; unfold thM; rw [sg_ss]; exact (h1.trans a).symm
    · rw [eV, ← d1]; exact c
    · rw [eM]
      refine CRel.c (τ := lnK (τ 277) (thM τ 0) (tN x) n) d3 (fun c hc => ?_)
      rw [G.1 c (by omega) (by omega)]; unfold thM; rw [sg_n (by omega), b]
  · have b : τ = σ := b
    subst b
    have c1 : one1 τ x = 0 := by
      by_cases z : one1 τ x = 0
      · exact z
      · rw [if_neg z] at en; exact absurd en a
    rw [if_pos c1] at en
    have eM : linM τ n x = thM τ 1 := if_pos c1
    refine ⟨rfl, ?_, fun z => absurd (h1.symm.trans z) a, ?_⟩
    · rw [eM]; unfold thM; rw [sg_ss]; exact (h1.trans en).symm
    · rw [eM]; exact th_0 C (fun _ _ => rfl)
/-- append -/
theorem ape_w {ch : Int32} (hc : vp_nar .char ch = ch) (C : CRel σ σ) (hL : σ 239 3 = nI L) (hL6 : L ≤ 60) (hL11 : σ 276 11 = nI L) (h : LQ [eIS] v w (fun a τ => τ = sg (sg σ 240 L ch) 239 3 (nI (L + 1)) ∧ apeXT L = 0 ∧ a = nI (L + 1)) (PXd [eIS] (apeXT L) (fun τ => τ = σ)) r (τ, v', w')) :
    τ 276 11 = nI L ∧ apeM τ L ch 276 20 = r ∧ (r = 0 → v' 0 = (apeV L).toInt64) ∧ CRel (apeM τ L ch) (apeM τ L ch) := by
  obtain ⟨h1, -, h2⟩ := LQ_q (P := fun τ => τ = sg (sg σ 240 L ch) 239 3 (nI (L + 1))) (P' := fun τ => τ = σ) (by decide) (by decide) h
  rcases h2 with ⟨a, b, c⟩ | ⟨a, b⟩
  · have l6 : L < 60 := by
      unfold apeXT at a
      by_cases q : L < 60
      · exact q
      · rw [if_neg q] at a; exact absurd a (by decide)
    replace b : τ = sg (sg σ 240 L ch) 239 3 (nI (L + 1)) := b
    obtain ⟨k1, k2⟩ := ape_c hc C hL l6 b rfl
    refine ⟨?_, k1.trans (h1.trans a).symm, fun _ => ?_, k2⟩
    · rw [b, sg_n (by decide), sg_n (by decide)]; exact hL11
    · unfold apeV; rw [if_neg (by omega)]; exact c
  · replace b : τ = σ := b
    subst b
    have l6 : L = 60 := by
      unfold apeXT at a
      by_cases q : L < 60
      · rw [if_pos q] at a; exact absurd rfl a
      · omega
    have eT : apeXT L = 1 := by unfold apeXT; rw [if_neg (by omega)]
    have eM : apeM τ L ch = thM τ 1 := if_pos l6
    refine ⟨hL11, ?_, fun z => absurd (h1.symm.trans z) a, ?_⟩
    · rw [eM]; unfold thM; rw [sg_ss]; exact (h1.trans eT).symm
    · rw [eM]; exact th_0 C (fun _ _ => rfl)
theorem nar_c (x : Int32) : vp_nar .char ((x.toUInt32 % 65536).toInt32) = (x.toUInt32 % 65536).toInt32 := by
  show ((x.toUInt32 % 65536) % 65536).toInt32 = _
  have e : x.toUInt32 % 65536 % 65536 = x.toUInt32 % 65536 := by
    apply UInt32.toNat_inj.mp
    rw [UInt32.toNat_mod, UInt32.toNat_mod]
    exact Nat.mod_mod _ _
  rw [e]
/-- undo -/
theorem und_w (C : CRel σ σ) (hj : σ 77 1 = nI jn) (hj8 : jn < 8) (hu : σ 77 2 = nI u) (hu8 : u ≤ 8) (hu4 : σ 276 4 = nI u) (h : LQ [eIS] v w (fun a τ => UndQ τ σ jn u ∧ undT u = 0 ∧ a = nI (u - 1)) (PXd [eIS] (undT u) (fun τ => τ = σ)) r (τ, v', w')) :
    τ 276 4 = nI u ∧ undM τ u 276 20 = r ∧ (r = 0 → v' 0 = (undV u).toInt64) ∧ CRel (undM τ u) (undM τ u) := by
  obtain ⟨h1, -, h2⟩ := LQ_q (P := fun τ => UndQ τ σ jn u) (P' := fun τ => τ = σ) (by decide) (by decide) h
  rcases h2 with ⟨a, b, c⟩ | ⟨a, b⟩
  · have u0 : ¬ u = 0 := fun q => by
      unfold undT at a; rw [if_pos q] at a; exact absurd a (by decide)
    have k3 : ∀ c, 276 ≤ c → τ c = σ c := (und_rel C hj hj8 hu hu8 u0 b).1
    obtain ⟨k1, k2⟩ := und_c C hj hj8 hu hu8 u0 b rfl
    refine ⟨by rw [k3 276 (by omega)]; exact hu4, k1.trans (h1.trans a).symm, fun _ => ?_, k2⟩
    unfold undV; rw [if_neg u0]; exact c
  · replace b : τ = σ := b
    subst b
    have u0 : u = 0 := by
      by_cases q : u = 0
      · exact q
      · unfold undT at a; rw [if_neg q] at a; exact absurd rfl a
    have eT : undT u = 1 := if_pos u0
    have eM : undM τ u = thM τ 1 := if_pos u0
    refine ⟨hu4, ?_, fun z => absurd (h1.symm.trans z) a, ?_⟩
    · rw [eM]; unfold thM; rw [sg_ss]; exact (h1.trans eT).symm
    · rw [eM]; exact th_0 C (fun _ _ => rfl)
/-- restore -/
theorem rst_w (C : CRel σ σ) (h : LQ [eIS] v w (fun a τ => RstQ τ σ ∧ rstT σ = 0 ∧ a = σ (41 + 1) 7) (PXd [eIS] (rstT σ) (fun τ => τ = σ)) r (τ, v', w')) :
    rstM τ 276 20 = r ∧ (r = 0 → v' 0 = (rstV τ).toInt64) ∧ CRel (rstM τ) (rstM τ) := by
  obtain ⟨h1, -, h2⟩ := LQ_q (P := fun τ => RstQ τ σ) (P' := fun τ => τ = σ) (by decide) (by decide) h
  rcases h2 with ⟨a, b, c⟩ | ⟨a, b⟩
  · have u0 : ¬ σ 0 9 = 0 := fun q => by
      unfold rstT at a; rw [if_pos q] at a; exact absurd a (by decide)
    obtain ⟨k1, k2, k3⟩ := rst_c C u0 b rfl
    exact ⟨k1.trans (h1.trans a).symm, fun _ => by rw [← k2]; exact c, k3⟩
  · replace b : τ = σ := b
    subst b
    have u0 : τ 0 9 = 0 := by
      by_cases q : τ 0 9 = 0
      · exact q
      · unfold rstT at a; rw [if_neg q] at a; exact absurd rfl a
    have eT : rstT τ = 1 := if_pos u0
    have eM : rstM τ = thM τ 1 := if_pos (C.2.2.2.1.1.symm.trans u0)
    refine ⟨?_, fun z => absurd (h1.symm.trans z) a, ?_⟩
    · rw [eM]; unfold thM; rw [sg_ss]; exact (h1.trans eT).symm
    · rw [eM]; exact th_0 C (fun _ _ => rfl)
/-- commands -/
theorem cmd_w (C : CRel σ σ) (hL : L ≤ 60) (hj : σ 77 1 = nI jn) (hj8 : jn < 8) (hu : σ 77 2 = nI u) (hu8 : u ≤ 8) (hu4 : σ 276 4 = nI u) (h : LQ [eIA, eUO] v w (fun a τ => CmR τ σ L jn u a) (fun E τ => (E = eIA ∧ CmX0 τ σ L) ∨ (E = eUO ∧ CmX1 τ σ L)) r (τ, v', w')) :
    (∀ c, 276 ≤ c → τ c = σ c) ∧ ∀ (τ2 : Mem) (b : Int32), CmdQ τ2 τ L u b → τ2 276 20 = r ∧ (r = 0 → v' 0 = b.toInt64) ∧ CRel τ2 τ2 := by
  obtain ⟨-, h⟩ := LQ_c (P1 := fun τ => CmX0 τ σ L) (P2 := fun τ => CmX1 τ σ L) h
  rcases h with ⟨rfl, a, ha, h0⟩ | ⟨rfl, h0⟩ | ⟨rfl, h0⟩
  · have k := (cmd_ok C hL hj hj8 hu hu8 ha).2.2.2.1
    refine ⟨k, fun τ2 b hq => ?_⟩
    obtain ⟨k1, k2, k3⟩ := cmd_c2 C hL hj hj8 hu (by rw [k 276 (by omega)]; exact hu4) hu8 ha hq
    exact ⟨k1, fun _ => by rw [← k2]; exact h0, k3⟩
  · have k := (cmd_x0 C h0).2.1
    refine ⟨k, fun τ2 b hq => ?_⟩
    obtain ⟨k1, k3⟩ := cmd_c0 C (by rw [k 276 (by omega)]; exact hu4) hu8 h0 hq
    exact ⟨k1, fun z => absurd z (by decide), k3⟩
  · have k := (cmd_x1 C hL h0).2.2.1
    refine ⟨k, fun τ2 b hq => ?_⟩
    obtain ⟨k1, k3⟩ := cmd_c1 C hL (by rw [k 276 (by omega)]; exact hu4) hu8 h0 hq
    exact ⟨k1, fun z => absurd z (by decide), k3⟩
end LMC

/-! the law's second object -/
def tr (h : Nat → Int32) : Nat → Int32 := fun j => if j < 96 then h j else 0
def nrm (ν : Mem) : Mem := sb ν 277 (tr (ν 277))
def aR (h : Nat → Int32) : Int64 := asA (tr h)
abbrev aS (ν : Mem) : Int64 := aR (ν 277)
abbrev waX (ct : Nat → ClassId) (qw : Nat) (v : Nat → Int64) : va_W := [(qw, .inl (ct 6, 9, .inr (.inl v)))]
theorem va_D_fst {A : Nat → Prop} {ws ws' : va_W} (h : va_D A ws) (e : ws.map Prod.fst = ws'.map Prod.fst) : va_D A ws' := by
  have k : ∀ (i : Nat) (q : Nat × va_E), ws'[i]? = some q → ∃ q', ws[i]? = some q' ∧ q'.1 = q.1 := fun i q hq => by
    have h1 : (ws.map Prod.fst)[i]? = some q.1 := by rw [e, List.getElem?_map, hq]; rfl
    rw [List.getElem?_map] at h1
    cases c : ws[i]? with
    | none => rw [c] at h1; cases h1
    | some q' => rw [c] at h1; exact ⟨q', rfl, Option.some.inj h1⟩
  refine ⟨fun i j p q hp hq hpq => ?_, fun i q hq => ?_⟩
  · obtain ⟨p', p1, p2⟩ := k i p hp
    obtain ⟨q', q1, q2⟩ := k j q hq
    exact h.1 i j p' q' p1 q1 (by rw [p2, q2, hpq])
  · obtain ⟨q', q1, q2⟩ := k i q hq
    rw [← q2]; exact h.2 i q' q1
section LOO
variable {μ ν ρ σ : Mem} {h h0 : Nat → Int32} {i d u : Nat} {v : Nat → Int64} {r : Int32}
theorem tr_lt {j : Nat} (hj : j < 96) : tr h j = h j := if_pos hj
theorem nrm_77 : nrm ν 277 = tr (ν 277) := sb_s
theorem nrm_n {c : Nat} (hc : c ≠ 277) : nrm ν c = ν c := sb_n hc
theorem nrm_E : CoE (nrm ν) ν := ⟨fun j hj => by rw [nrm_77]; exact tr_lt hj, by rw [nrm_n (by decide)], nrm_n (by decide), by rw [nrm_n (by decide)], nrm_n (by decide), by rw [nrm_n (by decide)]⟩
theorem wG_nrm {D : va_G} {ct : Nat → ClassId} {ek ad : Nat → Nat} {X : va_W} {H : Heap} (w : wG D ct ek ad X ν H) : wG D ct ek ad X (nrm ν) H := by
  obtain ⟨σ, h1, h2⟩ := w
  refine ⟨σ, h1, h2.m ?_⟩
  unfold MdE
  rw [nrm_n (show 276 ≠ 277 by decide), nrm_n (show 280 ≠ 277 by decide), nrm_n (show 281 ≠ 277 by decide), nrm_n (show 283 ≠ 277 by decide), nrm_n (show 284 ≠ 277 by decide)]
  exact ⟨fun j hj => by rw [nrm_77]; exact tr_lt hj, ⟨rfl, rfl⟩, ⟨rfl, rfl⟩, ⟨rfl, rfl⟩, ⟨rfl, rfl⟩, rfl, rfl, rfl, rfl⟩
theorem aR_e {h' : Nat → Int32} (e : ∀ j, j < 96 → h j = h' j) : aR h = aR h' := by
  unfold aR
  congr 1
  funext j
  unfold tr
  by_cases c : j < 96
  · rw [if_pos c, if_pos c, e j c]
  · rw [if_neg c, if_neg c]
theorem aS_E (c : CoE ν μ) : aS ν = aS μ := aR_e c.1
/-- the stages -/
def OA (ν : Mem) (h : Nat → Int32) : Prop := (∀ j, j < 96 → ν 277 j = h j) ∧ 2 ≤ gn ν ∧ ν 276 11 = 0
def OB (ν : Mem) (h : Nat → Int32) : Prop := OA ν h ∧ ¬ ν 276 6 = 0 ∧ ∀ j, j < 96 → ν 281 j = h j
def OI (ν : Mem) (h0 : Nat → Int32) (i d : Nat) (v : Nat → Int64) : Prop := (¬ ν 276 6 = 0 ∧ (∀ j, j < 96 → ν 281 j = h0 j) ∧ 2 ≤ gn ν ∧ ν 276 11 = 0) ∧ d ≤ i ∧ d ≤ gu ν ∧ gu ν ≤ 8 ∧ (∀ j, j < d → v j = aR (rowK ν (gu ν - d + j))) ∧ ∀ j, j < d → 2 ≤ tN (rowK ν (gu ν - d + j) 0)
theorem OA.e (a : OA ν h) (c : CoE ρ ν) : OA ρ h := ⟨fun j hj => (c.1 j hj).trans (a.1 j hj), by rw [c.n.1]; exact a.2.1, c.2.2.2.2.2.trans a.2.2⟩
theorem OB.e (a : OB ν h) (c : CoE ρ ν) : OB ρ h := ⟨a.1.e c, by rw [c.2.2.2.1]; exact a.2.1, fun j hj => by rw [c.2.2.2.2.1]; exact a.2.2 j hj⟩
theorem OA.n0 (a : OA ν h) : ¬ gn ν = 0 := by have := a.2.1; omega
theorem OA.s (a : OA ν h) : aS ν = aR h := aR_e a.1
theorem OI.e (a : OI ν h0 i d v) (c : CoE ρ ν) : OI ρ h0 i d v := by
  obtain ⟨⟨a1, a2, a3, a4⟩, a5, a6, a7, a8, a9⟩ := a
  have eu : gu ρ = gu ν := c.n.2.2.1
  have er : ∀ i, rowK ρ i = rowK ν i := fun i => by unfold rowK; rw [c.2.2.1]
  exact ⟨⟨by rw [c.2.2.2.1]; exact a1, fun j hj => by rw [c.2.2.2.2.1]; exact a2 j hj, by rw [c.n.1]; exact a3, c.2.2.2.2.2.trans a4⟩, a5, by rw [eu]; exact a6, by rw [eu]; exact a7, fun j hj => by rw [eu, er]; exact a8 j hj, fun j hj => by rw [eu, er]; exact a9 j hj⟩
theorem OI.nx (a : OI ν h0 i d v) : OI ν h0 (i + 1) d v := ⟨a.1, by have := a.2.1; omega, a.2.2⟩
theorem OI.n0 (a : OI ν h0 i d v) : ¬ gn ν = 0 := by have := a.1.2.2.1; omega
theorem OI.L0 (a : OI ν h0 i d v) : gL ν = 0 := by show tN (ν 276 11) = 0; rw [a.1.2.2.2]; decide
/-- one more change -/
theorem OI.c (a : OI ν h0 i d v) (hi8 : i < 8) (hu4 : ν 276 4 = nI (gu ν)) (hL : ρ 276 11 = nI (gL ρ)) (c : ChOK ρ ν) {x : Int64} (hx : x = aS ν) : OI ρ h0 (i + 1) (d + 1) (vp_updL v d x) := by
  obtain ⟨⟨a1, a2, a3, a4⟩, a5, a6, a7, a8, a9⟩ := a
  obtain ⟨c1, c2, c3, c4, c5, c6, c7⟩ := c
  have k8 := kpU_le a7
  have eu : gu ρ = kpU (gu ν) + 1 := by show tN (ρ 276 4) = _; rw [c5 hu4]; exact tN_nI (by omega)
  have ek : kpU (gu ν) = if gu ν = 8 then 7 else gu ν := rfl
  have old : ∀ j, j < d → ∀ q, q < 96 → rowK ρ (kpU (gu ν) + 1 - (d + 1) + j) q = rowK ν (gu ν - d + j) q := fun j hj q hq => by
    rw [c6 (kpU (gu ν) + 1 - (d + 1) + j) (by rw [ek]; split <;> omega) q hq]
    congr 1
    rw [ek]
    by_cases c9 : gu ν = 8
    · rw [if_pos c9, if_pos c9]; omega
    · rw [if_neg c9, if_neg c9]; omega
  have new : kpU (gu ν) + 1 - (d + 1) + d = kpU (gu ν) := by
    rw [ek]
    split <;> omega
  refine ⟨⟨by rw [c1]; exact a1, fun j hj => by rw [c2]; exact a2 j hj, by omega, by rw [hL, c3]; rfl⟩, by omega, ?_, by rw [eu]; omega, fun j hj => ?_, fun j hj => ?_⟩
  · rw [eu, ek]
    split <;> omega
  · rw [eu]
    by_cases e : j = d
    · subst e
      have e1 : vp_updL v j x j = x := by unfold vp_updL; simp
      rw [e1, hx]
      exact aR_e (fun q hq => by rw [new, c7 q hq])
    · have e1 : vp_updL v d x j = v j := by unfold vp_updL; simp [e]
      rw [e1, a8 j (by omega)]
      exact aR_e (fun q hq => (old j (by omega) q hq).symm)
  · rw [eu]
    by_cases e : j = d
    · subst e
      rw [new, c7 0 (by omega)]; exact a3
    · rw [old j (by omega) 0 (by omega)]
      exact a9 j (by omega)
/-- undone -/
theorem un_p (h0 : gu μ = u + 1) : (unG μ).1 = nI u ∧ (∀ j, j < 96 → (unG μ).2 277 j = rowK μ u j) ∧ (unG μ).2 276 4 = nI u ∧ (unG μ).2 280 = μ 280 ∧ (unG μ).2 276 6 = μ 276 6 ∧ (unG μ).2 281 = μ 281 ∧ (unG μ).2 276 11 = μ 276 11 := by
  unfold unG
  rw [h0, if_neg (by omega)]
  unfold undM thM
  rw [if_neg (by omega), show u + 1 - 1 = u by omega]
  refine ⟨rfl, fun j hj => ?_, ?_, ?_, ?_, ?_, ?_⟩
  · dsimp only
    rw [sb_s, fil_lt hj]; rfl
  · dsimp only
    rw [sb_n (by decide), sg_ss]
  · dsimp only
    rw [sb_n (by decide), sg_n (by decide), sg_n (by decide)]
  · dsimp only
    rw [sb_n (by decide), sg_at, if_neg (by decide), sg_at, if_neg (by decide)]
  · dsimp only
    rw [sb_n (by decide), sg_n (by decide), sg_n (by decide)]
  · dsimp only
    rw [sb_n (by decide), sg_at, if_neg (by decide), sg_at, if_neg (by decide)]
theorem un_z (h0 : gu μ = 0) : (unG μ).1 = -1001 ∧ (unG μ).2 = μ := by
  unfold unG
  rw [if_pos h0]
  exact ⟨rfl, rfl⟩
theorem rs_p (h0 : ¬ μ 276 6 = 0) : (rsG μ).1 = μ 281 0 ∧ (∀ j, j < 96 → (rsG μ).2 277 j = μ 281 j) ∧ (rsG μ).2 276 4 = 0 ∧ (rsG μ).2 280 = μ 280 ∧ (rsG μ).2 276 6 = μ 276 6 ∧ (rsG μ).2 281 = μ 281 ∧ (rsG μ).2 276 11 = μ 276 11 := by
  unfold rsG
  rw [if_neg h0]
  unfold rstM thM
  rw [if_neg h0]
  refine ⟨rfl, fun j hj => ?_, ?_, ?_, ?_, ?_, ?_⟩
  · dsimp only
    rw [sg_n (by decide), sb_s, fil_lt hj]
  · dsimp only
    rw [sg_ss]
  · dsimp only
    rw [sg_n (by decide), sb_n (by decide), sg_n (by decide)]
  · dsimp only
    rw [sg_at, if_neg (by decide), sb_n (by decide), sg_at, if_neg (by decide)]
  · dsimp only
    rw [sg_n (by decide), sb_n (by decide), sg_n (by decide)]
  · dsimp only
    rw [sg_at, if_neg (by decide), sb_n (by decide), sg_at, if_neg (by decide)]
theorem sv_p : (∀ j, j < 96 → savM μ 281 j = μ 277 j) ∧ savM μ 277 = μ 277 ∧ savM μ 276 4 = μ 276 4 ∧ savM μ 280 = μ 280 ∧ savM μ 276 6 = 1 ∧ savM μ 276 11 = μ 276 11 := by
  unfold savM thM
  refine ⟨fun j hj => by rw [sb_s, fil_lt hj], ?_, ?_, ?_, ?_, ?_⟩
  · rw [sb_n (by decide), sg_n (by decide), sg_n (by decide)]
  · rw [sb_n (by decide), sg_at, if_neg (by decide), sg_at, if_neg (by decide)]
  · rw [sb_n (by decide), sg_n (by decide), sg_n (by decide)]
  · rw [sb_n (by decide), sg_ss]
  · rw [sb_n (by decide), sg_at, if_neg (by decide), sg_at, if_neg (by decide)]
theorem OA.sv (a : OA ν h) : OB (savM ν) h := by
  obtain ⟨s1, s2, s3, s4, s5, s6⟩ := sv_p (μ := ν)
  refine ⟨⟨fun j hj => by rw [s2]; exact a.1 j hj, ?_, s6.trans a.2.2⟩, by rw [s5]; decide, fun j hj => (s1 j hj).trans (a.1 j hj)⟩
  show 2 ≤ tN (savM ν 277 0)
  rw [s2]; exact a.2.1
theorem OB.st (a : OB ν h) (hu : gu ν ≤ 8) {v : Nat → Int64} : OI ν h 0 0 v := ⟨⟨a.2.1, a.2.2, a.1.2.1, a.1.2.2⟩, by omega, by omega, hu, fun j hj => absurd hj (Nat.not_lt_zero _), fun j hj => absurd hj (Nat.not_lt_zero _)⟩
/-- while changes are undone: k of them are, of d; U could be undone at first -/
def OU (ν : Mem) (h0 : Nat → Int32) (U d k : Nat) (v : Nat → Int64) : Prop := (¬ ν 276 6 = 0 ∧ (∀ j, j < 96 → ν 281 j = h0 j) ∧ ν 276 11 = 0) ∧ d ≤ U ∧ U ≤ 8 ∧ d ≤ 8 ∧ k ≤ d ∧ gu ν = U - k ∧ (∀ j, j < d → v j = aR (rowK ν (U - d + j))) ∧ (∀ j, j < d → tN (rowK ν (U - d + j) 0) ≠ 0)
theorem OU.e {U k : Nat} (a : OU ν h0 U d k v) (c : CoE ρ ν) : OU ρ h0 U d k v := by
  obtain ⟨⟨a1, a2, a3⟩, a4, a5, a6, a7, a8, a9, a10⟩ := a
  have er : ∀ i, rowK ρ i = rowK ν i := fun i => by unfold rowK; rw [c.2.2.1]
  exact ⟨⟨by rw [c.2.2.2.1]; exact a1, fun j hj => by rw [c.2.2.2.2.1]; exact a2 j hj, c.2.2.2.2.2.trans a3⟩, a4, a5, a6, a7, by rw [c.n.2.2.1]; exact a8, fun j hj => by rw [er]; exact a9 j hj, fun j hj => by rw [er]; exact a10 j hj⟩
theorem OI.ud {n : Nat} (a : OI ν h0 n d v) (hn : n ≤ 8) : OU ν h0 (gu ν) d 0 v := by
  obtain ⟨⟨a1, a2, a3, a4⟩, a5, a6, a7, a8, a9⟩ := a
  exact ⟨⟨a1, a2, a4⟩, a6, a7, by omega, by omega, by omega, a8, fun j hj => by have := a9 j hj; omega⟩
/-- one change undone -/
theorem OU.s {U k : Nat} (a : OU ν h0 U d k v) (hk : k < d) : (unG ν).1 = nI (U - (k + 1)) ∧ OU (unG ν).2 h0 U d (k + 1) v ∧ aS (unG ν).2 = v (d - (k + 1)) ∧ ¬ gn (unG ν).2 = 0 := by
  obtain ⟨⟨a1, a2, a3⟩, a4, a5, a6, a7, a8, a9, a10⟩ := a
  obtain ⟨p1, p2, p3, p4, p5, p6, p7⟩ := un_p (μ := ν) (u := U - (k + 1)) (by omega)
  have er : ∀ i, rowK (unG ν).2 i = rowK ν i := fun i => by unfold rowK; rw [p4]
  have ej : U - d + (d - (k + 1)) = U - (k + 1) := by omega
  refine ⟨p1, ⟨⟨by rw [p5]; exact a1, fun j hj => by rw [p6]; exact a2 j hj, by rw [p7]; exact a3⟩, a4, a5, a6, hk, ?_, fun j hj => by rw [er]; exact a9 j hj, fun j hj => by rw [er]; exact a10 j hj⟩, ?_, ?_⟩
  · show tN ((unG ν).2 276 4) = _
    rw [p3]; exact tN_nI (by omega)
  · rw [a9 (d - (k + 1)) (by omega), ej]
    exact aR_e p2
  · have := a10 (d - (k + 1)) (by omega)
    rw [ej] at this
    show ¬ tN ((unG ν).2 277 0) = 0
    rw [p2 0 (by omega)]; exact this
/-- what was saved comes back -/
theorem rs_B (a1 : ¬ ν 276 6 = 0) (a2 : ∀ j, j < 96 → ν 281 j = h0 j) (a3 : ν 276 11 = 0) (hn : 2 ≤ tN (h0 0)) : (rsG ν).1 = h0 0 ∧ OB (rsG ν).2 h0 ∧ gu (rsG ν).2 = 0 := by
  obtain ⟨p1, p2, p3, p4, p5, p6, p7⟩ := rs_p a1
  refine ⟨p1.trans (a2 0 (by omega)), ⟨⟨fun j hj => (p2 j hj).trans (a2 j hj), ?_, p7.trans a3⟩, by rw [p5]; exact a1, fun j hj => by rw [p6]; exact a2 j hj⟩, ?_⟩
  · show 2 ≤ tN ((rsG ν).2 277 0)
    rw [p2 0 (by omega), a2 0 (by omega)]; exact hn
  · show tN ((rsG ν).2 276 4) = 0
    rw [p3]; decide
end LOO
section LOR
variable {p : Program} {l : Launch} {e : Env} {R : Room} {s : State} {m : MethodId} {args : Array Value} {below : List Frame} {meth : Method} {c : Code} {H : Heap} {locs : List Loc} {Q : State → Prop}
variable {cc : ByteArray} {nL : Nat} {own : String} {pc : Nat} {ls : Array Slot} {rest : List Value}
variable {D : va_G} {ct : Nat → ClassId} {ek ad cs : Nat → Nat} {N0 qw : Nat} {X : va_W} {F : State → Prop} {μ : Mem} {c0 : Nat} {v : Nat → Int64}
/-- the law asks -/
theorem gAsk {idx : Nat} (c1 : Nat) (S : CallFix p m c cc nL s args BW own) (G : GI D ct ek ad N0 X F s) (hF : ∀ U, F U → FX ek cs N0 U) (hY : ∀ U, F U → FY U) (hlt : l.stackTraces = false) (hl : Cond.methodLink own idx yL_asks ∈ BW) (hn : ¬ gn μ = 0) (hW : wG D ct ek ad X μ H) (hS : va_S (fr N0) s.heap H locs) (hls : ls.size = nL) (hR : 10 ≤ R.frames ∧ 320 ≤ R.locals) (hrest : (rest.map fun v => v.category).sum ≤ 8) (hc : c0 + 1000 ≤ c1 ∧ c1 ≤ R.cells ∧ 6 * c1 ≤ R.slots) (hdg : decode cc pc = .ok (.invokestatic idx, 3))
    (kk : ∀ (ν : Mem) (H : Heap) (locs : List Loc), CoE ν μ → wG D ct ek ad X ν H → va_S (fr N0) s.heap H locs → W p l e R s m args below meth c H locs c1 (6 * c1) Q (F0 m (pc + 3) ls (.long (aS μ) :: rest))) : W p l e R s m args below meth c H locs c0 (6 * c0) Q (F0 m pc ls (.ref (ad 0) :: rest)) := by
  have hn' : ¬ gn (nrm μ) = 0 := by rw [nrm_E.n.1]; exact hn
  refine gcSl (As := [.ref (ad 0)]) c1 S G (k_asks l cs hF hY hlt (nrm μ) hn') cks_yL_asks hl (wG_nrm hW) hS hls ⟨hR.1, by have := hR.2; omega⟩ rfl rfl hrest hc hdg (fun r ν H locs hq hP hS => ?_)
  obtain ⟨hq1, hq2⟩ := hq
  rw [hq1, nrm_77]
  refine kk ν H locs ?_ hP hS
  rw [hq2]
  exact CoE.ln.tr nrm_E
theorem wa_at {σ : Mem} : (wl ct ek ad σ ++ waX ct qw v)[276]? = some (qw, .inl (ct 6, 9, .inr (.inl v))) := by
  rw [List.getElem?_append_right (by rw [wl_len]; omega), wl_len]; rfl
theorem wa_set {σ : Mem} {v' : Nat → Int64} : (wl ct ek ad σ ++ waX ct qw v).set 276 (qw, .inl (ct 6, 9, .inr (.inl v'))) = wl ct ek ad σ ++ waX ct qw v' := by
  rw [List.set_append_right _ _ (by rw [wl_len]; omega), wl_len]; rfl
theorem GI.wa (h : GI D ct ek ad N0 (waX ct qw v) F s) {v' : Nat → Int64} : GI D ct ek ad N0 (waX ct qw v') F s := by
  obtain ⟨h1, h2, h3⟩ := h
  exact ⟨h1, va_D_fst h2 (by rw [List.map_append, List.map_append]; exact congrArg (List.map Prod.fst (wl ct ek ad (fun _ _ => 0)) ++ ·) rfl), h3⟩
theorem wa_st {i : Nat} {x : Int64} {cells slots : Nat} (S : CallFix p m c cc nL s args BW own) (G : GI D ct ek ad N0 (waX ct qw v) F s) (hW : wG D ct ek ad (waX ct qw v) μ H) (hS : va_S (fr N0) s.heap H locs) (hi : i < 9) (hdg : decode cc pc = .ok (.lastore, 1))
    (kk : ∀ (H : Heap) (locs : List Loc), wG D ct ek ad (waX ct qw (vp_updL v i x)) μ H → va_S (fr N0) s.heap H locs → W p l e R s m args below meth c H locs cells slots Q (F0 m (pc + 1) ls rest)) : W p l e R s m args below meth c H locs cells slots Q (F0 m pc ls (.long x :: .int (nI i) :: .ref qw :: rest)) := by
  obtain ⟨σ, hP, hC⟩ := hW
  refine va_last (D := D) S.1 S.2.1 G.1 hP (va_D.mem G.2.1) hS 276 6 wa_at rfl (vp_in_nI hi (by decide)) hdg ?_
  intro H1 locs1 h3 _ h5
  rw [wa_set, nI_clamp (show i < 2 ^ 31 by omega)] at h3
  exact kk H1 locs1 ⟨σ, h3, hC⟩ h5
theorem wa_ld {i : Nat} {cells slots : Nat} (S : CallFix p m c cc nL s args BW own) (G : GI D ct ek ad N0 (waX ct qw v) F s) (hW : wG D ct ek ad (waX ct qw v) μ H) (hi : i < 9) (hdg : decode cc pc = .ok (.laload, 1))
    (kk : W p l e R s m args below meth c H locs cells slots Q (F0 m (pc + 1) ls (.long (v i) :: rest))) : W p l e R s m args below meth c H locs cells slots Q (F0 m pc ls (.int (nI i) :: .ref qw :: rest)) := by
  obtain ⟨σ, hP, hC⟩ := hW
  refine va_lald (D := D) S.1 S.2.1 G.1 hP 276 6 wa_at rfl (vp_in_nI hi (by decide)) hdg ?_
  rw [nI_clamp (show i < 2 ^ 31 by omega)]
  exact kk
/-- the row of nine longs is made -/
theorem wa_nw {cells : Nat} (c1 : Nat) (S : CallFix p m c cc nL s args BW own) (X0 : GX D ct N0 F s) (G : GI D ct ek ad N0 [] F s) (hW : wG D ct ek ad [] μ H) (hS : va_S (fr N0) s.heap H locs) (hc : cells + 2 ≤ c1 ∧ c1 ≤ R.cells ∧ 6 * c1 ≤ R.slots) (hdg : decode cc pc = .ok (.newarray .long, 2))
    (kk : ∀ (qw : Nat) (H : Heap), (∀ v, GI D ct ek ad N0 (waX ct qw v) F s) → wG D ct ek ad (waX ct qw (fun _ => 0)) μ H → va_S (fr N0) s.heap H locs → W p l e R s m args below meth c H locs c1 (6 * c1) Q (F0 m (pc + 2) ls (.ref qw :: rest))) : W p l e R s m args below meth c H locs cells (6 * cells) Q (F0 m pc ls (.int 9 :: rest)) := by
  obtain ⟨σ, hP, hC⟩ := hW
  refine nA 6 S X0 hP (va_D.mem G.2.1) hS (atype := .long) (ty := .long) (a0 := (9, .inr (.inl (fun _ => 0)))) (N' := 9) rfl ac_long rfl (fun _ _ h => h) (fun _ => rfl) (by decide) (by decide) (by decide) ⟨by omega, by omega⟩ hdg (fun qw H hP hD hS => ?_)
  rw [List.append_assoc] at hP hD
  have hD2 : va_D (fr N0) (wl ct ek ad (fun _ _ => 0) ++ waX ct qw (fun _ => 0)) := va_D.mem hD
  have G0 : GI D ct ek ad N0 (waX ct qw (fun _ => 0)) F s := ⟨G.1, hD2, G.2.2⟩
  exact W.widen (k := c1) (n := 6 * c1) (by omega) (by omega) (kk qw H (fun v => G0.wa) ⟨σ, hP, hC⟩ hS)
end LOR

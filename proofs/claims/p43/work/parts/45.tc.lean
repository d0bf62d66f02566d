/-! the class's text: plain functions -/
theorem kE {σ : Mem} {b j : Nat} {ek : Nat → Nat} (h : σ b 0 = nI j) (hj : j < 8) : some (Value.ref (ek (σ b 0).toNatClampNeg)) = some (Value.ref (ek j)) := by
  rw [h, nI_clamp (by omega)]
/-- what reading changes: the text's own numbers (from place f on), and the numbers' row -/
def RdP (τ σ : Mem) : Prop := (∀ c, c ≠ 239 → c ≠ 242 → τ c = σ c) ∧ ∀ j, j < 5 → τ 239 j = σ 239 j
/-- in the midst of a command: k parts are read, the place is p, nc numbers are told -/
def RdA (τ σ : Mem) (T : Nat → Int32) (L a : Nat) (l : List Int32) (k p nc : Nat) : Prop :=
  RdP τ σ ∧ τ 239 6 = nI p ∧ τ 239 5 = nI nc ∧ (∀ i, i < nc → τ 242 i = (psN T L l a 0).getD i 0) ∧ (psN T L l a 0).drop nc = psN T L (l.drop k) p (τ 239 7) ∧ nc ≤ (psN T L l a 0).length ∧
  psV T L l a = psV T L (l.drop k) p ∧ psE T L l a = psE T L (l.drop k) p
def rdN (σ : Mem) (T : Nat → Int32) (L a m nc : Nat) : Mem := if dgR T L a m = 0 then σ else sg (sg (sg σ 239 6 (nI (a + dgs T L a m))) 242 nc (sgd (σ 239 7) (dgV T a (dgs T L a m)))) 239 5 (nI (nc + 1))
def rdM (σ : Mem) (T : Nat → Int32) (L a nc : Nat) (c : Int32) : Mem :=
  if c = 43 then sg (sg σ 239 7 (nxV T L a 45)) 239 6 (nI (nxE T L a (sgC T L a))) else if c = 48 then rdN σ T L a 1 nc else if c = 57 then rdN σ T L a 2 nc else sg σ 239 6 (nI (nxE T L a c))
theorem nxV_b {T : Nat → Int32} {L a : Nat} {c : Int32} : nxV T L a c = 0 ∨ nxV T L a c = 1 := by
  unfold nxV; split
  · exact Or.inl rfl
  · split
    · exact Or.inr rfl
    · exact Or.inl rfl
theorem nxV_nar {T : Nat → Int32} {L a : Nat} {c : Int32} : narrow .boolean (.int (nxV T L a c)) = .int (nxV T L a c) := by
  rcases nxV_b (T := T) (L := L) (a := a) (c := c) with h | h <;> rw [h] <;> rfl
theorem dgR_nar {T : Nat → Int32} {L a m : Nat} : narrow .boolean (.int (dgR T L a m)) = .int (dgR T L a m) := by
  unfold dgR; split <;> rfl
theorem ptV_nar {T : Nat → Int32} {L a : Nat} {c : Int32} : narrow .boolean (.int (ptV T L a c)) = .int (ptV T L a c) := by
  unfold ptV; split
  · exact nxV_nar
  · split
    · exact dgR_nar
    · split
      · exact dgR_nar
      · exact nxV_nar
theorem RdP_0 {σ : Mem} : RdP σ σ := ⟨fun _ _ _ => rfl, fun _ _ => rfl⟩
theorem RdP_s {τ σ : Mem} {k : Nat} {x : Int32} (h : RdP τ σ) (hk : 5 ≤ k) : RdP (sg τ 239 k x) σ := ⟨fun c h1 h2 => by rw [sg_n h1, h.1 c h1 h2], fun j hj => by rw [sg_at, if_neg (fun z => by omega), h.2 j hj]⟩
theorem RdP_n {τ σ : Mem} {k : Nat} {x : Int32} (h : RdP τ σ) : RdP (sg τ 242 k x) σ := ⟨fun c h1 h2 => by rw [sg_n h2, h.1 c h1 h2], fun j hj => by rw [sg_n (by decide), h.2 j hj]⟩
theorem psN_43 {T : Nat → Int32} {L p : Nat} {r : List Int32} {ng : Int32} : psN T L (43 :: r) p ng = psN T L r (ptE T L p 43) (nxV T L p 45) := by rw [psN, if_pos rfl]
theorem psN_48 {T : Nat → Int32} {L p : Nat} {r : List Int32} {ng : Int32} : psN T L (48 :: r) p ng = sgd ng (dgV T p (dgs T L p 1)) :: psN T L r (ptE T L p 48) ng := by rw [psN, if_neg (by decide), if_pos rfl]
theorem psN_57 {T : Nat → Int32} {L p : Nat} {r : List Int32} {ng : Int32} : psN T L (57 :: r) p ng = sgd ng (dgV T p (dgs T L p 2)) :: psN T L r (ptE T L p 57) ng := by rw [psN, if_neg (by decide), if_neg (by decide), if_pos rfl]
theorem psN_x {T : Nat → Int32} {L p : Nat} {c : Int32} {r : List Int32} {ng : Int32} (h : c ≠ 43 ∧ c ≠ 48 ∧ c ≠ 57) : psN T L (c :: r) p ng = psN T L r (ptE T L p c) ng := by rw [psN, if_neg h.1, if_neg h.2.1, if_neg h.2.2]
theorem drop_ge {α : Type} {l r : List α} {n : Nat} {x : α} (h : l.drop n = x :: r) : n < l.length ∧ l[n]? = some x ∧ l.drop (n + 1) = r := by
  have hl : n < l.length := by
    rcases Nat.lt_or_ge n l.length with g | g
    · exact g
    · rw [List.drop_eq_nil_of_le g] at h; cases h
  have e := List.drop_eq_getElem_cons hl
  rw [e] at h
  injection h with h1 h2
  exact ⟨hl, by rw [List.getElem?_eq_getElem hl, h1], h2⟩
/-- one part is read -/
theorem RdA_s {τ σ : Mem} {T : Nat → Int32} {L a k p nc : Nat} {l r : List Int32} {c : Int32} (h : RdA τ σ T L a l k p nc) (hd : l.drop k = c :: r) (hv : ¬ ptV T L p c = 0) : ∃ nc', RdA (rdM τ T L p nc c) σ T L a l (k + 1) (ptE T L p c) nc' := by
  obtain ⟨h1, h2, h3, h4, h5, h6, h7, h8⟩ := h
  obtain ⟨-, -, d1⟩ := drop_ge hd
  rw [hd] at h5 h7 h8
  rw [psV, if_neg hv] at h7
  rw [psE, if_neg hv] at h8
  by_cases c43 : c = 43
  · subst c43
    rw [psN_43] at h5
    have e : rdM τ T L p nc 43 = sg (sg τ 239 7 (nxV T L p 45)) 239 6 (nI (nxE T L p (sgC T L p))) := if_pos rfl
    refine ⟨nc, ?_⟩
    rw [e]
    refine ⟨RdP_s (RdP_s h1 (by decide)) (by decide), ?_, ?_, fun i hi => ?_, ?_, h6, by rw [d1]; exact h7, by rw [d1]; exact h8⟩
    · rw [sg_ss, pt43.2]
    · simp only [sg_at]; simp; exact h3
    · rw [sg_n (by decide), sg_n (by decide)]; exact h4 i hi
    · rw [h5, d1]
      congr 1
  · by_cases c48 : c = 48
    · subst c48
      rw [psN_48] at h5
      obtain ⟨n1, n2, n3⟩ := drop_ge h5
      have hv2 : ¬ dgR T L p 1 = 0 := by rw [← pt48.1]; exact hv
      have e : rdM τ T L p nc 48 = sg (sg (sg τ 239 6 (nI (p + dgs T L p 1))) 242 nc (sgd (τ 239 7) (dgV T p (dgs T L p 1)))) 239 5 (nI (nc + 1)) := by
        unfold rdM; rw [if_neg (by decide), if_pos rfl]; unfold rdN; rw [if_neg hv2]
      refine ⟨nc + 1, ?_⟩
      rw [e]
      refine ⟨RdP_s (RdP_n (RdP_s h1 (by decide))) (by decide), ?_, sg_ss, fun i hi => ?_, ?_, n1, by rw [d1]; exact h7, by rw [d1]; exact h8⟩
      · simp only [sg_at]; simp; rw [pt48.2]
      · rw [sg_n (by decide), sg_at]
        by_cases hin : i = nc
        · subst hin; rw [if_pos ⟨rfl, rfl⟩, List.getD_eq_getElem?_getD, n2]; rfl
        · rw [if_neg (fun z => hin z.2), sg_n (by decide)]; exact h4 i (by omega)
      · rw [n3, d1]
        congr 1
    · by_cases c57 : c = 57
      · subst c57
        rw [psN_57] at h5
        obtain ⟨n1, n2, n3⟩ := drop_ge h5
        have hv2 : ¬ dgR T L p 2 = 0 := by rw [← pt57.1]; exact hv
        have e : rdM τ T L p nc 57 = sg (sg (sg τ 239 6 (nI (p + dgs T L p 2))) 242 nc (sgd (τ 239 7) (dgV T p (dgs T L p 2)))) 239 5 (nI (nc + 1)) := by
          unfold rdM; rw [if_neg (by decide), if_neg (by decide), if_pos rfl]; unfold rdN; rw [if_neg hv2]
        refine ⟨nc + 1, ?_⟩
        rw [e]
        refine ⟨RdP_s (RdP_n (RdP_s h1 (by decide))) (by decide), ?_, sg_ss, fun i hi => ?_, ?_, n1, by rw [d1]; exact h7, by rw [d1]; exact h8⟩
        · simp only [sg_at]; simp; rw [pt57.2]
        · rw [sg_n (by decide), sg_at]
          by_cases hin : i = nc
          · subst hin; rw [if_pos ⟨rfl, rfl⟩, List.getD_eq_getElem?_getD, n2]; rfl
          · rw [if_neg (fun z => hin z.2), sg_n (by decide)]; exact h4 i (by omega)
        · rw [n3, d1]
          congr 1
      · have hx : c ≠ 43 ∧ c ≠ 48 ∧ c ≠ 57 := ⟨c43, c48, c57⟩
        rw [psN_x hx] at h5
        have e : rdM τ T L p nc c = sg τ 239 6 (nI (nxE T L p c)) := by
          unfold rdM; rw [if_neg c43, if_neg c48, if_neg c57]
        refine ⟨nc, ?_⟩
        rw [e]
        refine ⟨RdP_s h1 (by decide), ?_, ?_, fun i hi => ?_, ?_, h6, by rw [d1]; exact h7, by rw [d1]; exact h8⟩
        · rw [sg_ss, (ptx hx).2]
        · simp only [sg_at]; simp; exact h3
        · rw [sg_n (by decide)]; exact h4 i hi
        · rw [h5, d1]
          congr 1
/-- a part that doesn't fit: the place is where the command ends -/
theorem RdA_f {τ σ : Mem} {T : Nat → Int32} {L a k p nc : Nat} {l r : List Int32} {c : Int32} (h : RdA τ σ T L a l k p nc) (hd : l.drop k = c :: r) (hv : ptV T L p c = 0) : RdP (rdM τ T L p nc c) σ ∧ rdM τ T L p nc c 239 6 = nI (psE T L l a) ∧ psV T L l a = 0 := by
  obtain ⟨h1, h2, h3, h4, h5, h6, h7, h8⟩ := h
  rw [hd] at h7 h8
  rw [psV, if_pos hv] at h7
  rw [psE, if_pos hv] at h8
  refine ⟨?_, ?_, h7⟩
  · unfold rdM
    split
    · exact RdP_s (RdP_s h1 (by decide)) (by decide)
    · split
      · unfold rdN; split
        · exact h1
        · exact RdP_s (RdP_n (RdP_s h1 (by decide))) (by decide)
      · split
        · unfold rdN; split
          · exact h1
          · exact RdP_s (RdP_n (RdP_s h1 (by decide))) (by decide)
        · exact RdP_s h1 (by decide)
  · rw [h8]
    unfold rdM
    by_cases c43 : c = 43
    · subst c43; rw [if_pos rfl, sg_ss, pt43.2]
    · rw [if_neg c43]
      by_cases c48 : c = 48
      · subst c48
        have hv2 : dgR T L p 1 = 0 := by rw [← pt48.1]; exact hv
        have hd0 : dgs T L p 1 = 0 := by
          unfold dgR at hv2
          by_cases g : dgs T L p 1 = 0
          · exact g
          · rw [if_neg g] at hv2; exact absurd hv2 (by decide)
        rw [if_pos rfl, pt48.2, hd0]; unfold rdN; rw [if_pos hv2]; exact h2
      · rw [if_neg c48]
        by_cases c57 : c = 57
        · subst c57
          have hv2 : dgR T L p 2 = 0 := by rw [← pt57.1]; exact hv
          have hd0 : dgs T L p 2 = 0 := by
            unfold dgR at hv2
            by_cases g : dgs T L p 2 = 0
            · exact g
            · rw [if_neg g] at hv2; exact absurd hv2 (by decide)
          rw [if_pos rfl, pt57.2, hd0]; unfold rdN; rw [if_pos hv2]; exact h2
        · rw [if_neg c57, sg_ss, (ptx ⟨c43, c48, c57⟩).2]
theorem RdA_0 {σ : Mem} {T : Nat → Int32} {L a : Nat} {l : List Int32} (ha : σ 239 6 = nI a) : RdA (sg (sg σ 239 5 0) 239 7 0) σ T L a l 0 a 0 := by
  refine ⟨RdP_s (RdP_s RdP_0 (by decide)) (by decide), ?_, ?_, fun i hi => absurd hi (Nat.not_lt_zero _), ?_, Nat.zero_le _, rfl, rfl⟩
  · simp only [sg_at]; simp; exact ha
  · simp only [sg_at]; simp; exact nI_0.symm
  · rw [List.drop_zero, List.drop_zero, sg_ss]
/-- a command is read into change cc -/
def TxQ (τ σ : Mem) (T : Nat → Int32) (L a cc : Nat) (r : Int32) : Prop :=
  r = cmV T L a ∧ (∀ c, c ≠ 239 → c ≠ 242 → c ≠ 243 + cc → τ c = σ c) ∧ (∀ j, j < 4 → τ 239 j = σ 239 j) ∧ τ 239 6 = nI (cmE T L a) ∧
  (cmV T L a = 0 → τ 239 4 = nI cc) ∧ (¬ cmV T L a = 0 → τ 239 4 = nI (cc + 1) ∧ τ (243 + cc) 0 = nI (kf T L a) ∧ (∀ i, i < (cmN T L a).length → τ (243 + cc) (1 + i) = (cmN T L a).getD i 0) ∧ τ (243 + cc) 5 = 0)
theorem TxQ_s {τ σ : Mem} {T : Nat → Int32} {L a cc j p nc : Nat} {x y z : Int32} (hk : kf T L a = j) (hj : j < 8) (hcc : σ 239 4 = nI cc) (h : RdA τ σ T L a (strB.getD j []) (strB.getD j []).length p nc) (hx : x = τ 242 0) (hy : y = τ 242 1) (hz : z = τ 242 2) : TxQ (sg (askM τ (243 + cc) j x y z) 239 4 (nI (cc + 1))) σ T L a cc 1 := by
  obtain ⟨h1, h2, h3, h4, h5, h6, h7, h8⟩ := h
  have hd : (strB.getD j []).drop (strB.getD j []).length = [] := List.drop_length
  rw [hd] at h5 h7 h8
  have hlen : (psN T L (strB.getD j []) a 0).length = nc := by
    have := congrArg List.length h5
    rw [List.length_drop] at this
    have e : (psN T L [] p (τ 239 7)).length = 0 := rfl
    omega
  have e1 : cmV T L a = 1 := by unfold cmV; rw [if_neg (by omega), hk]; exact h7
  have e2 : cmE T L a = p := by unfold cmE; rw [if_neg (by omega), hk]; exact h8
  have e3 : cmN T L a = psN T L (strB.getD j []) a 0 := by unfold cmN; rw [hk]
  have hn3 : nc ≤ 3 := by
    rw [← hlen, psN_len hj]
    have : ∀ j, j < 8 → nmC j ≤ 3 := by decide
    exact this j hj
  refine ⟨e1.symm, fun c c1 c2 c3 => ?_, fun i hi => ?_, ?_, fun g => absurd (e1.symm.trans g) (by decide), fun _ => ⟨sg_ss, ?_, fun i hi => ?_, ?_⟩⟩
  · rw [sg_n c1]
    unfold askM
    rw [sg_n c3, sg_n c3, sg_n c3, sg_n c3, sg_n c3, sg_n c3, sg_n c3]
    exact h1.1 c c1 c2
  · rw [sg_at, if_neg (fun z => by omega)]
    unfold askM
    rw [sg_n (by omega), sg_n (by omega), sg_n (by omega), sg_n (by omega), sg_n (by omega), sg_n (by omega), sg_n (by omega)]
    exact h1.2 i (by omega)
  · rw [sg_at, if_neg (fun z => by omega), e2]
    unfold askM
    rw [sg_n (by omega), sg_n (by omega), sg_n (by omega), sg_n (by omega), sg_n (by omega), sg_n (by omega), sg_n (by omega)]
    exact h2
  · rw [sg_n (by omega), hk]
    unfold askM
    simp only [sg_at]; simp
  · rw [e3] at hi ⊢
    rw [hlen] at hi
    rw [sg_n (by omega), ← h4 i hi]
    unfold askM
    rcases (show i = 0 ∨ i = 1 ∨ i = 2 by omega) with rfl | rfl | rfl <;> simp only [sg_at] <;> simp [hx, hy, hz]
  · rw [sg_n (by omega)]
    unfold askM
    simp only [sg_at]; simp
theorem TxQ_f {τ σ : Mem} {T : Nat → Int32} {L a cc j : Nat} (hk : kf T L a = j) (hj : j < 8) (hcc : σ 239 4 = nI cc) (h : RdP τ σ) (h2 : τ 239 6 = nI (psE T L (strB.getD j []) a)) (h3 : psV T L (strB.getD j []) a = 0) : TxQ τ σ T L a cc 0 := by
  have e1 : cmV T L a = 0 := by unfold cmV; rw [if_neg (by omega), hk]; exact h3
  have e2 : cmE T L a = psE T L (strB.getD j []) a := by unfold cmE; rw [if_neg (by omega), hk]
  exact ⟨e1.symm, fun c c1 c2 _ => h.1 c c1 c2, fun i hi => h.2 i (by omega), by rw [e2]; exact h2, fun _ => (h.2 4 (by omega)).trans hcc, fun g => absurd e1 g⟩
theorem TxQ_n {σ : Mem} {T : Nat → Int32} {L a cc : Nat} (hk : kf T L a = 8) (hcc : σ 239 4 = nI cc) (ha : σ 239 6 = nI a) : TxQ σ σ T L a cc 0 := by
  have e1 : cmV T L a = 0 := if_pos hk
  have e2 : cmE T L a = a := if_pos hk
  exact ⟨e1.symm, fun _ _ _ _ => rfl, fun _ _ => rfl, by rw [e2]; exact ha, fun _ => hcc, fun g => absurd e1 g⟩
theorem strL_len : ∀ j, j < 9 → strL.getD j 0 = (strB.getD j []).length := by decide +kernel
theorem str_drop {j k : Nat} (hj : j < 9) (hk : k < strL.getD j 0) : ∃ r, (strB.getD j []).drop k = chB j k :: r := by
  have hl : k < (strB.getD j []).length := by rw [← strL_len j hj]; exact hk
  refine ⟨(strB.getD j []).drop (k + 1), ?_⟩
  rw [List.drop_eq_getElem_cons hl]
  congr 1
  unfold chB
  clear hk
  generalize strB.getD j [] = l at hl ⊢
  rw [List.getD_eq_getElem?_getD, List.getElem?_eq_getElem hl]; rfl
theorem kfS_s {T : Nat → Int32} {L a d j : Nat} : kfS T L a (d + 1) j = if nxV T L a (chB j 0) = 0 then kfS T L a d (j + 1) else j := rfl
/-- more numbers stand behind: there is room for them -/
theorem RdA_nc {τ σ : Mem} {T : Nat → Int32} {L a j k p nc : Nat} {r : List Int32} {c : Int32} (hj : j < 8) (h : RdA τ σ T L a (strB.getD j []) k p nc) (hd : (strB.getD j []).drop k = c :: r) : c = 48 ∨ c = 57 → nc < 3 := by
  intro hc
  have h5 := h.2.2.2.2.1
  rw [hd] at h5
  have hl := psN_len (T := T) (L := L) (a := a) hj
  have : ∀ j, j < 8 → nmC j ≤ 3 := by decide
  have := this j hj
  rcases hc with rfl | rfl
  · rw [psN_48] at h5
    have := (drop_ge h5).1
    omega
  · rw [psN_57] at h5
    have := (drop_ge h5).1
    omega
theorem str_pos : ∀ j, j < 9 → 0 < (strB.getD j []).length := by decide +kernel
theorem cmV_nar {T : Nat → Int32} {L a : Nat} : narrow .boolean (.int (cmV T L a)) = .int (cmV T L a) := by
  rcases cmV_b (T := T) (L := L) (a := a) with h | h <;> rw [h] <;> rfl
theorem rn_fin {σ : Mem} {L a mm nc k : Nat} (h1 : 0 < mm) (hc : ¬ dgC (σ 240) L a = 0) (hm : dgs (σ 240) L a mm = k) : (1 : Int32) = dgR (σ 240) L a mm ∧ sg (sg (sg σ 239 6 (nI (a + k))) 242 nc (sgd (σ 239 7) (dgV (σ 240) a k))) 239 5 (nI (nc + 1)) = rdN σ (σ 240) L a mm nc := by
  have h0 : ¬ dgs (σ 240) L a mm = 0 := by
    obtain ⟨m9, rfl⟩ : ∃ m9, mm = m9 + 1 := ⟨mm - 1, by omega⟩
    rw [dgs_s, if_neg hc]; omega
  have hr : dgR (σ 240) L a mm = 1 := by unfold dgR; rw [if_neg h0]
  refine ⟨hr.symm, ?_⟩
  unfold rdN
  rw [if_neg (by rw [hr]; decide), hm]
theorem nxV_fit {T : Nat → Int32} {L a : Nat} {c : Int32} : fits .boolean (.int (nxV T L a c)) = true := by
  rcases nxV_b (T := T) (L := L) (a := a) (c := c) with h | h <;> rw [h] <;> rfl

/-! camps, told the same by both -/
section CBS
variable {σ μ : Mem} {pb n p : Nat} {h : Nat → Int32}
theorem alIn_b {x a : Int32} {q : Nat} (ha : Msk a) : ∀ t, t ≤ 6 → Msk (alIn σ pb x q a t) ∧ ∀ z, z < 6 → (bt (alIn σ pb x q a t) z ↔ bt a z ∨ (bt x q ∧ z < t ∧ ¬ alliedB σ pb q z = 0))
  | 0, _ => ⟨ha, fun z hz => ⟨fun y => Or.inl y, fun y => y.resolve_right (fun w => absurd w.2.1 (Nat.not_lt_zero _))⟩⟩
  | t + 1, ht => by
    obtain ⟨i1, i2⟩ := alIn_b (x := x) (q := q) ha t (by omega)
    rw [alIn_s]
    by_cases c : bitV x q = 0
    · rw [if_pos c]
      exact ⟨i1, fun z hz => (i2 z hz).trans ⟨fun y => y.imp_right (fun w => absurd c w.1), fun y => y.imp_right (fun w => absurd c w.1)⟩⟩
    · rw [if_neg c]
      by_cases d : alliedB σ pb q t = 0
      · rw [if_pos d]
        refine ⟨i1, fun z hz => (i2 z hz).trans ⟨fun y => y.imp_right (fun w => ⟨w.1, by omega, w.2.2⟩), fun y => y.imp_right (fun w => ⟨w.1, ?_, w.2.2⟩)⟩⟩
        by_cases e : z = t
        · subst e; exact absurd d w.2.2
        · omega
      · rw [if_neg d]
        refine ⟨i1.one (by omega), fun z hz => ?_⟩
        rw [bt_one i1 (by omega) hz, i2 z hz]
        constructor
        · rintro ((y | y) | y)
          · exact Or.inl y
          · exact Or.inr ⟨y.1, by omega, y.2.2⟩
          · subst y; exact Or.inr ⟨c, by omega, d⟩
        · rintro (y | y)
          · exact Or.inl (Or.inl y)
          · by_cases e : z = t
            · exact Or.inr e
            · exact Or.inl (Or.inr ⟨y.1, by omega, y.2.2⟩)
theorem alV_b {x : Int32} (hn : n ≤ 6) : ∀ k, k ≤ 6 → Msk (alV σ pb n x k) ∧ ∀ z, z < 6 → (bt (alV σ pb n x k) z ↔ ∃ q, q < k ∧ bt x q ∧ z < n ∧ ¬ alliedB σ pb q z = 0)
  | 0, _ => ⟨Msk.z, fun z hz => ⟨fun y => absurd y (bt_0 hz), fun ⟨q, hq, _⟩ => absurd hq (Nat.not_lt_zero _)⟩⟩
  | k + 1, hk => by
    obtain ⟨i1, i2⟩ := alV_b (x := x) hn k (by omega)
    obtain ⟨j1, j2⟩ := alIn_b (x := x) (q := k) (σ := σ) (pb := pb) i1 n hn
    rw [alV_s]
    refine ⟨j1, fun z hz => ?_⟩
    rw [j2 z hz, i2 z hz]
    constructor
    · rintro (⟨q, y1, y2⟩ | y)
      · exact ⟨q, by omega, y2⟩
      · exact ⟨k, by omega, y.1, y.2.1, y.2.2⟩
    · rintro ⟨q, y1, y2⟩
      by_cases e : q = k
      · subst e; exact Or.inr y2
      · exact Or.inl ⟨q, by omega, y2⟩
theorem cpIt_b (hn : n ≤ 6) (hp : p < n) : ∀ t, Msk (cpIt σ pb n p t) ∧ ∀ z, z < 6 → (bt (cpIt σ pb n p (t + 1)) z ↔ bt (cpIt σ pb n p t) z ∨ ∃ q, q < n ∧ bt (cpIt σ pb n p t) q ∧ z < n ∧ ¬ alliedB σ pb q z = 0)
  | 0 => by
    have m : Msk (cpIt σ pb n p 0) := Msk.p (by omega)
    obtain ⟨a1, a2⟩ := alV_b (σ := σ) (pb := pb) (x := cpIt σ pb n p 0) hn n hn
    refine ⟨m, fun z hz => ?_⟩
    rw [cpIt_s, bt_or m a1 hz, a2 z hz]
  | t + 1 => by
    have m0 := (cpIt_b hn hp t).1
    obtain ⟨a1, a2⟩ := alV_b (σ := σ) (pb := pb) (x := cpIt σ pb n p t) hn n hn
    have m : Msk (cpIt σ pb n p (t + 1)) := by rw [cpIt_s]; exact m0.or a1
    obtain ⟨b1, b2⟩ := alV_b (σ := σ) (pb := pb) (x := cpIt σ pb n p (t + 1)) hn n hn
    refine ⟨m, fun z hz => ?_⟩
    rw [cpIt_s, bt_or m b1 hz, b2 z hz]
theorem cpIt_in (hn : n ≤ 6) (hp : p < n) : ∀ t, bt (cpIt σ pb n p t) p ∧ ∀ z, z < 6 → bt (cpIt σ pb n p t) z → z < n
  | 0 => ⟨(bt_p (by omega) (by omega)).mpr rfl, fun z hz y => by have := (bt_p (r := p) (by omega) hz).mp y; omega⟩
  | t + 1 => by
    obtain ⟨i1, i2⟩ := cpIt_in hn hp t
    obtain ⟨j1, j2⟩ := cpIt_b (σ := σ) (pb := pb) hn hp t
    refine ⟨(j2 p (by omega)).mpr (Or.inl i1), fun z hz y => ?_⟩
    rcases (j2 z hz).mp y with w | ⟨q, w⟩
    · exact i2 z hz w
    · exact w.2.2.1
theorem cpIt_cl (hn : n ≤ 6) (hp : p < n) {q z : Nat} (hq : q < n) (hz : z < n) (h1 : bt (cpIt σ pb n p (n - 1)) q) (h2 : ¬ alliedB σ pb q z = 0) : bt (cpIt σ pb n p (n - 1)) z := by
  have B := cpIt_b (σ := σ) (pb := pb) hn hp
  have I := cpIt_in (σ := σ) (pb := pb) hn hp
  have g := grow (V := cpIt σ pb n p) hn (fun k => (B k).1) (fun k q hq y => ((B k).2 q hq).mpr (Or.inl y)) (fun k q hq y => (I k).2 q hq y) (by
    have := (cn_mono (v := 0) (w := cpIt σ pb n p 0) n (fun q hq y => absurd y (bt_0 (by omega)))).2 ⟨p, hp, (I 0).1, bt_0 (by omega)⟩
    omega) (fun k y => by rw [cpIt_s, y, ← cpIt_s, y]) (n - 1)
  rcases g with g | g
  · exact cn_all n (by have := cn_le (cpIt σ pb n p (n - 1)) n; omega) z hz
  · rw [← g]
    exact ((B (n - 1)).2 z (by omega)).mpr (Or.inr ⟨q, hq, h1, hz, h2⟩)
theorem cpIt_mn (hn : n ≤ 6) (hp : p < n) {C : Nat → Prop} (h0 : C p) (hc : ∀ q z, q < n → z < n → C q → ¬ alliedB σ pb q z = 0 → C z) : ∀ t z, z < 6 → bt (cpIt σ pb n p t) z → C z
  | 0, z, hz, y => by rw [(bt_p (r := p) (by omega) hz).mp y]; exact h0
  | t + 1, z, hz, y => by
    rcases ((cpIt_b (σ := σ) (pb := pb) hn hp t).2 z hz).mp y with w | ⟨q, w1, w2, w3, w4⟩
    · exact cpIt_mn hn hp h0 hc t z hz w
    · exact hc q z w1 w3 (cpIt_mn hn hp h0 hc t q (by omega) w2) w4
def E9 (h : Nat → Int32) (p a z : Nat) : Prop := ¬ h (36 + 6 * a + z) ≤ 0 ∧ sdR h z = sdR h p
theorem cmI_b {a : Nat} {x : Int32} (hx : Msk x) : ∀ t, t ≤ 6 → Msk (cmI h p a t x) ∧ ∀ z, z < 6 → (bt (cmI h p a t x) z ↔ bt x z ∨ (z < t ∧ E9 h p a z))
  | 0, _ => ⟨hx, fun z hz => ⟨fun y => Or.inl y, fun y => y.resolve_right (fun w => absurd w.1 (Nat.not_lt_zero _))⟩⟩
  | t + 1, ht => by
    obtain ⟨i1, i2⟩ := cmI_b (a := a) hx t (by omega)
    rw [cmI_s]
    have same : ¬ E9 h p a t → ∀ z, z < 6 → (bt (cmI h p a t x) z ↔ bt x z ∨ (z < t + 1 ∧ E9 h p a z)) := fun ne z hz => by
      rw [i2 z hz]
      refine ⟨fun y => y.imp_right (fun w => ⟨by omega, w.2⟩), fun y => y.imp_right (fun w => ⟨?_, w.2⟩)⟩
      by_cases e : z = t
      · subst e; exact absurd w.2 ne
      · omega
    by_cases c : h (36 + 6 * a + t) ≤ 0
    · rw [if_pos c]; exact ⟨i1, same (fun y => y.1 c)⟩
    · rw [if_neg c]
      by_cases d : sdR h t = sdR h p
      · rw [if_pos d]
        refine ⟨i1.one (by omega), fun z hz => ?_⟩
        rw [bt_one i1 (by omega) hz, i2 z hz]
        constructor
        · rintro ((y | y) | y)
          · exact Or.inl y
          · exact Or.inr ⟨by omega, y.2⟩
          · subst y; exact Or.inr ⟨by omega, c, d⟩
        · rintro (y | y)
          · exact Or.inl (Or.inl y)
          · by_cases e : z = t
            · exact Or.inr e
            · exact Or.inl (Or.inr ⟨by omega, y.2⟩)
      · rw [if_neg d]; exact ⟨i1, same (fun y => d y.2)⟩
theorem cmA_b {x : Int32} (hn : n ≤ 6) (hx : Msk x) : ∀ k, k ≤ 6 → Msk (cmA h n p k x) ∧ (∀ z, z < 6 → bt x z → bt (cmA h n p k x) z) ∧ (∀ a z, a < k → z < n → bt x a → E9 h p a z → bt (cmA h n p k x) z) ∧ ∀ C : Nat → Prop, (∀ z, z < 6 → bt x z → C z) → (∀ q z, q < k → z < n → C q → E9 h p q z → C z) → ∀ z, z < 6 → bt (cmA h n p k x) z → C z
  | 0, _ => ⟨hx, fun z hz y => y, fun a z ha => absurd ha (Nat.not_lt_zero _), fun C h1 _ z hz y => h1 z hz y⟩
  | k + 1, hk => by
    obtain ⟨i1, i2, i3, i4⟩ := cmA_b hn hx k (by omega)
    rw [cmA_s]
    by_cases c : bitV (cmA h n p k x) k = 0
    · rw [if_pos c]
      refine ⟨i1, i2, fun a z ha hz y1 y2 => ?_, fun C h1 h2 z hz y => i4 C h1 (fun q z hq => h2 q z (by omega)) z hz y⟩
      by_cases e : a = k
      · subst e; exact absurd c (i2 a (by omega) y1)
      · exact i3 a z (by omega) hz y1 y2
    · rw [if_neg c]
      obtain ⟨j1, j2⟩ := cmI_b (h := h) (p := p) (a := k) i1 n hn
      refine ⟨j1, fun z hz y => (j2 z hz).mpr (Or.inl (i2 z hz y)), fun a z ha hz y1 y2 => ?_, fun C h1 h2 z hz y => ?_⟩
      · by_cases e : a = k
        · subst e; exact (j2 z (by omega)).mpr (Or.inr ⟨hz, y2⟩)
        · exact (j2 z (by omega)).mpr (Or.inl (i3 a z (by omega) hz y1 y2))
      · have ih := i4 C h1 (fun q z hq => h2 q z (by omega))
        rcases (j2 z hz).mp y with w | w
        · exact ih z hz w
        · exact h2 k z (by omega) w.1 (ih k (by omega) c) w.2
theorem cmK_b (hn : n ≤ 6) (hp : p < n) : ∀ k, Msk (cmK h n p k) ∧ bt (cmK h n p k) p ∧ ∀ C : Nat → Prop, C p → (∀ q z, q < n → z < n → C q → E9 h p q z → C z) → ∀ z, z < 6 → bt (cmK h n p k) z → C z
  | 0 => ⟨Msk.p (by omega), (bt_p (by omega) (by omega)).mpr rfl, fun C h0 _ z hz y => by rw [(bt_p (r := p) (by omega) hz).mp y]; exact h0⟩
  | k + 1 => by
    obtain ⟨i1, i2, i3⟩ := cmK_b hn hp k
    obtain ⟨j1, j2, j3, j4⟩ := cmA_b (h := h) (p := p) hn i1 n hn
    rw [cmK_s]
    exact ⟨j1, j2 p (by omega) i2, fun C h0 hc z hz y => j4 C (fun z hz y => i3 C h0 hc z hz y) hc z hz y⟩
theorem cmK_cl (hn : n ≤ 6) (hp : p < n) {q z : Nat} (hq : q < n) (hz : z < n) (h1 : bt (cmK h n p 6) q) (h2 : E9 h p q z) : bt (cmK h n p 6) z := by
  have B := cmK_b (h := h) hn hp
  have A := fun k => cmA_b (h := h) (p := p) hn (B k).1 n hn
  have g := grow (V := cmK h n p) hn (fun k => (B k).1) (fun k q hq y => by rw [cmK_s]; exact (A k).2.1 q hq y) (fun k q hq y => (B k).2.2 (fun z => z < n) hp (fun _ z _ hz _ _ => hz) q hq y) (by
    have := (cn_mono (v := 0) (w := cmK h n p 0) n (fun q hq y => absurd y (bt_0 (by omega)))).2 ⟨p, hp, (B 0).2.1, bt_0 (by omega)⟩
    omega) (fun k y => by rw [cmK_s, y, ← cmK_s, y]) 6
  rcases g with g | g
  · have := cn_le (cmK h n p 6) n; omega
  · rw [← g, cmK_s]
    exact (A 6).2.2.1 q z hq hz h1 h2
end CBS
section CBT
variable {σ μ : Mem} {n mb p : Nat}
theorem al_e (hw : WF (μ 277) n mb) (hg : HR σ 1 (μ 277)) {q z : Nat} (hq : q < 6) (hz : z < 6) : ¬ alliedB σ (1 + 1) q z = 0 ↔ ¬ μ 277 (36 + 6 * q + z) ≤ 0 ∧ ¬ sdR (μ 277) q = 0 ∧ sdR (μ 277) q = sdR (μ 277) z := by
  unfold alliedB
  rw [show σ (1 + 1 + 7 + q) z = _ from (hg.1.2 q hq).2.2.2 z hz, q_lean hg hq, q_lean hg hz]
  obtain ⟨k, hk, e⟩ := hw.1.2.2.2.2.2.1 q z hq hz
  rw [e]
  have w : nI k = 0 ↔ nI k ≤ 0 := by
    by_cases c : k = 0
    · subst c; decide
    · exact ⟨fun y => absurd y (nI_ne0 (by omega) (by omega)), fun y => absurd y (nI_nle (by omega) (by omega))⟩
  by_cases c : nI k = 0
  · rw [if_pos c]; exact ⟨fun y => absurd rfl y, fun y => absurd (w.mp c) y.1⟩
  · rw [if_neg c]
    by_cases d : sdR (μ 277) q = 0
    · rw [if_pos d]; exact ⟨fun y => absurd rfl y, fun y => absurd d y.2.1⟩
    · rw [if_neg d]
      by_cases e : sdR (μ 277) q = sdR (μ 277) z
      · rw [if_pos e]; exact ⟨fun _ => ⟨fun y => c (w.mpr y), d, e⟩, fun _ => by decide⟩
      · rw [if_neg e]; exact ⟨fun y => absurd rfl y, fun y => absurd y.2.2 e⟩
theorem camp_e (hw : WF (μ 277) n mb) (hg : HR σ 1 (μ 277)) (hp : p < n) : campV σ (1 + 1) n p = cmR (μ 277) n p := by
  have hn := hw.1.2.1
  unfold campV cmR
  rw [q_lean hg (show p < 6 by omega)]
  by_cases c : sdR (μ 277) p = 0
  · rw [if_pos c, if_pos c]
  · rw [if_neg c, if_neg c]
    have B := cpIt_b (σ := σ) (pb := 1 + 1) hn hp (n - 1)
    have K := cmK_b (h := μ 277) hn hp 6
    have I := cpIt_in (σ := σ) (pb := 1 + 1) hn hp (n - 1)
    have inK : ∀ z, z < 6 → bt (cmK (μ 277) n p 6) z → z < n := K.2.2 (fun z => z < n) hp (fun _ z _ hz _ _ => hz)
    refine bt_ext B.1 K.1 (fun z hz => ⟨fun y => ?_, fun y => ?_⟩)
    · refine (cpIt_mn (σ := σ) (pb := 1 + 1) (C := fun z => bt (cmK (μ 277) n p 6) z ∧ sdR (μ 277) z = sdR (μ 277) p) hn hp ⟨K.2.1, rfl⟩ (fun q z hq hz' hC hE => ?_) (n - 1) z hz y).1
      obtain ⟨e1, e2, e3⟩ := (al_e hw hg (by omega) (by omega)).mp hE
      have : sdR (μ 277) z = sdR (μ 277) p := e3.symm.trans hC.2
      exact ⟨cmK_cl hn hp hq hz' hC.1 ⟨e1, this⟩, this⟩
    · refine (K.2.2 (fun z => bt (cpIt σ (1 + 1) n p (n - 1)) z ∧ sdR (μ 277) z = sdR (μ 277) p) ⟨I.1, rfl⟩ (fun q z hq hz' hC hE => ?_) z hz y).1
      exact ⟨cpIt_cl hn hp hq hz' hC.1 ((al_e hw hg (by omega) (by omega)).mpr ⟨hE.1, by rw [hC.2]; exact c, hC.2.trans hE.2.symm⟩), hE.2⟩
theorem cm_hcm (hn : n ≤ 6) {h : Nat → Int32} (hp : p < n) : ∃ a, a < 64 ∧ cmR h n p = nI a := by
  unfold cmR
  split
  · exact ⟨0, by omega, rfl⟩
  · exact (cmK_b hn hp 6).1
theorem low_e (hw : WF (μ 277) n mb) (hg : HR σ 1 (μ 277)) : lowV σ (1 + 1) n n = cmsV (μ 277) n n := by
  have hn := hw.1.2.1
  unfold lowV cmsV
  refine fo_e n (fun q hq => ?_)
  funext a
  rw [camp_e hw hg hq]
  by_cases c : sdR (μ 277) q = 0
  · rw [if_pos c, if_pos]
    unfold cmR; rw [if_pos c]
  · rw [if_neg c]
    have e : cmR (μ 277) n q = cmK (μ 277) n q 6 := if_neg c
    obtain ⟨⟨v, hv, ev⟩, kb, -⟩ := cmK_b (h := μ 277) hn hq 6
    rw [e]
    rw [ev] at kb ⊢
    have key : ∀ v, v < 64 → ∀ q, q < 6 → ¬ bitV (nI v) q = 0 → (¬ nI v = 0) ∧ (nI v &&& (oneV q - 1) = 0 ↔ ntV (nI v) = nI q) := by decide +kernel
    obtain ⟨k1, k2⟩ := key v hv q (by omega) kb
    rw [if_neg k1]
    by_cases d : nI v &&& (oneV q - 1) = 0
    · rw [if_pos d, if_pos (k2.mp d)]
    · rw [if_neg d, if_neg (fun y => d (k2.mpr y))]
end CBT

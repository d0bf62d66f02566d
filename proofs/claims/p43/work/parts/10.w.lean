/-! the world: every object of the class and of the reference is a block with a number; one memory of ints for all -/
def fo {α : Type} (f : Nat → α → α) (a : α) : Nat → α
  | 0 => a
  | k + 1 => f k (fo f a k)
abbrev vcl : List vw_C := [(RX1, TX1, 5), (RX2, TX2, 1), (RX3, TX3, 7), (RX4, TX4, 3), (RX5, TX5, 5), (RX7, TX7, 2), (RX8, TX8, 8), (RX9, TX9, 8), (RX10, TX10, 14), (RJ4, TJ4, 4), (RJ0, TJ0, 4)]
abbrev tysF (ct : Nat → ClassId) : List (ClassId × FieldType) := [(ct 0, .char), (ct 1, .int), (ct 2, .boolean), (ct 3, .object RX3), (ct 4, .object RX5), (ct 5, .array .int), (ct 6, .long), (ct 7, .byte)]
abbrev Mem : Type := Nat → Nat → Int32
/-- the cells of a People, o places behind its own block b -/
def pCell (ct : Nat → ClassId) (ad : Nat → Nat) (b o : Nat) (r : Nat → Int32) : va_E := match o with
  | 0 => .inr (6, [.ref (ad (b + 1)), .ref (ad (b + 2)), .ref (ad (b + 3)), .ref (ad (b + 4)), .ref (ad (b + 5)), .ref (ad (b + 6)), .ref (ad (b + 13)), .int (r 7)])
  | 3 => .inl (ct 2, 6, .inl r)
  | 6 => .inl (ct 5, 6, .inr (.inr (.inr (.inr (fun i => if i < 6 then some (ad (b + 7 + i)) else none)))))
  | _ => .inl (ct 1, 6, .inl r)
def bCell (ct : Nat → ClassId) (ad : Nat → Nat) (b o : Nat) (r : Nat → Int32) : va_E := match o with
  | 0 => .inr (0, [.ref (ad (b + 1)), .ref (ad (b + 2)), .ref (ad (b + 3)), .ref (ad (b + 4)), .int (r 4)])
  | _ => .inl (ct 1, 6, .inl r)
def hCell (ct : Nat → ClassId) (ad : Nat → Nat) (b o : Nat) (r : Nat → Int32) : va_E :=
  if o = 0 then .inr (4, [.ref (ad (b + 1)), .ref (ad (b + 15)), .int (r 2), .int (r 3), .int (r 4)])
  else if o < 15 then pCell ct ad (b + 1) (o - 1) r else bCell ct ad (b + 15) (o - 15) r
def chCell (ek : Nat → Nat) (r : Nat → Int32) : va_E := .inr (2, [.ref (ek (r 0).toNatClampNeg), .int (r 1), .int (r 2), .int (r 3), .int (r 4), .int (r 5), .int (r 6)])
def xCell (ct : Nat → ClassId) (ad : Nat → Nat) (b : Nat) (r : Nat → Int32) : va_E := match b with
  | 0 => .inr (8, [.ref (ad 1), .ref (ad 21), .ref (ad 41), .ref (ad 61), .ref (ad 75), .ref (ad 77), .ref (ad 239), .ref (ad 273), .ref (ad 274), .int (r 9), .int (r 10), .int (r 11), .int (r 12), .int (r 13)])
  | 75 => .inr (1, [.ref (ad 76)])
  | 76 => .inl (ct 1, 6, .inl r)
  | 77 => .inr (3, [.ref (ad 78), .int (r 1), .int (r 2)])
  | 78 => .inl (ct 4, 8, .inr (.inr (.inr (.inr (fun i => if i < 8 then some (ad (79 + 20 * i)) else none)))))
  | 239 => .inr (7, [.ref (ad 240), .ref (ad 241), .ref (ad 242), .int (r 3), .int (r 4), .int (r 5), .int (r 6), .int (r 7)])
  | 240 => .inl (ct 0, 60, .inl r)
  | 241 => .inl (ct 3, 30, .inr (.inr (.inr (.inr (fun i => if i < 30 then some (ad (243 + i)) else none)))))
  | 242 => .inl (ct 1, 3, .inl r)
  | 274 => .inr (5, [.ref (ad 275), .int (r 1)])
  | _ => .inl (ct 0, 64, .inl r)
def cellF (ct : Nat → ClassId) (ek ad : Nat → Nat) (b : Nat) (r : Nat → Int32) : va_E :=
  if 0 < b ∧ b < 61 then hCell ct ad (b - (b - 1) % 20) ((b - 1) % 20) r
  else if 60 < b ∧ b < 75 then pCell ct ad 61 (b - 61) r
  else if 78 < b ∧ b < 239 then hCell ct ad (b - (b - 79) % 20) ((b - 79) % 20) r
  else if 242 < b ∧ b < 274 then chCell ek r
  else xCell ct ad b r
def isH (b : Nat) : Prop := b = 1 ∨ b = 21 ∨ b = 41 ∨ ∃ j, j < 8 ∧ b = 79 + 20 * j
def isP (b : Nat) : Prop := b = 61 ∨ ∃ h, isH h ∧ b = h + 1
def isB (b : Nat) : Prop := ∃ h, isH h ∧ b = h + 15
def isC (b : Nat) : Prop := 243 ≤ b ∧ b < 274
theorem isH_lt {b : Nat} (h : isH b) : b + 19 < 239 := by
  rcases h with h | h | h | ⟨j, h1, h⟩ <;> omega
theorem cH {ct : Nat → ClassId} {ek ad : Nat → Nat} {b o : Nat} {r : Nat → Int32} (h : isH b) (ho : o < 20) : cellF ct ek ad (b + o) r = hCell ct ad b o r := by
  rcases h with rfl | rfl | rfl | ⟨j, h1, rfl⟩
  · rw [cellF, if_pos (by omega), show (1 + o - 1) % 20 = o by omega, show 1 + o - o = 1 by omega]
  · rw [cellF, if_pos (by omega), show (21 + o - 1) % 20 = o by omega, show 21 + o - o = 21 by omega]
  · rw [cellF, if_pos (by omega), show (41 + o - 1) % 20 = o by omega, show 41 + o - o = 41 by omega]
  · rw [cellF, if_neg (by omega), if_neg (by omega), if_pos (by omega), show (79 + 20 * j + o - 79) % 20 = o by omega, show 79 + 20 * j + o - o = 79 + 20 * j by omega]
theorem cP {ct : Nat → ClassId} {ek ad : Nat → Nat} {b o : Nat} {r : Nat → Int32} (h : isP b) (ho : o < 14) : cellF ct ek ad (b + o) r = pCell ct ad b o r := by
  rcases h with rfl | ⟨g, hg, rfl⟩
  · rw [cellF, if_neg (by omega), if_pos (by omega), show 61 + o - 61 = o by omega]
  · rw [show g + 1 + o = g + (1 + o) by omega, cH hg (by omega), hCell, if_neg (by omega), if_pos (by omega), show 1 + o - 1 = o by omega]
theorem cB {ct : Nat → ClassId} {ek ad : Nat → Nat} {b o : Nat} {r : Nat → Int32} (h : isB b) (ho : o < 5) : cellF ct ek ad (b + o) r = bCell ct ad b o r := by
  obtain ⟨g, hg, rfl⟩ := h
  rw [show g + 15 + o = g + (15 + o) by omega, cH hg (by omega), hCell, if_neg (by omega), if_neg (by omega), show 15 + o - 15 = o by omega]
theorem cCh {ct : Nat → ClassId} {ek ad : Nat → Nat} {b : Nat} {r : Nat → Int32} (h : isC b) : cellF ct ek ad b r = chCell ek r := by
  have h1 := h.1; have h2 := h.2
  rw [cellF, if_neg (by omega), if_neg (by omega), if_neg (by omega), if_pos (by omega)]
theorem isP_lt {b : Nat} (h : isP b) : b + 13 < 276 := by
  rcases h with rfl | ⟨g, hg, rfl⟩
  · omega
  · have := isH_lt hg; omega
theorem isB_lt {b : Nat} (h : isB b) : b + 4 < 276 := by
  obtain ⟨g, hg, rfl⟩ := h
  have := isH_lt hg; omega
theorem isH_lt' {b : Nat} (h : isH b) : b + 19 < 276 := by have := isH_lt h; omega
def wl (ct : Nat → ClassId) (ek ad : Nat → Nat) (σ : Mem) : va_W := (List.range 276).map (fun b => (ad b, cellF ct ek ad b (σ b)))
/-- place k of block b becomes x -/
def sg (σ : Mem) (b k : Nat) (x : Int32) : Mem := fun c => if c = b then upd (σ c) k x else σ c
theorem sg_s {σ : Mem} {b k : Nat} {x : Int32} : sg σ b k x b = upd (σ b) k x := if_pos rfl
theorem sg_n {σ : Mem} {b k c : Nat} {x : Int32} (h : c ≠ b) : sg σ b k x c = σ c := if_neg h
theorem sg_ss {σ : Mem} {b k : Nat} {x : Int32} : sg σ b k x b k = x := by rw [sg_s]; exact if_pos rfl
theorem sg_at {σ : Mem} {b k c j : Nat} {x : Int32} : sg σ b k x c j = if c = b ∧ j = k then x else σ c j := by
  unfold sg
  by_cases h : c = b
  · subst h
    by_cases g : j = k
    · subst g; simp [upd]
    · simp [upd, g]
  · simp [h]
theorem wl_len {ct : Nat → ClassId} {ek ad : Nat → Nat} {σ : Mem} : (wl ct ek ad σ).length = 276 := by simp [wl]
theorem wl_at {ct : Nat → ClassId} {ek ad : Nat → Nat} {σ : Mem} {X : va_W} {b : Nat} (h : b < 276) : (wl ct ek ad σ ++ X)[b]? = some (ad b, cellF ct ek ad b (σ b)) := by
  rw [List.getElem?_append_left (by rw [wl_len]; exact h)]
  simp [wl, h]
theorem wl_set {ct : Nat → ClassId} {ek ad : Nat → Nat} {σ : Mem} {X : va_W} {b k : Nat} {x : Int32} {e : va_E} (h : b < 276) (he : cellF ct ek ad b (upd (σ b) k x) = e) : (wl ct ek ad σ ++ X).set b (ad b, e) = wl ct ek ad (sg σ b k x) ++ X := by
  rw [List.set_append_left _ _ (by rw [wl_len]; exact h)]
  congr 1
  apply List.ext_getElem?
  intro i
  rw [List.getElem?_set]
  by_cases hi : b = i
  · subst hi
    rw [if_pos rfl, if_pos (by rw [wl_len]; exact h)]
    simp [wl, h, sg_s, he]
  · rw [if_neg hi]
    simp only [wl, List.getElem?_map]
    cases hr : (List.range 276)[i]? with
    | none => rfl
    | some j =>
      have hj : j = i := by
        have := List.getElem?_eq_some_iff.mp hr
        obtain ⟨h1, h2⟩ := this
        simpa using h2.symm
      subst hj
      simp [sg_n (Ne.symm hi)]
/-- the addresses do not depend on the memory -/
theorem va_D.mem {A : Nat → Prop} {ct : Nat → ClassId} {ek ad : Nat → Nat} {σ τ : Mem} {X : va_W} (h : va_D A (wl ct ek ad σ ++ X)) : va_D A (wl ct ek ad τ ++ X) := by
  have key : ∀ (k : Nat) (q : Nat × va_E), (wl ct ek ad τ ++ X)[k]? = some q → ∃ q0, (wl ct ek ad σ ++ X)[k]? = some q0 ∧ q0.1 = q.1 := by
    intro k q hk
    by_cases hl : k < 276
    · rw [wl_at hl] at hk
      cases hk
      exact ⟨_, wl_at hl, rfl⟩
    · rw [List.getElem?_append_right (by rw [wl_len]; omega), wl_len] at hk
      refine ⟨q, ?_, rfl⟩
      rw [List.getElem?_append_right (by rw [wl_len]; omega), wl_len]
      exact hk
  refine ⟨fun i j x y hi hj hxy => ?_, fun k q hk => ?_⟩
  · obtain ⟨x0, h1, h2⟩ := key i x hi
    obtain ⟨y0, h3, h4⟩ := key j y hj
    exact h.1 i j x0 y0 h1 h3 (h2.trans (hxy.trans h4.symm))
  · obtain ⟨q0, h1, h2⟩ := key k q hk
    rw [← h2]
    exact h.2 k q0 h1
/-- what holds of a state beside its own cells: the tables, the addresses, and facts (F) of the cells below N0, that no step of ours touches -/
def Stab (N0 : Nat) (F : State → Prop) : Prop := ∀ U V : State, U.WarmedH V.vm → U.heap.size ≤ V.heap.size → (∀ q : Nat, q < U.heap.size → ¬ N0 ≤ q → V.heap[q]? = U.heap[q]?) → F U → F V
def GI (D : va_G) (ct : Nat → ClassId) (ek ad : Nat → Nat) (N0 : Nat) (X : va_W) (F : State → Prop) (U : State) : Prop :=
  va_K D vcl (tysF ct) U ∧ va_D (fun q => N0 ≤ q) (wl ct ek ad (fun _ _ => 0) ++ X) ∧ N0 ≤ U.heap.size ∧ (∀ w ∈ nestL, va_Nw w U) ∧ Stab N0 F ∧ F U
def nestB (w : Cond) : Bool := match w with
  | .fieldLinkNest _ _ _ _ _ _ => true
  | .methodLinkNest _ _ _ _ => true
  | _ => false
theorem nestL_B : nestL.all nestB = true := by decide +kernel
theorem nest_warm {w : Cond} (hw : w ∈ nestL) {s U : State} (hW : s.WarmedH U.vm) (h : va_Nw w s) : va_Nw w U := by
  have hb : nestB w = true := List.all_eq_true.mp nestL_B w hw
  unfold nestB at hb
  split at hb
  · exact va_Nw.warmF hW h
  · exact va_Nw.warmM hW h
  · cases hb
theorem GI.go {D : va_G} {ct : Nat → ClassId} {ek ad : Nat → Nat} {N0 : Nat} {X : va_W} {F : State → Prop} {s U : State} (h : GI D ct ek ad N0 X F s) (hW : s.WarmedH U.vm) (hz : s.heap.size ≤ U.heap.size) (hq : ∀ q : Nat, q < s.heap.size → ¬ N0 ≤ q → U.heap[q]? = s.heap[q]?) : GI D ct ek ad N0 X F U :=
  ⟨va_K.moved hW.alike h.1, h.2.1, Nat.le_trans h.2.2.1 hz, fun w hw => nest_warm hw hW (h.2.2.2.1 w hw), h.2.2.2.2.1, h.2.2.2.2.1 s U hW hz hq h.2.2.2.2.2⟩

/-! what each block holds, row by row; numbers that are indices; Math's three -/
section CK
variable {ct : Nat → ClassId} {ek ad : Nat → Nat} {b i : Nat} {r : Nat → Int32}
theorem isPH (h : isH b) : isP (b + 1) := Or.inr ⟨b, h, rfl⟩
theorem isBH (h : isH b) : isB (b + 15) := ⟨b, h, rfl⟩
theorem isH1 : isH 1 := Or.inl rfl
theorem isH21 : isH 21 := Or.inr (Or.inl rfl)
theorem isH41 : isH 41 := Or.inr (Or.inr (Or.inl rfl))
theorem isHh (h : i < 8) : isH (79 + 20 * i) := Or.inr (Or.inr (Or.inr ⟨i, h, rfl⟩))
theorem isP61 : isP 61 := Or.inl rfl
theorem isC273 : isC 273 := ⟨by omega, by omega⟩
theorem isCt (h : i < 30) : isC (243 + i) := ⟨by omega, by omega⟩
theorem oP (h : isP b) : cellF ct ek ad b r = .inr (6, [.ref (ad (b + 1)), .ref (ad (b + 2)), .ref (ad (b + 3)), .ref (ad (b + 4)), .ref (ad (b + 5)), .ref (ad (b + 6)), .ref (ad (b + 13)), .int (r 7)]) := cP (o := 0) h (by decide)
theorem aP1 (h : isP b) : ∀ r, cellF ct ek ad (b + 1) r = .inl (ct 1, 6, .inl r) := fun _ => cP h (by decide)
theorem aP2 (h : isP b) : ∀ r, cellF ct ek ad (b + 2) r = .inl (ct 1, 6, .inl r) := fun _ => cP h (by decide)
theorem aP3 (h : isP b) : ∀ r, cellF ct ek ad (b + 3) r = .inl (ct 2, 6, .inl r) := fun _ => cP h (by decide)
theorem aP4 (h : isP b) : ∀ r, cellF ct ek ad (b + 4) r = .inl (ct 1, 6, .inl r) := fun _ => cP h (by decide)
theorem aP5 (h : isP b) : ∀ r, cellF ct ek ad (b + 5) r = .inl (ct 1, 6, .inl r) := fun _ => cP h (by decide)
theorem gP6 (h : isP b) : ∀ r, cellF ct ek ad (b + 6) r = .inl (ct 5, 6, .inr (.inr (.inr (.inr (fun i => if i < 6 then some (ad (b + 7 + i)) else none))))) := fun _ => cP h (by decide)
theorem aP13 (h : isP b) : ∀ r, cellF ct ek ad (b + 13) r = .inl (ct 1, 6, .inl r) := fun _ => cP h (by decide)
theorem aPw (h : isP b) (hi : i < 6) : ∀ r, cellF ct ek ad (b + 7 + i) r = .inl (ct 1, 6, .inl r) := fun r => by
  rw [show b + 7 + i = b + (7 + i) by omega, cP h (by omega)]
  rcases (show i = 0 ∨ i = 1 ∨ i = 2 ∨ i = 3 ∨ i = 4 ∨ i = 5 by omega) with rfl | rfl | rfl | rfl | rfl | rfl <;> rfl
theorem oH (h : isH b) : cellF ct ek ad b r = .inr (4, [.ref (ad (b + 1)), .ref (ad (b + 15)), .int (r 2), .int (r 3), .int (r 4)]) := cH (o := 0) h (by decide)
theorem oB (h : isB b) : cellF ct ek ad b r = .inr (0, [.ref (ad (b + 1)), .ref (ad (b + 2)), .ref (ad (b + 3)), .ref (ad (b + 4)), .int (r 4)]) := cB (o := 0) h (by decide)
theorem aB1 (h : isB b) : ∀ r, cellF ct ek ad (b + 1) r = .inl (ct 1, 6, .inl r) := fun _ => cB h (by decide)
theorem aB2 (h : isB b) : ∀ r, cellF ct ek ad (b + 2) r = .inl (ct 1, 6, .inl r) := fun _ => cB h (by decide)
theorem aB3 (h : isB b) : ∀ r, cellF ct ek ad (b + 3) r = .inl (ct 1, 6, .inl r) := fun _ => cB h (by decide)
theorem aB4 (h : isB b) : ∀ r, cellF ct ek ad (b + 4) r = .inl (ct 1, 6, .inl r) := fun _ => cB h (by decide)
theorem oC (h : isC b) : cellF ct ek ad b r = .inr (2, [.ref (ek (r 0).toNatClampNeg), .int (r 1), .int (r 2), .int (r 3), .int (r 4), .int (r 5), .int (r 6)]) := cCh h
theorem isC_lt (h : isC b) : b < 276 := by have := h.2; omega
theorem isPl {k : Nat} (h : isP b) (hk : k < 14) : b + k < 276 := by have := isP_lt h; omega
theorem isBl {k : Nat} (h : isB b) (hk : k < 5) : b + k < 276 := by have := isB_lt h; omega
theorem isPl0 (h : isP b) : b < 276 := by have := isP_lt h; omega
theorem isBl0 (h : isB b) : b < 276 := by have := isB_lt h; omega
theorem isHl0 (h : isH b) : b < 276 := by have := isH_lt h; omega
theorem isPlw (h : isP b) (hi : i < 6) : b + 7 + i < 276 := by have := isP_lt h; omega
theorem oX : cellF ct ek ad 0 r = .inr (8, [.ref (ad 1), .ref (ad 21), .ref (ad 41), .ref (ad 61), .ref (ad 75), .ref (ad 77), .ref (ad 239), .ref (ad 273), .ref (ad 274), .int (r 9), .int (r 10), .int (r 11), .int (r 12), .int (r 13)]) := rfl
theorem oCA : cellF ct ek ad 75 r = .inr (1, [.ref (ad 76)]) := rfl
theorem aCA : ∀ r, cellF ct ek ad 76 r = .inl (ct 1, 6, .inl r) := fun _ => rfl
theorem oHI : cellF ct ek ad 77 r = .inr (3, [.ref (ad 78), .int (r 1), .int (r 2)]) := rfl
theorem gHI : ∀ r, cellF ct ek ad 78 r = .inl (ct 4, 8, .inr (.inr (.inr (.inr (fun i => if i < 8 then some (ad (79 + 20 * i)) else none))))) := fun _ => rfl
theorem oTX : cellF ct ek ad 239 r = .inr (7, [.ref (ad 240), .ref (ad 241), .ref (ad 242), .int (r 3), .int (r 4), .int (r 5), .int (r 6), .int (r 7)]) := rfl
theorem aTXc : ∀ r, cellF ct ek ad 240 r = .inl (ct 0, 60, .inl r) := fun _ => rfl
theorem gTX : ∀ r, cellF ct ek ad 241 r = .inl (ct 3, 30, .inr (.inr (.inr (.inr (fun i => if i < 30 then some (ad (243 + i)) else none))))) := fun _ => rfl
theorem aTXn : ∀ r, cellF ct ek ad 242 r = .inl (ct 1, 3, .inl r) := fun _ => rfl
theorem oLN : cellF ct ek ad 274 r = .inr (5, [.ref (ad 275), .int (r 1)]) := rfl
theorem aLN : ∀ r, cellF ct ek ad 275 r = .inl (ct 0, 64, .inl r) := fun _ => rfl
end CK
def mxI (x y : Int32) : Int32 := if x < y then y else x
def mnI (x y : Int32) : Int32 := if y < x then y else x
def abI (x : Int32) : Int32 := if 0 ≤ x then x else 0 - x
theorem nI_inc (k : Nat) : nI k + Int32.ofInt 1 = nI (k + 1) := nI_1 k
theorem nI_inc' (k j : Nat) : nI k + Int32.ofInt (j : Int) = nI (k + j) := nI_add k j
section WN
variable {p : Program} {l : Launch} {e : Env} {R : Room} {s : State} {m : MethodId} {args : Array Value} {below : List Frame} {meth : Method} {c : Code} {H : Heap} {locs : List Loc} {cells slots : Nat} {Q : State → Prop}
variable {cc : ByteArray} {nL : Nat} {own : String} {pc : Nat} {ls : Array Slot} {rest : List Value}
variable {D : va_G} {ct : Nat → ClassId} {ek ad : Nat → Nat} {N0 : Nat} {X : va_W} {F : State → Prop} {σ : Mem}
/-- arithmetic of numbers that are indices -/
theorem nadd (hx : p.tables.exec = Jvm.exec) (hb : c.code = cc) {x y : Int32} (a b : Nat) (hdg : decode cc pc = .ok (.iadd, 1)) (ha : x = nI a) (hb2 : y = nI b) (k : W p l e R s m args below meth c H locs cells slots Q (F0 m (pc + 1) ls (.int (nI (a + b)) :: rest))) : W p l e R s m args below meth c H locs cells slots Q (F0 m pc ls (.int y :: .int x :: rest)) := by
  subst ha; subst hb2
  exact lv_iadd hx hb hdg (by rw [nI_add]; exact k)
theorem nmul (hx : p.tables.exec = Jvm.exec) (hb : c.code = cc) {x y : Int32} (a b : Nat) (hdg : decode cc pc = .ok (.imul, 1)) (ha : x = nI a) (hb2 : y = nI b) (k : W p l e R s m args below meth c H locs cells slots Q (F0 m (pc + 1) ls (.int (nI (a * b)) :: rest))) : W p l e R s m args below meth c H locs cells slots Q (F0 m pc ls (.int y :: .int x :: rest)) := by
  subst ha; subst hb2
  exact lv_imul hx hb hdg (by rw [pk_mul]; exact k)
theorem nsub (hx : p.tables.exec = Jvm.exec) (hb : c.code = cc) {x y : Int32} (a b : Nat) (hdg : decode cc pc = .ok (.isub, 1)) (ha : x = nI a) (hb2 : y = nI b) (hle : b ≤ a) (k : W p l e R s m args below meth c H locs cells slots Q (F0 m (pc + 1) ls (.int (nI (a - b)) :: rest))) : W p l e R s m args below meth c H locs cells slots Q (F0 m pc ls (.int y :: .int x :: rest)) := by
  subst ha; subst hb2
  exact lv_isub hx hb hdg (by rw [pk_sub hle]; exact k)
theorem nrem (hx : p.tables.exec = Jvm.exec) (hb : c.code = cc) {x y : Int32} (a d : Nat) (hdg : decode cc pc = .ok (.irem, 1)) (ha : x = nI a) (hb2 : y = nI d) (h1 : a < 2 ^ 31) (h2 : 0 < d) (h3 : d < 2 ^ 31) (k : W p l e R s m args below meth c H locs cells slots Q (F0 m (pc + 1) ls (.int (nI (a % d)) :: rest))) : W p l e R s m args below meth c H locs cells slots Q (F0 m pc ls (.int y :: .int x :: rest)) := by
  subst ha; subst hb2
  exact lv_irem hx hb hdg (nI_ne0 h2 h3) (by rw [pk_rem h1 h2 h3]; exact k)
/-- Math -/
theorem rmax {d0 mc ms idx : Nat} {x y : Int32} (S : CallFix p m c cc nL s args BW own) (hR : R = rmd d0 mc ms) (hd : 1 ≤ d0) (hls : ls.size = nL) (hl : Cond.methodLink own idx Lib.Math.max.name ∈ BW) (hrest : (rest.map fun v => v.category).sum ≤ 8) (hcs : cells ≤ mc ∧ slots ≤ ms) (hdg : decode cc pc = .ok (.invokestatic idx, 3))
    (k : W p l e R s m args below meth c H locs cells slots Q (F0 m (pc + 3) ls (.int (mxI x y) :: rest))) : W p l e R s m args below meth c H locs cells slots Q (F0 m pc ls (.int y :: .int x :: rest)) := by
  subst hR
  exact va_mmax S.1 S.2.1 (S.2.2.1.trans hls.symm) S.2.2.2.1 (S.2.2.2.2 _ hl) (S.2.2.2.2 _ sm_yJ9_max_7cf53) (S.2.2.2.2 _ in_RJ9) (S.2.2.2.2 _ co_yJ9_max_7cf53) (by show 1 ≤ d0; omega) (by show _ + 13 ≤ 32 * d0; omega) hcs.1 hcs.2 hdg k
theorem rmin {d0 mc ms idx : Nat} {x y : Int32} (S : CallFix p m c cc nL s args BW own) (hR : R = rmd d0 mc ms) (hd : 1 ≤ d0) (hls : ls.size = nL) (hl : Cond.methodLink own idx Lib.Math.min.name ∈ BW) (hrest : (rest.map fun v => v.category).sum ≤ 8) (hcs : cells ≤ mc ∧ slots ≤ ms) (hdg : decode cc pc = .ok (.invokestatic idx, 3))
    (k : W p l e R s m args below meth c H locs cells slots Q (F0 m (pc + 3) ls (.int (mnI x y) :: rest))) : W p l e R s m args below meth c H locs cells slots Q (F0 m pc ls (.int y :: .int x :: rest)) := by
  subst hR
  exact va_mmin S.1 S.2.1 (S.2.2.1.trans hls.symm) S.2.2.2.1 (S.2.2.2.2 _ hl) (S.2.2.2.2 _ sm_yJ9_min_7cf53) (S.2.2.2.2 _ in_RJ9) (S.2.2.2.2 _ co_yJ9_min_7cf53) (by show 1 ≤ d0; omega) (by show _ + 13 ≤ 32 * d0; omega) hcs.1 hcs.2 hdg k
theorem rabs {d0 mc ms idx : Nat} {x : Int32} (S : CallFix p m c cc nL s args BW own) (hR : R = rmd d0 mc ms) (hd : 1 ≤ d0) (hls : ls.size = nL) (hl : Cond.methodLink own idx Lib.Math.abs.name ∈ BW) (hrest : (rest.map fun v => v.category).sum ≤ 8) (hcs : cells ≤ mc ∧ slots ≤ ms) (hdg : decode cc pc = .ok (.invokestatic idx, 3))
    (k : W p l e R s m args below meth c H locs cells slots Q (F0 m (pc + 3) ls (.int (abI x) :: rest))) : W p l e R s m args below meth c H locs cells slots Q (F0 m pc ls (.int x :: rest)) := by
  subst hR
  exact va_mabs S.1 S.2.1 (S.2.2.1.trans hls.symm) S.2.2.2.1 (S.2.2.2.2 _ hl) (S.2.2.2.2 _ sm_yJ9_abs_0f7a4) (S.2.2.2.2 _ in_RJ9) (S.2.2.2.2 _ co_yJ9_abs_0f7a4) (by show 1 ≤ d0; omega) (by show _ + 13 ≤ 32 * d0; omega) hcs.1 hcs.2 hdg k
/-- a row of an array of rows -/
theorem gld (S : CallFix p m c cc nL s args BW own) (G : GI D ct ek ad N0 X F s) (hP : wP D ct ek ad X σ H) (b j : Nat) {n q : Nat} {f : Nat → Option Nat} {i : Int32} (hb : b < 276) (he : cellF ct ek ad b (σ b) = .inl (ct 5, n, .inr (.inr (.inr (.inr f))))) (hi : i = nI j) (hj : j < n) (hn : n ≤ 1000) (hq : f j = some q) (hdg : decode cc pc = .ok (.aaload, 1))
    (kk : W p l e R s m args below meth c H locs cells slots Q (F0 m (pc + 1) ls (.ref q :: rest))) : W p l e R s m args below meth c H locs cells slots Q (F0 m pc ls (.int i :: .ref (ad b) :: rest)) := by
  obtain ⟨h1, h2⟩ := ix hi hj hn
  have ha : (wl ct ek ad σ ++ X)[b]? = some (ad b, .inl (ct 5, n, .inr (.inr (.inr (.inr f))))) := (wl_at hb).trans (congrArg (fun z => some (ad b, z)) he)
  have hlt : i.toNatClampNeg < n := by rw [h2]; exact hj
  refine W.aald (v := va_rf (f i.toNatClampNeg)) (ty := .array .int) S.1 S.2.1 (hP b _ ha) ((G.1.2 5 _ rfl).1 n (fun j => va_rf (f j))) rfl (fun q => by cases q) (by show ¬ (i < 0 ∨ (arrV _ _ _).slots.size ≤ _); rw [arrV_size]; exact h1) (by show (arrV _ _ _).slots[_]? = _; rw [arrV_read _ _ hlt]) rfl rfl hdg ?_
  rw [h2, hq]; exact kk
end WN

/-! plain functions: what the small methods answer -/
def rngB (x lo hi : Int32) : Int32 := if x < lo then 0 else if hi < x then 0 else 1
def holdB (x n : Int32) : Int32 := if x < 0 then 0 else if n ≤ x then 0 else 1
def stepV (h st : Int32) : Int32 := if st = 0 then 10 - h else (10 - h) / 2
def forceV (str h : Int32) : Int32 := mxI (str - h / 3) 0
def sgnV (x y : Int32) : Int32 := if x < y then -1 else if x = y then 0 else 1
def habV (h d : Int32) : Int32 := if d = 0 then mnI (h + 1) 9 else if d < 3 then h else mxI (h - 1) 0
theorem swout {x : Int32} (lo hi : Int) (h : ∀ n : Int, lo ≤ n → n ≤ hi → x.toInt = n → False) : x.toInt < lo ∨ hi < x.toInt := by
  rcases Int.lt_or_le x.toInt lo with a | a
  · exact Or.inl a
  · rcases Int.lt_or_le hi x.toInt with b | b
    · exact Or.inr b
    · exact (h _ a b rfl).elim
theorem lv_v {ls : Array Slot} {n : Nat} {l l' : List (Nat × Value)} (h : lv_has ls n l) (e : l = l') : lv_has ls n l' := e ▸ h
/-- sums and counts over a row -/
def sumR (f : Nat → Int32) (a : Int32) (n : Nat) : Int32 := fo (fun q a => a + f q) a n
def cntR (f : Nat → Int32) (n : Nat) : Int32 := fo (fun q a => if f q = 0 then a else a + 1) 0 n
def plmR (f : Nat → Int32) (n : Nat) : Int32 := fo (fun q a => if f q = 0 then a + 1 else a) 0 n
/-- the memory with block b holding the row ρ -/
def sb (σ : Mem) (b : Nat) (ρ : Nat → Int32) : Mem := fun c => if c = b then ρ else σ c
theorem sb_s {σ : Mem} {b : Nat} {ρ : Nat → Int32} : sb σ b ρ b = ρ := if_pos rfl
theorem sb_n {σ : Mem} {b c : Nat} {ρ : Nat → Int32} (h : c ≠ b) : sb σ b ρ c = σ c := if_neg h
theorem sg_sb {σ : Mem} {b k : Nat} {ρ : Nat → Int32} {x : Int32} : sg (sb σ b ρ) b k x = sb σ b (upd ρ k x) := by
  funext c
  by_cases h : c = b
  · subst h; rw [sg_s, sb_s, sb_s]
  · rw [sg_n h, sb_n h, sb_n h]
theorem sg_sb_ne {σ : Mem} {b b' k : Nat} {ρ : Nat → Int32} {x : Int32} (h : b ≠ b') : sg (sb σ b' ρ) b k x = sb (sg σ b k x) b' ρ := by
  funext c
  by_cases h1 : c = b
  · subst h1; rw [sg_s, sb_n h, sb_n h, sg_s]
  · rw [sg_n h1]
    by_cases h2 : c = b'
    · subst h2; rw [sb_s, sb_s]
    · rw [sb_n h2, sb_n h2, sg_n h1]
theorem sb_self {σ : Mem} {b : Nat} : sb σ b (σ b) = σ := by
  funext c
  by_cases h : c = b
  · subst h; rw [sb_s]
  · rw [sb_n h]
theorem sg_row {σ : Mem} {b k : Nat} {x : Int32} : sg σ b k x = sb σ b (upd (σ b) k x) := by
  funext c
  by_cases h : c = b
  · subst h; rw [sb_s, sg_s]
  · rw [sb_n h, sg_n h]
/-- f up to place k, g from there on -/
def fil (f g : Nat → Int32) (k : Nat) : Nat → Int32 := fun p => if p < k then f p else g p
theorem fil_0 {f g : Nat → Int32} : fil f g 0 = g := by funext p; simp [fil]
theorem fil_s {f g : Nat → Int32} {k : Nat} {x : Int32} (h : x = f k) : upd (fil f g k) k x = fil f g (k + 1) := by
  subst h
  funext p
  unfold upd fil
  by_cases h1 : p = k
  · subst h1; simp
  · by_cases h2 : p < k
    · simp [h1, h2, Nat.lt_succ_of_lt h2]
    · simp [h1, h2, show ¬ p < k + 1 by omega]
theorem fil_k {f g : Nat → Int32} {k : Nat} : fil f g k k = g k := by simp [fil]
theorem fil_lt {f g : Nat → Int32} {k p : Nat} (h : p < k) : fil f g k p = f p := if_pos h
theorem fil_ge {f g : Nat → Int32} {k p : Nat} (h : k ≤ p) : fil f g k p = g p := if_neg (by omega)
/-- People: mean, move -/
def wsmV (σ : Mem) (pb i n : Nat) : Int32 := fo (fun q a => a + σ (pb + 1) q * σ (pb + 7 + i) q) (σ (pb + 1) i * (σ (pb + 2) i + 1)) n
def meanV (σ : Mem) (pb n i : Nat) : Int32 := if 1 ≤ sumR (σ (pb + 7 + i)) (σ (pb + 2) i + 1) n then wsmV σ pb i n / sumR (σ (pb + 7 + i)) (σ (pb + 2) i + 1) n else 0
def moveV (σ : Mem) (pb n i : Nat) : Int32 := mxI (-(stepV (σ (pb + 2) i) (σ (pb + 3) i))) (mnI (stepV (σ (pb + 2) i) (σ (pb + 3) i)) (meanV σ pb n i - σ (pb + 1) i))
section WE
variable {p : Program} {l : Launch} {e : Env} {R : Room} {s : State} {m : MethodId} {args : Array Value} {below : List Frame} {meth : Method} {c : Code} {H : Heap} {locs : List Loc} {cells slots : Nat} {Q : State → Prop}
variable {cc : ByteArray} {nL : Nat} {own : String} {pc : Nat} {ls : Array Slot} {rest : List Value}
variable {D : va_G} {ct : Nat → ClassId} {ek ad : Nat → Nat} {N0 : Nat} {X : va_W} {F : State → Prop} {σ : Mem}
/-- calls of methods whose answer and memory are told as terms -/
theorem cVie {C : String} {idx k ci N n d d0 mc ms : Nat} {y : MethodName} {bs : ByteArray} {ret : Option FieldType} {T : u_T} {fs As st : List Value} {r0 : Int32} {σ0 : Mem} (S : CallFix p m c cc nL s args BW own) (G : GI D ct ek ad N0 X F s) (b : Nat) (hM : MI l y bs n ret d D ct ek ad N0 X F (.ref (ad b) :: As) σ (fun r τ => r = r0 ∧ τ = σ0)) (ok : COK C y bs n ret k) (hl : Cond.methodLink own idx y ∈ BW)
    (hb : b < 276) (he : cellF ct ek ad b (σ b) = .inr (ci, fs)) (hc : vcl[ci]? = some (C, T, N)) (hP : wP D ct ek ad X σ H) (hS : va_S (fr N0) s.heap H locs) (hls : ls.size = nL) (hR : R = rmd d0 mc ms) (hd : d + 1 ≤ d0) (hk : As.length = k) (hst : st = As.reverse ++ .ref (ad b) :: rest) (hrest : (rest.map fun v => v.category).sum ≤ 8) (hcs : cells ≤ mc ∧ slots ≤ ms) (hdg : decode cc pc = .ok (.invokevirtual idx, 3))
    (kk : ∀ (H : Heap) (locs : List Loc), wP D ct ek ad X σ0 H → va_S (fr N0) s.heap H locs → W p l e R s m args below meth c H locs cells slots Q (F0 m (pc + 3) ls (.int r0 :: rest))) : W p l e R s m args below meth c H locs cells slots Q (F0 m pc ls st) :=
  cVi S G b hM ok hl hb he hc hP hS hls hR hd hk hst hrest hcs hdg (fun r τ H locs hp hP hS => by
    obtain ⟨rfl, rfl⟩ := hp
    exact kk H locs hP hS)
theorem cVve {C : String} {idx k ci N n d d0 mc ms : Nat} {y : MethodName} {bs : ByteArray} {T : u_T} {fs As st : List Value} {σ0 : Mem} (S : CallFix p m c cc nL s args BW own) (G : GI D ct ek ad N0 X F s) (b : Nat) (hM : MV l y bs n d D ct ek ad N0 X F (.ref (ad b) :: As) σ (fun τ => τ = σ0)) (ok : COK C y bs n none k) (hl : Cond.methodLink own idx y ∈ BW)
    (hb : b < 276) (he : cellF ct ek ad b (σ b) = .inr (ci, fs)) (hc : vcl[ci]? = some (C, T, N)) (hP : wP D ct ek ad X σ H) (hS : va_S (fr N0) s.heap H locs) (hls : ls.size = nL) (hR : R = rmd d0 mc ms) (hd : d + 1 ≤ d0) (hk : As.length = k) (hst : st = As.reverse ++ .ref (ad b) :: rest) (hrest : (rest.map fun v => v.category).sum ≤ 8) (hcs : cells ≤ mc ∧ slots ≤ ms) (hdg : decode cc pc = .ok (.invokevirtual idx, 3))
    (kk : ∀ (H : Heap) (locs : List Loc), wP D ct ek ad X σ0 H → va_S (fr N0) s.heap H locs → W p l e R s m args below meth c H locs cells slots Q (F0 m (pc + 3) ls rest)) : W p l e R s m args below meth c H locs cells slots Q (F0 m pc ls st) :=
  cVv S G b hM ok hl hb he hc hP hS hls hR hd hk hst hrest hcs hdg (fun τ H locs hp hP hS => by
    subst hp
    exact kk H locs hP hS)
theorem cSie {idx k n d d0 mc ms : Nat} {y : MethodName} {bs : ByteArray} {ret : Option FieldType} {As st : List Value} {r0 : Int32} {σ0 : Mem} (S : CallFix p m c cc nL s args BW own) (G : GI D ct ek ad N0 X F s) (hM : MI l y bs n ret d D ct ek ad N0 X F As σ (fun r τ => r = r0 ∧ τ = σ0)) (ok : COKs y.cls y bs n ret k) (hl : Cond.methodLink own idx y ∈ BW)
    (hP : wP D ct ek ad X σ H) (hS : va_S (fr N0) s.heap H locs) (hls : ls.size = nL) (hR : R = rmd d0 mc ms) (hd : d + 1 ≤ d0) (hk : As.length = k) (hst : st = As.reverse ++ rest) (hrest : (rest.map fun v => v.category).sum ≤ 8) (hcs : cells ≤ mc ∧ slots ≤ ms) (hdg : decode cc pc = .ok (.invokestatic idx, 3))
    (kk : ∀ (H : Heap) (locs : List Loc), wP D ct ek ad X σ0 H → va_S (fr N0) s.heap H locs → W p l e R s m args below meth c H locs cells slots Q (F0 m (pc + 3) ls (.int r0 :: rest))) : W p l e R s m args below meth c H locs cells slots Q (F0 m pc ls st) :=
  cSi S G hM ok hl hP hS hls hR hd hk hst hrest hcs hdg (fun r τ H locs hp hP hS => by
    obtain ⟨rfl, rfl⟩ := hp
    exact kk H locs hP hS)
end WE

/-! what lies outside the world: the kinds, their patterns, the switch's map, the exceptions' words -/
def strB : List (List Int32) := [[111, 43, 57], [115, 43, 57], [102, 48, 48, 42, 48], [114], [112, 48, 42, 48], [98, 48, 48, 60, 57], [120, 48], [104, 48, 61, 48], [114, 59, 112], [42, 53], [104, 48, 61, 52, 59, 120], [113], [114, 59, 114, 59, 112, 57, 42, 49], [104, 48, 61]]
def strL : List Nat := [3, 3, 5, 1, 4, 5, 2, 4, 3, 2, 6, 1, 8, 3]
/-- the law's own texts: their places in its pool, in the order of the texts 8 .. 13 -/
def lwTx : List (Nat × String) := [(246, "r;p"), (254, "*5"), (260, "h0=4;x"), (282, "q"), (287, "r;r;p9*1"), (289, "h0=")]
abbrev KD : String := "LPlumbOpinions$Kind;"
def KN : List String := ["OPEN", "STUBBORN", "FRIENDS", "ROUND", "FACT", "BEAM", "REMOVE", "HABIT"]
def KF : List (String × String × String × List Int32) := [("java/lang/Enum", "ordinal", "I", [0, 1, 2, 3, 4, 5, 6, 7])]
def exTx : List (Nat × String) := [(400, "it is refused"), (390, "there is no such person"), (139, "there is no such number of a person"), (393, "there is no such beam"), (173, "there is no such number of a beam"), (192, "no friend pulls the person"), (398, "the strength is out of range"), (207, "such facts have no force"), (209, "the rounds are out of range"), (221, "nobody is there"), (223, "it does not rest so soon"), (229, "the beam does not break so soon"), (244, "nobody leans there"), (246, "there is no such measure"), (251, "there is no such place"), (267, "the text buffer is full"), (280, "the text has a fault"), (305, "a command is refused"), (311, "there is no such number of a reason"), (316, "nothing was refused"), (336, "there is no such index"), (370, "there is no such account"), (372, "nothing can be undone"), (381, "there is no snapshot")]
def FX (ek cs : Nat → Nat) (N0 : Nat) (U : State) : Prop :=
  va_En RX6 KD KN KF ek (fr N0) U U.heap ∧ (∀ j, j < 8 → va_OF RX6 "pattern" "Ljava/lang/String;" (.ref (cs j)) (ek j) (fr N0) U U.heap) ∧ vk_S 14 strL strB cs (fun i => cs (20 + i)) (fr N0) U U.heap ∧
  va_Z RX6 "ALL" "[LPlumbOpinions$Kind;" (.ref (cs 40)) (fr N0) U U.heap ∧ va_T (.object RX6) (cs 40) 8 (fun j => .ref (ek j)) (fr N0) U U.heap ∧
  va_Z RX0 "$SwitchMap$PlumbOpinions$Kind" "[I" (.ref (cs 41)) (fr N0) U U.heap ∧ va_T .int (cs 41) 8 (fun j => .int (nI (j + 1))) (fr N0) U U.heap ∧
  va_Z RJ0 "COMPACT_STRINGS" "Z" (.int 1) (fr N0) U U.heap ∧ va_Zq RJ3 "SIOOBE_FORMATTER" "Ljava/util/function/BiFunction;" (fr N0) U U.heap ∧ (∀ j, j < 6 → vk_R RL (lwTx.getD j (0, "")).1 (lwTx.getD j (0, "")).2 (cs (8 + j)) U) ∧
  (∀ t ∈ exTx, vk_R RX10 t.1 t.2 (cs (100 + t.1)) U) ∧ vx_Zq Bundle.tN "UNASSIGNED_STACK" Bundle.steD (fr N0) U U.heap ∧ vx_Zq Bundle.tN "SUPPRESSED_SENTINEL" Bundle.listD (fr N0) U U.heap
theorem FX.stab (ek cs : Nat → Nat) (N0 : Nat) : Stab N0 (FX ek cs N0) := by
  intro U V hW hz hq hF
  have hv : U.vm.Alike V.vm := hW.alike
  have hk : ∀ a : Nat, a < U.heap.size → ¬ fr N0 a → V.heap[a]? = U.heap[a]? := hq
  obtain ⟨h1, h2, h3, h4, h5, h6, h7, h8, h9, h10, h11, h12, h13⟩ := hF
  refine ⟨va_En.moved hv (h1.kept hk), fun j hj => va_OF.moved hv ((h2 j hj).kept hk), vk_S.moved hv (h3.kept hk), va_Z.moved hv (h4.kept hk), va_T.moved hv (h5.kept hk), va_Z.moved hv (h6.kept hk), va_T.moved hv (h7.kept hk), va_Z.moved hv (h8.kept hk), ?_, fun j hj => vk_R.warm hW (h10 j hj), fun t ht => vk_R.warm hW (h11 t ht), vx_Zq.moved hv (h12.kept hk), vx_Zq.moved hv (h13.kept hk)⟩
  rcases h9 with h | ⟨t, h⟩
  · exact Or.inl (va_Z.moved hv (h.kept hk))
  · exact Or.inr ⟨t, va_Z.moved hv (h.kept hk)⟩
section FXA
variable {ek cs : Nat → Nat} {N0 : Nat} {U : State}
theorem FX.kn (h : FX ek cs N0 U) {j : Nat} (hj : j < 8) : va_Z RX6 (KN.getD j "") KD (.ref (ek j)) (fr N0) U U.heap := (h.1.1 j hj).1
theorem FX.ord (h : FX ek cs N0 U) {j : Nat} (hj : j < 8) : va_OF "java/lang/Enum" "ordinal" "I" (.int (nI j)) (ek j) (fr N0) U U.heap := by
  have e := (h.1.1 j hj).2.2 ("java/lang/Enum", "ordinal", "I", [0, 1, 2, 3, 4, 5, 6, 7]) List.mem_cons_self
  have e2 : ([0, 1, 2, 3, 4, 5, 6, 7] : List Int32).getD j 0 = nI j := by
    rcases (show j = 0 ∨ j = 1 ∨ j = 2 ∨ j = 3 ∨ j = 4 ∨ j = 5 ∨ j = 6 ∨ j = 7 by omega) with rfl | rfl | rfl | rfl | rfl | rfl | rfl | rfl <;> rfl
  rw [← e2]
  exact e
theorem FX.pat (h : FX ek cs N0 U) {j : Nat} (hj : j < 8) : va_OF RX6 "pattern" "Ljava/lang/String;" (.ref (cs j)) (ek j) (fr N0) U U.heap := h.2.1 j hj
theorem FX.str (h : FX ek cs N0 U) : vk_S 14 strL strB cs (fun i => cs (20 + i)) (fr N0) U U.heap := h.2.2.1
theorem FX.all (h : FX ek cs N0 U) : va_Z RX6 "ALL" "[LPlumbOpinions$Kind;" (.ref (cs 40)) (fr N0) U U.heap := h.2.2.2.1
theorem FX.allT (h : FX ek cs N0 U) : va_T (.object RX6) (cs 40) 8 (fun j => .ref (ek j)) (fr N0) U U.heap := h.2.2.2.2.1
theorem FX.sw (h : FX ek cs N0 U) : va_Z RX0 "$SwitchMap$PlumbOpinions$Kind" "[I" (.ref (cs 41)) (fr N0) U U.heap := h.2.2.2.2.2.1
theorem FX.swT (h : FX ek cs N0 U) : va_T .int (cs 41) 8 (fun j => .int (nI (j + 1))) (fr N0) U U.heap := h.2.2.2.2.2.2.1
theorem FX.comp (h : FX ek cs N0 U) : va_Z RJ0 "COMPACT_STRINGS" "Z" (.int 1) (fr N0) U U.heap := h.2.2.2.2.2.2.2.1
theorem FX.sio (h : FX ek cs N0 U) : ∃ v : Value, (v = .null ∨ ∃ t, v = .ref t) ∧ va_Z RJ3 "SIOOBE_FORMATTER" "Ljava/util/function/BiFunction;" v (fr N0) U U.heap := by
  rcases h.2.2.2.2.2.2.2.2.1 with h | ⟨t, h⟩
  · exact ⟨_, Or.inl rfl, h⟩
  · exact ⟨_, Or.inr ⟨t, rfl⟩, h⟩
theorem FX.sL (h : FX ek cs N0 U) : ∀ j, j < 6 → vk_R RL (lwTx.getD j (0, "")).1 (lwTx.getD j (0, "")).2 (cs (8 + j)) U := h.2.2.2.2.2.2.2.2.2.1
theorem FX.tx (h : FX ek cs N0 U) {t : Nat × String} (ht : t ∈ exTx) : vk_R RX10 t.1 t.2 (cs (100 + t.1)) U := h.2.2.2.2.2.2.2.2.2.2.1 t ht
theorem FX.un (h : FX ek cs N0 U) : vx_Zq Bundle.tN "UNASSIGNED_STACK" Bundle.steD (fr N0) U U.heap := h.2.2.2.2.2.2.2.2.2.2.2.1
theorem FX.su (h : FX ek cs N0 U) : vx_Zq Bundle.tN "SUPPRESSED_SENTINEL" Bundle.listD (fr N0) U U.heap := h.2.2.2.2.2.2.2.2.2.2.2.2
end FXA
section WK
variable {p : Program} {l : Launch} {e : Env} {R : Room} {s : State} {m : MethodId} {args : Array Value} {below : List Frame} {meth : Method} {c : Code} {H : Heap} {locs : List Loc} {cells slots : Nat} {Q : State → Prop}
variable {cc : ByteArray} {nL : Nat} {own : String} {pc : Nat} {ls : Array Slot} {rest : List Value}
variable {D : va_G} {ct : Nat → ClassId} {ek ad cs : Nat → Nat} {N0 : Nat} {X : va_W} {F : State → Prop} {σ : Mem} {A : Nat → Prop}
/-- a field of a constant object, read by a nest mate -/
theorem kgfN (hexec : p.tables.exec = Jvm.exec) (hb : c.code = cc) {o n d ref host : String} {index q : Nat} {v : Value} (hE : va_OF o n d v q A s s.heap) (hS : va_S A s.heap H locs) (hown : s.vm.findClass own = some m.cls) (hlink : (Cond.fieldLinkNest own index ref n d host).before args s = true) (hsame : ∀ x, s.fieldFound? o n d = some x → s.fieldFound? ref n d = some x) (hdg : decode cc pc = .ok (.getfield index, 3))
    (kk : W p l e R s m args below meth c H locs cells slots Q (F0 m (pc + 3) ls (v :: rest))) : W p l e R s m args below meth c H locs cells slots Q (F0 m pc ls (.ref q :: rest)) := by
  obtain ⟨cf, k, fi, f, cell, h1, h2, h3, h4, h5, h6⟩ := hE.kept hS.2.1
  exact va_Wgetf hexec hb hown hlink (hsame _ h1) h2 h3 h4 (v := v) h5 rfl rfl hdg kk
theorem kbld (hexec : p.tables.exec = Jvm.exec) (hb : c.code = cc) {t N : Nat} {f : Nat → Int32} (hT : va_T .byte t N (fun j => .int (f j)) A s s.heap) (hS : va_S A s.heap H locs) (j : Nat) {i : Int32} (hi : i = nI j) (hj : j < N) (hn : N ≤ 1000) (hdg : decode cc pc = .ok (.baload, 1))
    (kk : W p l e R s m args below meth c H locs cells slots Q (F0 m (pc + 1) ls (.int (f j) :: rest))) : W p l e R s m args below meth c H locs cells slots Q (F0 m pc ls (.int i :: .ref t :: rest)) :=
  va_tb hexec hb hT hS (ix hi hj hn).1 (v := .int (f j)) (by rw [(ix hi hj hn).2]) hdg kk
theorem kild (hexec : p.tables.exec = Jvm.exec) (hb : c.code = cc) {t N : Nat} {f : Nat → Int32} (hT : va_T .int t N (fun j => .int (f j)) A s s.heap) (hS : va_S A s.heap H locs) (j : Nat) {i : Int32} (hi : i = nI j) (hj : j < N) (hn : N ≤ 1000) (hdg : decode cc pc = .ok (.iaload, 1))
    (kk : W p l e R s m args below meth c H locs cells slots Q (F0 m (pc + 1) ls (.int (f j) :: rest))) : W p l e R s m args below meth c H locs cells slots Q (F0 m pc ls (.int i :: .ref t :: rest)) :=
  va_ti hexec hb hT hS (ix hi hj hn).1 (v := .int (f j)) (by rw [(ix hi hj hn).2]) hdg kk
theorem kald (hexec : p.tables.exec = Jvm.exec) (hb : c.code = cc) {C : String} {t N : Nat} {f : Nat → Nat} (hT : va_T (.object C) t N (fun j => .ref (f j)) A s s.heap) (hS : va_S A s.heap H locs) (j : Nat) {i : Int32} (hi : i = nI j) (hj : j < N) (hn : N ≤ 1000) (hdg : decode cc pc = .ok (.aaload, 1))
    (kk : W p l e R s m args below meth c H locs cells slots Q (F0 m (pc + 1) ls (.ref (f j) :: rest))) : W p l e R s m args below meth c H locs cells slots Q (F0 m pc ls (.int i :: .ref t :: rest)) :=
  vb_tq hexec hb hT hS (ix hi hj hn).1 (v := .ref (f j)) (by rw [(ix hi hj hn).2]) hdg kk
/-- a call on a constant object -/
theorem cKi {C : String} {idx k n d d0 mc ms q : Nat} {y : MethodName} {bs : ByteArray} {ret : Option FieldType} {As st : List Value} {post : Int32 → Mem → Prop} (S : CallFix p m c cc nL s args BW own) (G : GI D ct ek ad N0 X F s) (hM : MI l y bs n ret d D ct ek ad N0 X F (.ref q :: As) σ post) (ok : COK C y bs n ret k) (hl : Cond.methodLink own idx y ∈ BW)
    (hrc : ∃ cell : Cell, H[q]? = some cell ∧ cell.vm.isStatics = false ∧ s.vm.findClass C = some cell.cls) (hP : wP D ct ek ad X σ H) (hS : va_S (fr N0) s.heap H locs) (hls : ls.size = nL) (hR : R = rmd d0 mc ms) (hd : d + 1 ≤ d0) (hk : As.length = k) (hst : st = As.reverse ++ .ref q :: rest) (hrest : (rest.map fun v => v.category).sum ≤ 8) (hcs : cells ≤ mc ∧ slots ≤ ms) (hdg : decode cc pc = .ok (.invokevirtual idx, 3))
    (kk : ∀ (r : Int32) (τ : Mem) (H : Heap) (locs : List Loc), post r τ → wP D ct ek ad X τ H → va_S (fr N0) s.heap H locs → W p l e R s m args below meth c H locs cells slots Q (F0 m (pc + 3) ls (.int r :: rest))) : W p l e R s m args below meth c H locs cells slots Q (F0 m pc ls st) := by
  subst hR
  subst hst
  refine va_calli (va_runV (As := As) (rest := rest) S hM (cwV k S.2.2.2.2 (gBV ok hl) rfl rfl rfl ok.2.2.2.2.1 ⟨hd, ?_⟩) ⟨GI.blind, hrc, fun U hU hW => ⟨rfl, G.at hS hU hW, by rw [hU]; exact hP⟩⟩ rfl hk hls rfl (lv_room hrest) hdg ⟨hcs.1, hcs.2⟩) hS (fun q _ h => h) (fun q h => h) (fun r u t H1 locs1 ht _ hp hB _ _ hS1 => ?_)
  · have := ok.2.2.2.2.2
    show 8 + (n + 11) + 32 * d ≤ 32 * d0
    omega
  · exact kk r u H1 locs1 hp (by rw [← ht]; exact hB) hS1
theorem cKie {C : String} {idx k n d d0 mc ms q : Nat} {y : MethodName} {bs : ByteArray} {ret : Option FieldType} {As st : List Value} {r0 : Int32} {σ0 : Mem} (S : CallFix p m c cc nL s args BW own) (G : GI D ct ek ad N0 X F s) (hM : MI l y bs n ret d D ct ek ad N0 X F (.ref q :: As) σ (fun r τ => r = r0 ∧ τ = σ0)) (ok : COK C y bs n ret k) (hl : Cond.methodLink own idx y ∈ BW)
    (hrc : ∃ cell : Cell, H[q]? = some cell ∧ cell.vm.isStatics = false ∧ s.vm.findClass C = some cell.cls) (hP : wP D ct ek ad X σ H) (hS : va_S (fr N0) s.heap H locs) (hls : ls.size = nL) (hR : R = rmd d0 mc ms) (hd : d + 1 ≤ d0) (hk : As.length = k) (hst : st = As.reverse ++ .ref q :: rest) (hrest : (rest.map fun v => v.category).sum ≤ 8) (hcs : cells ≤ mc ∧ slots ≤ ms) (hdg : decode cc pc = .ok (.invokevirtual idx, 3))
    (kk : ∀ (H : Heap) (locs : List Loc), wP D ct ek ad X σ0 H → va_S (fr N0) s.heap H locs → W p l e R s m args below meth c H locs cells slots Q (F0 m (pc + 3) ls (.int r0 :: rest))) : W p l e R s m args below meth c H locs cells slots Q (F0 m pc ls st) :=
  cKi S G hM ok hl hrc hP hS hls hR hd hk hst hrest hcs hdg (fun r τ H locs hp hP hS => by
    obtain ⟨rfl, rfl⟩ := hp
    exact kk H locs hP hS)
/-- a static call without an answer -/
theorem cSv {idx k n d d0 mc ms : Nat} {y : MethodName} {bs : ByteArray} {As st : List Value} {post : Mem → Prop} (S : CallFix p m c cc nL s args BW own) (G : GI D ct ek ad N0 X F s) (hM : MV l y bs n d D ct ek ad N0 X F As σ post) (ok : COKs y.cls y bs n none k) (hl : Cond.methodLink own idx y ∈ BW)
    (hP : wP D ct ek ad X σ H) (hS : va_S (fr N0) s.heap H locs) (hls : ls.size = nL) (hR : R = rmd d0 mc ms) (hd : d + 1 ≤ d0) (hk : As.length = k) (hst : st = As.reverse ++ rest) (hrest : (rest.map fun v => v.category).sum ≤ 8) (hcs : cells ≤ mc ∧ slots ≤ ms) (hdg : decode cc pc = .ok (.invokestatic idx, 3))
    (kk : ∀ (τ : Mem) (H : Heap) (locs : List Loc), post τ → wP D ct ek ad X τ H → va_S (fr N0) s.heap H locs → W p l e R s m args below meth c H locs cells slots Q (F0 m (pc + 3) ls rest)) : W p l e R s m args below meth c H locs cells slots Q (F0 m pc ls st) := by
  subst hR
  subst hst
  have hG : GoodIn BW (wy y bs n none) := by
    intro w hw
    rcases List.mem_cons.mp hw with rfl | hw
    · exact gd ok.2.2.1 ok.2.2.1
    · exact gd hw hw
  refine va_callv (va_runS (As := As) (rest := rest) S hM ⟨callB_of k S.2.2.2.2 hG rfl rfl rfl (S.2.2.2.2 _ ok.2.1) (S.2.2.2.2 _ hl) ok.2.2.2.1.2 ⟨hd, ?_⟩, S.2.2.2.2 _ ok.1⟩ ⟨GI.blind, fun U hU hW => ⟨rfl, G.at hS hU hW, by rw [hU]; exact hP⟩⟩ rfl hk hls rfl (lv_room hrest) hdg ⟨hcs.1, hcs.2⟩) hS (fun q _ h => h) (fun q h => h) (fun u t H1 locs1 ht _ hp hB _ _ hS1 => ?_)
  · have := ok.2.2.2.2
    show 8 + (n + 11) + 32 * d ≤ 32 * d0
    omega
  · exact kk u H1 locs1 hp (by rw [← ht]; exact hB) hS1
theorem cSve {idx k n d d0 mc ms : Nat} {y : MethodName} {bs : ByteArray} {As st : List Value} {σ0 : Mem} (S : CallFix p m c cc nL s args BW own) (G : GI D ct ek ad N0 X F s) (hM : MV l y bs n d D ct ek ad N0 X F As σ (fun τ => τ = σ0)) (ok : COKs y.cls y bs n none k) (hl : Cond.methodLink own idx y ∈ BW)
    (hP : wP D ct ek ad X σ H) (hS : va_S (fr N0) s.heap H locs) (hls : ls.size = nL) (hR : R = rmd d0 mc ms) (hd : d + 1 ≤ d0) (hk : As.length = k) (hst : st = As.reverse ++ rest) (hrest : (rest.map fun v => v.category).sum ≤ 8) (hcs : cells ≤ mc ∧ slots ≤ ms) (hdg : decode cc pc = .ok (.invokestatic idx, 3))
    (kk : ∀ (H : Heap) (locs : List Loc), wP D ct ek ad X σ0 H → va_S (fr N0) s.heap H locs → W p l e R s m args below meth c H locs cells slots Q (F0 m (pc + 3) ls rest)) : W p l e R s m args below meth c H locs cells slots Q (F0 m pc ls st) :=
  cSv S G hM ok hl hP hS hls hR hd hk hst hrest hcs hdg (fun τ H locs hp hP hS => by
    subst hp
    exact kk H locs hP hS)
end WK
theorem strL_lt {i k : Nat} (hi : i < 14) (hk : k < strL.getD i 0) : k < 8 := by
  have : ∀ i, i < 14 → strL.getD i 0 ≤ 8 := by decide +kernel
  have := this i hi
  omega
theorem sh0 (x : Int32) : x >>> ((0 : Int32) &&& 31) = x := Int32.toInt_inj.mp (by rw [pk_shr x _ 0 (by decide)]; exact Int.shiftRight_zero _)
def chB (i k : Nat) : Int32 := (strB.getD i []).getD k 0
theorem chB_all : ∀ i, i < 14 → ∀ k, k < 8 → (((chB i k &&& 255).toUInt32 % 65536).toInt32 = chB i k) ∧ narrow .char (.int (chB i k)) = .int (chB i k) := by decide +kernel
def ixB (c : Int32) : Int32 := c.toInt8.toInt32
def ixC (c : Int32) : Int32 := srch (fun k => if ([111, 115, 102, 114, 112, 98, 120, 104] : List Int32).getD k 0 = ixB c then 1 else 0) 1 8 0
def ixV (c : Int32) : Int32 := if c < 0 then -1 else if 255 < c then -1 else ixC c
theorem strL_le {i : Nat} (hi : i < 14) : strL.getD i 0 ≤ 1000 := by
  have : ∀ i, i < 14 → strL.getD i 0 ≤ 1000 := by decide +kernel
  exact this i hi
theorem ixV_1 {x : Int32} (h : ¬ (if x < 0 then (0 : Int32) else if 255 < x then 0 else 1) = 0) : ixC x = ixV x := by
  unfold ixV
  by_cases g1 : x < 0
  · exact absurd (if_pos g1) h
  · by_cases g2 : 255 < x
    · exact absurd (by rw [if_neg g1, if_pos g2]) h
    · rw [if_neg g1, if_neg g2]
theorem ixV_0 {x : Int32} (h : (if x < 0 then (0 : Int32) else if 255 < x then 0 else 1) = 0) : -1 = ixV x := by
  unfold ixV
  by_cases g1 : x < 0
  · rw [if_pos g1]
  · by_cases g2 : 255 < x
    · rw [if_neg g1, if_pos g2]
    · rw [if_neg g1, if_neg g2] at h
      exact absurd h (by decide)

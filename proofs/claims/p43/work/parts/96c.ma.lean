/-! an int[][] made at once (multianewarray of two lengths) -/
section MAN
/-- the outer row with its first k places filled, and an inner row -/
def ga (cA : ClassId) (N h k : Nat) : Cell := arrV cA N (fun i => if i < k then .ref (h + 1 + i) else .null)
def gi (comp : ClassId) (M : Nat) : Cell := arrV comp M (fun _ => .int 0)
theorem ga_up {cA : ClassId} {N h k : Nat} : (ga cA N h k).setSlot k (.ref (h + 1 + k)) = ga cA N h (k + 1) := by
  unfold ga
  rw [arrV_store]
  congr 1
  funext i
  unfold updV
  by_cases c : i = k
  · subst c; rw [if_pos rfl, if_pos (by omega)]
  · rw [if_neg c]
    show (if i < k then Value.ref (h + 1 + i) else Value.null) = _
    by_cases c2 : i < k
    · rw [if_pos c2, if_pos (by omega)]
    · rw [if_neg c2, if_neg (by omega)]
theorem ga_0 {cA : ClassId} {N h : Nat} : ga cA N h 0 = arrV cA N (fun _ => .null) := by
  unfold ga; congr 1
theorem ga_sz {cA : ClassId} {N h k : Nat} : (ga cA N h k).slots.size = N := arrV_size _ _ _
theorem gi_sz {comp : ClassId} {M : Nat} : (gi comp M).slots.size = M := arrV_size _ _ _
def gs (T : State) (cA comp : ClassId) (N M : Nat) : Nat → State
  | 0 => T.pushCell (ga cA N T.heap.size 0)
  | k + 1 => ((gs T cA comp N M k).pushCell (gi comp M)).setCell T.heap.size (ga cA N T.heap.size (k + 1))
theorem gs_f (T : State) (cA comp : ClassId) (N M : Nat) : ∀ k, (gs T cA comp N M k).heap.size = T.heap.size + 1 + k ∧ (gs T cA comp N M k).heap[T.heap.size]? = some (ga cA N T.heap.size k) ∧ (gs T cA comp N M k).vm = T.vm ∧ (gs T cA comp N M k).slotsUsed = T.slotsUsed + N + k * M ∧
    (∀ q : Nat, q < T.heap.size → (gs T cA comp N M k).heap[q]? = T.heap[q]?) ∧ ∀ j, j < k → (gs T cA comp N M k).heap[T.heap.size + 1 + j]? = some (gi comp M)
  | 0 => by
    refine ⟨by show (T.heap.push _).size = _; rw [Array.size_push], Array.getElem?_push_size, rfl, ?_, fun q hq => ?_, fun j hj => absurd hj (Nat.not_lt_zero _)⟩
    · show T.slotsUsed + (ga cA N T.heap.size 0).slots.size = _
      rw [ga_sz, Nat.zero_mul, Nat.add_zero]
    · show (T.heap.push _)[q]? = _
      rw [Array.getElem?_push, if_neg (Nat.ne_of_lt hq)]
  | k + 1 => by
    obtain ⟨a, b, d, u, o, i⟩ := gs_f T cA comp N M k
    have hp : ∀ q : Nat, ¬ q = T.heap.size → (gs T cA comp N M (k + 1)).heap[q]? = ((gs T cA comp N M k).heap.push (gi comp M))[q]? := fun q hq => by
      show (((gs T cA comp N M k).heap.push (gi comp M)).setIfInBounds T.heap.size _)[q]? = _
      rw [Array.getElem?_setIfInBounds, if_neg (fun z => hq z.symm)]
    refine ⟨?_, ?_, d, ?_, fun q hq => ?_, fun j hj => ?_⟩
    · show (((gs T cA comp N M k).heap.push (gi comp M)).setIfInBounds T.heap.size _).size = _
      rw [Array.size_setIfInBounds, Array.size_push, a]; omega
    · show (((gs T cA comp N M k).heap.push (gi comp M)).setIfInBounds T.heap.size _)[T.heap.size]? = _
      rw [Array.getElem?_setIfInBounds, if_pos rfl, if_pos (by rw [Array.size_push, a]; omega)]
    · show (gs T cA comp N M k).slotsUsed + (gi comp M).slots.size = _
      rw [gi_sz, u, Nat.succ_mul]; omega
    · rw [hp q (by omega), Array.getElem?_push, if_neg (by rw [a]; omega)]
      exact o q hq
    · rw [hp _ (by omega), Array.getElem?_push, a]
      by_cases c : j = k
      · subst c; rw [if_pos rfl]
      · rw [if_neg (by omega)]; exact i j (by omega)
theorem gs_top (T : State) (f : JFrame) (cA comp : ClassId) (N M : Nat) : ∀ k, gs (T.setTop f) cA comp N M k = (gs T cA comp N M k).setTop f
  | 0 => rfl
  | k + 1 => by
    show ((gs (T.setTop f) cA comp N M k).pushCell (gi comp M)).setCell (T.setTop f).heap.size _ = _
    rw [gs_top T f cA comp N M k, State.heap_setTop, State.pushCell_setTop, State.setCell_setTop]
    rfl
section MAW
variable {e : Env} {d : Bool} {acts : List Action} {s : State} {E : CtlPost}
/-- one row, of nulls or of zeros -/
theorem wp_row {c comp : ClassId} {k : Class} {type : FieldType} {len : Nat} {x : Value} (hk : s.vm.classes[c]? = some k) (hkind : k.kind = .array comp type)
    (hlimit : ¬ len > e.platform.arrayLengthLimit) (hheap : ¬ len * componentBytes type > e.platform.maxHeapBytes) (hfit : fits type x = true) (hdef : x.isDefault = true) {Q : Addr → Pre}
    (h1 : s.heap.size < e.platform.maxCells) (h2 : s.slotsUsed + len ≤ e.platform.maxSlots)
    (hq : Q s.heap.size d acts (s.pushCell (arrV c len (fun _ => x)))) : wp (Jvm.newArray c len x) Q E e d acts s := by
  have hf : ∀ i v, (Array.replicate len x)[i]? = some v → s.fitsSlot c .none i v = true := by
    intro i v hv
    rw [Array.getElem?_replicate] at hv
    by_cases hi : i < len
    · rw [if_pos hi] at hv
      cases hv
      simp [State.fitsSlot, State.slotType?, hk, hkind, hfit]
    · rw [if_neg hi] at hv; cases hv
  have ha : allocActs (Array.replicate len x) s.heap.size acts = acts := by
    unfold allocActs
    rw [if_pos (by rw [Array.all_replicate]; split <;> simp [hdef])]
  rw [← arrV_new] at hq
  simp only [Jvm.newArray, Jvm.arrayFits, wp_bind', W.ask, W.ite, hlimit, if_false, wp_pure', W.theClass, hk, hkind, hheap, W.alloc, W.stop, Option.some.injEq, exists_eq_left', Array.size_replicate, ha]
  rw [if_neg (by omega)]
  exact ⟨h1, h2, hf, hq⟩
/-- n rows of m zeros -/
theorem wp_rows {c comp cc : ClassId} {k kc : Class} {n m : Int32} {N M : Nat} (hk : s.vm.classes[c]? = some k) (hkind : k.kind = .array comp (.array .int)) (hkc : s.vm.classes[comp]? = some kc) (hkindc : kc.kind = .array cc .int)
    (hn : ¬ n < 0) (hm : ¬ m < 0) (hN : n.toNatClampNeg = N) (hM : m.toNatClampNeg = M) (hl : ¬ N > e.platform.arrayLengthLimit ∧ ¬ M > e.platform.arrayLengthLimit) (hb : ¬ N * 4 > e.platform.maxHeapBytes ∧ ¬ M * 4 > e.platform.maxHeapBytes)
    (hc : s.heap.size + 1 + N ≤ e.platform.maxCells) (hs : s.slotsUsed + N + N * M ≤ e.platform.maxSlots)
    {Q : Addr → Pre} (hq : ∀ d' acts', Q s.heap.size d' acts' (gs s c comp N M N)) : wp (multianewarray.make c [n, m]) Q E e d acts s := by
  have hfind : ([m].find? (· < 0)) = none := by simp [hm]
  have hz : s.slotsUsed + N ≤ e.platform.maxSlots := by have := Nat.zero_le (N * M); omega
  rw [multianewarray.make]
  simp only [wp_bind', W.ite, hn, if_false, wp_pure', W.theClass, hk, hkind, Option.some.injEq, exists_eq_left', hN]
  refine wp_row hk hkind hl.1 hb.1 rfl rfl (by omega) hz ?_
  rw [← ga_0 (h := s.heap.size)]
  simp only [hfind]
  rw [ite_self, wp_bind', Std.Legacy.Range.forIn_eq_forIn_range']
  have hsz : ([:N] : Std.Legacy.Range).size = N := by simp [Std.Legacy.Range.size]
  rw [hsz]
  show wp (forIn (List.range' 0 N 1) PUnit.unit _) _ E e d acts _
  refine wp_forIn_inv (fun rest s' => ∃ i, i ≤ N ∧ rest = List.range' i (N - i) ∧ s' = gs s c comp N M i) _ _ ⟨0, Nat.zero_le _, rfl, rfl⟩ ?_ ?_
  · rintro x rest s' d' acts' Q' ⟨i, hi, hr, rfl⟩ hnext
    have hlt : i < N := by
      rcases Nat.lt_or_ge i N with h | h
      · exact h
      · rw [show N - i = 0 from by omega] at hr; simp at hr
    rw [show N - i = (N - (i + 1)) + 1 from by omega, List.range'_succ] at hr
    obtain ⟨h1, h2⟩ := List.cons.inj hr
    subst h1
    obtain ⟨f1, f2, f3, f4, -, -⟩ := gs_f s c comp N M x
    have hmul : x * M + M ≤ N * M := by
      have := Nat.mul_le_mul_right M (show x + 1 ≤ N from hlt)
      rw [Nat.succ_mul] at this; exact this
    simp only [wp_bind']
    rw [multianewarray.make]
    simp only [wp_bind', W.ite, hm, if_false, wp_pure', W.theClass, show (gs s c comp N M x).vm.classes[comp]? = some kc from by rw [f3]; exact hkc, hkindc, Option.some.injEq, exists_eq_left', hM]
    refine wp_row (by rw [f3]; exact hkc) hkindc hl.2 hb.2 rfl rfl (by rw [f1]; omega) (by rw [f4]; omega) ?_
    have hlt0 : s.heap.size < (gs s c comp N M x).heap.size := by rw [f1]; omega
    simp only [wp_bind', W.writeLoc, wp_pure']
    refine ⟨ga c N s.heap.size x, ?_, (by show VmData.none ≠ VmData.unknown; intro h; cases h), by rw [ga_sz]; exact hlt, ?_, hnext _ _ _ ⟨x + 1, hlt, h2, ?_⟩⟩
    · show ((gs s c comp N M x).heap.push _)[s.heap.size]? = _
      rw [Array.getElem?_push, if_neg (by omega)]; exact f2
    · show State.fitsSlot _ (ga c N s.heap.size x).cls (ga c N s.heap.size x).vm x _ = true
      simp [ga, arrV, State.fitsSlot, State.slotType?, f3, hk, hkind, fits]
    · rw [f1, ga_up]; rfl
  · rintro s' d' acts' ⟨i, hi, hr, rfl⟩
    have hiN : i = N := by
      rcases Nat.lt_or_ge i N with h | h
      · rw [show N - i = (N - (i + 1)) + 1 from by omega, List.range'_succ] at hr; cases hr
      · omega
    subst hiN
    simp only [wp_pure']
    exact hq _ _
end MAW
section MAX
variable {p : Program} {l : Launch} {e : Env} {R : Room} {s : State} {m : MethodId} {args : Array Value} {below : List Frame} {meth : Method} {c : Code} {H : Heap} {locs : List Loc} {cells slots : Nat} {Q : State → Prop}
theorem gs_st {T : State} (X : Stand p l e R s m args below meth c T locs cells slots) (cA comp : ClassId) (N M : Nat) : ∀ k, Stand p l e R s m args below meth c (gs T cA comp N M k) (locs ++ (List.range k).map fun j => ⟨T.heap.size, j⟩) (cells + 1 + k) (slots + N + k * M)
  | 0 => by
    have h := X.pushed (ga cA N T.heap.size 0)
    rw [ga_sz] at h
    simpa [gs] using h
  | k + 1 => by
    have Xk := gs_st X cA comp N M k
    obtain ⟨f1, f2, -⟩ := gs_f T cA comp N M k
    have hcell : ((gs T cA comp N M k).pushCell (gi comp M)).heap[T.heap.size]? = some (ga cA N T.heap.size k) := by
      show ((gs T cA comp N M k).heap.push _)[T.heap.size]? = _
      rw [Array.getElem?_push, if_neg (by omega)]; exact f2
    have h := (Xk.pushed (gi comp M)).stored hcell k (.ref (T.heap.size + 1 + k))
    rw [gi_sz, ga_up] at h
    have e2 : (locs ++ (List.range (k + 1)).map fun j => (⟨T.heap.size, j⟩ : Loc)) = (locs ++ (List.range k).map fun j => (⟨T.heap.size, j⟩ : Loc)) ++ [⟨T.heap.size, k⟩] := by simp [List.range_succ, List.append_assoc]
    have e3 : slots + N + (k + 1) * M = slots + N + k * M + M := by rw [Nat.succ_mul]; omega
    rw [e2, e3]
    exact h
theorem W.mana {cc : ByteArray} (hexec : p.tables.exec = Jvm.exec) (hb : c.code = cc) {own nm : String} {index : Nat} {cA comp ci : ClassId} {kA kC : Class} (hown : s.vm.findClass own = some m.cls) (hclink : (Cond.classLink own index nm).before args s = true) (hnm : s.vm.findClass nm = some cA) (hkA : s.vm.classes[cA]? = some kA) (hkindA : kA.kind = .array comp (.array .int)) (hkC : s.vm.classes[comp]? = some kC) (hkindC : kC.kind = .array ci .int)
    {pc : Nat} {ls : Array Slot} {rest : List Value} {n k : Int32} {N M : Nat} (hdg : decode cc pc = .ok (.multianewarray index 2, 4)) (hn : ¬ n < 0) (hk : ¬ k < 0) (hN : n.toNatClampNeg = N) (hM : k.toNatClampNeg = M) (hs : N ≤ 1000 ∧ M ≤ 1000) (hcells : cells + (1 + N) ≤ R.cells) (hslots : slots + (N + N * M) ≤ R.slots)
    (kk : ∀ H1 : Heap, H1.size = H.size + 1 + N → H1[H.size]? = some (ga cA N H.size N) → (∀ j, j < N → H1[H.size + 1 + j]? = some (gi comp M)) → (∀ q : Nat, q < H.size → H1[q]? = H[q]?) →
      W p l e R s m args below meth c H1 (locs ++ (List.range N).map fun j => ⟨H.size, j⟩) (cells + 1 + N) (slots + N + N * M) Q (F0 m (pc + 4) ls (.ref H.size :: rest))) : W p l e R s m args below meth c H locs cells slots Q (F0 m pc ls (.int k :: .int n :: rest)) := by
  intro T hT X
  subst hT; subst hb
  have hpl : e.platform.magicAccessors = ({} : Platform).magicAccessors := by rw [X.admits.platform]
  obtain ⟨c0, hfc0, hcl⟩ := Cond.classLink_spec hown hclink e.platform hpl
  cases hnm.symm.trans hfc0
  obtain ⟨hg₁, hwarm₁, hready₁⟩ := State.classEntry (e := e) X.warmed hcl
  generalize T.vm.noted m.cls index (.cls cA) = vm₁ at hg₁ hwarm₁ hready₁
  have hal : s.vm.Alike vm₁ := hwarm₁.alike
  obtain ⟨kA₁, hkA₁, heA⟩ := hal.2.2 _ _ hkA
  obtain ⟨kC₁, hkC₁, heC⟩ := hal.2.2 _ _ hkC
  have hkindA₁ : kA₁.kind = .array comp (.array .int) := by rw [heA]; exact hkindA
  have hkindC₁ : kC₁.kind = .array ci .int := by rw [heC]; exact hkindC
  have X₁ := X.noted hwarm₁
  have XF := gs_st X₁ cA comp N M N
  obtain ⟨hr1, hr2⟩ := X.roomAbove hcells hslots
  obtain ⟨f1, f2, f3, f4, f5, f6⟩ := gs_f (T.setVm vm₁) cA comp N M N
  have hl1 : ¬ N > e.platform.arrayLengthLimit := by rw [Launch.admits_arrayLengthLimit X.admits]; omega
  have hl2 : ¬ M > e.platform.arrayLengthLimit := by rw [Launch.admits_arrayLengthLimit X.admits]; omega
  have hh1 : ¬ N * 4 > e.platform.maxHeapBytes := by rw [Launch.admits_maxHeapBytes X.admits]; omega
  have hh2 : ¬ M * 4 > e.platform.maxHeapBytes := by rw [Launch.admits_maxHeapBytes X.admits]; omega
  obtain ⟨t', a1, b1⟩ := kk (gs (T.setVm vm₁) cA comp N M N).heap f1 f2 f6 f5 (gs (T.setVm vm₁) cA comp N M N) rfl XF
  refine ⟨t', ?_, b1⟩
  jvm_step X.here [hexec, hdg]
  simp only [multianewarray.sem, wp_bind', W.resolveClassAt_links (State.method?_setTop (F0 m pc ls (.int k :: .int n :: rest)) X.here.top) hg₁]
  rw [W.popN, if_neg (by decide)]
  refine ⟨F0 m pc ls (.int k :: .int n :: rest), State.topJava?_setTop' (s := T.setVm vm₁) _ X.here.top, [.int n, .int k], rest, rfl, rfl, ?_⟩
  simp only [List.mapM_cons, List.mapM_nil, wp_bind', wp_pure']
  refine wp_rows (k := kA₁) (kc := kC₁) (comp := comp) (cc := ci) (N := N) (M := M) hkA₁ hkindA₁ hkC₁ hkindC₁ hn hk hN hM ⟨hl1, hl2⟩ ⟨hh1, hh2⟩ (by show T.heap.size + 1 + _ ≤ _; omega) (by show T.slotsUsed + _ + _ ≤ _; omega) (fun d' acts' => ?_)
  have eS : ∀ g g' : JFrame, ((T.setTop g).setVm vm₁).setTop g' = (T.setVm vm₁).setTop g' := fun g g' => by
    show ((T.setVm vm₁).setTop g).setTop _ = _
    rw [State.setTop_setTop]
  rw [eS, gs_top]
  simp only [wp_bind', W.mark, W.pushRef, State.topJava?_setTop' _ XF.here.top, Option.some.injEq, exists_eq_left', State.setTop_setTop, State.heap_setTop]
  intro acts
  simp [jvm, XF.here.top]
  exact a1
end MAX
end MAN

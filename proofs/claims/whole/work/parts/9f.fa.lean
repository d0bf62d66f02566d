/-! what the premises give: the kinds, their patterns, the texts, the tables of the JDK -/
def gvL : List Cond := flatC (Jvm.Cond.and given_1 narrow_1)
def PN9 : List Nat := [52, 58, 61, 64, 67, 70, 73, 76]
abbrev sT9 (i : Nat) : Term := .static RX6 (KN.getD i "") KD
abbrev aT9 : Term := .static RX6 "ALL" "[LPlumbOpinions$Kind;"
abbrev wT9 : Term := .static RX0 "$SwitchMap$PlumbOpinions$Kind" "[I"
def tm9 (i : Nat) : Term := if i < 8 then .string RX6 (PN9.getD i 0) else .string RX11 216
theorem g_ex' : ∀ i, i < 8 → gvL[([11, 7, 29, 4, 35, 42, 50, 59] : List Nat).getD i 0]? = some (Cond.exactly (sT9 i) RX6) := by decide +kernel
theorem g_ex : ∀ i, i < 8 → Cond.exactly (sT9 i) RX6 ∈ gvL := fun i hi => List.mem_of_getElem? (g_ex' i hi)
theorem g_lay' : ∀ i, i < 8 → lw_tbl[([503, 501, 766, 272, 783, 792, 801, 810] : List Nat).getD i 0]? = some (Cond.laysStatic RX6 (KN.getD i "") KD) := by decide +kernel
theorem g_lay : ∀ i, i < 8 → Cond.laysStatic RX6 (KN.getD i "") KD ∈ lw_tbl := fun i hi => List.mem_of_getElem? (g_lay' i hi)
theorem g_ord' : ∀ i, i < 8 → gvL[([12, 8, 30, 5, 36, 43, 51, 60] : List Nat).getD i 0]? = some (Cond.eq (.field (sT9 i) "java/lang/Enum" "ordinal" "I") (.int (([0, 1, 2, 3, 4, 5, 6, 7] : List Int32).getD i 0))) := by decide +kernel
theorem g_ord : ∀ i, i < 8 → Cond.eq (.field (sT9 i) "java/lang/Enum" "ordinal" "I") (.int (([0, 1, 2, 3, 4, 5, 6, 7] : List Int32).getD i 0)) ∈ gvL := fun i hi => List.mem_of_getElem? (g_ord' i hi)
theorem g_pat' : ∀ i, i < 8 → gvL[([13, 9, 31, 6, 37, 44, 52, 61] : List Nat).getD i 0]? = some (Cond.eq (.field (sT9 i) RX6 "pattern" "Ljava/lang/String;") (tm9 i)) := by decide +kernel
theorem g_pat : ∀ i, i < 8 → Cond.eq (.field (sT9 i) RX6 "pattern" "Ljava/lang/String;") (tm9 i) ∈ gvL := fun i hi => List.mem_of_getElem? (g_pat' i hi)
def neI : List Nat := [0, 0, 34, 0, 40, 47, 55, 64, 15, 0, 33, 0, 39, 46, 54, 63, 0, 0, 0, 0, 41, 48, 56, 65, 14, 10, 32, 0, 38, 45, 53, 62, 0, 0, 0, 0, 0, 49, 57, 66, 0, 0, 0, 0, 0, 0, 58, 67, 0, 0, 0, 0, 0, 0, 0, 68, 0, 0, 0, 0, 0, 0, 0, 0]
theorem g_ne' : ∀ i, i < 8 → ∀ j, j < 8 → i ≠ j → gvL[neI.getD (8 * i + j) 0]? = some (Cond.not (.eq (sT9 i) (sT9 j))) ∨ gvL[neI.getD (8 * j + i) 0]? = some (Cond.not (.eq (sT9 j) (sT9 i))) := by decide +kernel
theorem g_ne : ∀ i, i < 8 → ∀ j, j < 8 → i ≠ j → Cond.not (.eq (sT9 i) (sT9 j)) ∈ gvL ∨ Cond.not (.eq (sT9 j) (sT9 i)) ∈ gvL := fun i hi j hj h => (g_ne' i hi j hj h).elim (fun q => Or.inl (List.mem_of_getElem? q)) (fun q => Or.inr (List.mem_of_getElem? q))
theorem g_sx' : ∀ i, i < 9 → gvL[([914, 907, 921, 902, 930, 938, 947, 953, 890] : List Nat).getD i 0]? = some (Cond.exactly (tm9 i) "java/lang/String") := by decide +kernel
theorem g_sx : ∀ i, i < 9 → Cond.exactly (tm9 i) "java/lang/String" ∈ gvL := fun i hi => List.mem_of_getElem? (g_sx' i hi)
theorem g_sc' : ∀ i, i < 9 → gvL[([915, 908, 922, 903, 931, 939, 948, 954, 891] : List Nat).getD i 0]? = some (Cond.eq (.field (tm9 i) "java/lang/String" "coder" "B") (.int 0)) := by decide +kernel
theorem g_sc : ∀ i, i < 9 → Cond.eq (.field (tm9 i) "java/lang/String" "coder" "B") (.int 0) ∈ gvL := fun i hi => List.mem_of_getElem? (g_sc' i hi)
theorem g_sv' : ∀ i, i < 9 → gvL[([916, 909, 923, 904, 932, 940, 949, 955, 892] : List Nat).getD i 0]? = some (Cond.arrayOf (.field (tm9 i) "java/lang/String" "value" "[B") .byte) := by decide +kernel
theorem g_sv : ∀ i, i < 9 → Cond.arrayOf (.field (tm9 i) "java/lang/String" "value" "[B") .byte ∈ gvL := fun i hi => List.mem_of_getElem? (g_sv' i hi)
theorem g_sl' : ∀ i, i < 9 → gvL[([917, 910, 924, 905, 933, 941, 950, 956, 893] : List Nat).getD i 0]? = some (Cond.eq (.length (.field (tm9 i) "java/lang/String" "value" "[B")) (.int (Int32.ofNat (strL.getD i 0)))) := by decide +kernel
theorem g_sl : ∀ i, i < 9 → Cond.eq (.length (.field (tm9 i) "java/lang/String" "value" "[B")) (.int (Int32.ofNat (strL.getD i 0))) ∈ gvL := fun i hi => List.mem_of_getElem? (g_sl' i hi)
theorem g_se' : ∀ i, i < 9 → ∀ j, j < strL.getD i 0 → gvL[([918, 911, 925, 906, 934, 942, 951, 957, 894] : List Nat).getD i 0 + j]? = some (Cond.eq (.elem (.field (tm9 i) "java/lang/String" "value" "[B") (.int (Int32.ofNat j))) (.int ((strB.getD i []).getD j 0))) := by decide +kernel
theorem g_se : ∀ i, i < 9 → ∀ j, j < strL.getD i 0 → Cond.eq (.elem (.field (tm9 i) "java/lang/String" "value" "[B") (.int (Int32.ofNat j))) (.int ((strB.getD i []).getD j 0)) ∈ gvL := fun i hi j hj => List.mem_of_getElem? (g_se' i hi j hj)
theorem g_sd : ∀ i, i < 9 → ∀ j, j < 9 → (strB.getD i []).getD 0 0 = (strB.getD j []).getD 0 0 → (1 < strL.getD i 0 → 1 < strL.getD j 0 → (strB.getD i []).getD 1 0 = (strB.getD j []).getD 1 0) → i = j := by decide +kernel
theorem g_s0 : ∀ i, i < 9 → 0 < strL.getD i 0 ∧ strL.getD i 0 < 2 ^ 31 := by decide +kernel
theorem g_a : Cond.arrayOf aT9 (.object RX6) ∈ gvL ∧ Cond.eq (.length aT9) (.int 8) ∈ gvL := by decide +kernel
theorem g_ae' : ∀ i, i < 8 → gvL[([74, 75, 76, 77, 78, 79, 80, 81] : List Nat).getD i 0]? = some (Cond.eq (.elem aT9 (.int (Int32.ofNat i))) (sT9 i)) := by decide +kernel
theorem g_ae : ∀ i, i < 8 → Cond.eq (.elem aT9 (.int (Int32.ofNat i))) (sT9 i) ∈ gvL := fun i hi => List.mem_of_getElem? (g_ae' i hi)
theorem g_w : Cond.arrayOf wT9 .int ∈ gvL ∧ Cond.eq (.length wT9) (.int 8) ∈ gvL := by decide +kernel
theorem g_we' : ∀ i, i < 8 → gvL[([19, 20, 21, 22, 23, 24, 25, 26] : List Nat).getD i 0]? = some (Cond.eq (.elem wT9 (.int (Int32.ofNat i))) (.int (nI (i + 1)))) := by decide +kernel
theorem g_we : ∀ i, i < 8 → Cond.eq (.elem wT9 (.int (Int32.ofNat i))) (.int (nI (i + 1))) ∈ gvL := fun i hi => List.mem_of_getElem? (g_we' i hi)
theorem g_t : Cond.laysStatic RX6 "ALL" "[LPlumbOpinions$Kind;" ∈ lw_tbl ∧ Cond.laysStatic RX0 "$SwitchMap$PlumbOpinions$Kind" "[I" ∈ lw_tbl ∧ Cond.laysStatic RJ0 "COMPACT_STRINGS" "Z" ∈ lw_tbl ∧ Cond.laysStatic RJ3 "SIOOBE_FORMATTER" "Ljava/util/function/BiFunction;" ∈ lw_tbl ∧ Cond.laysStatic Bundle.tN "UNASSIGNED_STACK" Bundle.steD ∈ lw_tbl ∧ Cond.laysStatic Bundle.tN "SUPPRESSED_SENTINEL" Bundle.listD ∈ lw_tbl := by decide +kernel
theorem g_i : Cond.initialized RX6 ∈ lw_tbl ∧ Cond.initialized RX0 ∈ lw_tbl ∧ Cond.initialized RJ0 ∈ lw_tbl ∧ Cond.initialized RJ3 ∈ lw_tbl ∧ Cond.initialized Bundle.tN ∈ lw_tbl := by decide +kernel
theorem g_q : Cond.eq (.static RJ0 "COMPACT_STRINGS" "Z") (.int 1) ∈ gvL ∧ Cond.isRef (.static RJ3 "SIOOBE_FORMATTER" "Ljava/util/function/BiFunction;") ∈ gvL ∧ Cond.isRef (.static Bundle.tN "UNASSIGNED_STACK" Bundle.steD) ∈ gvL ∧ Cond.isRef (.static Bundle.tN "SUPPRESSED_SENTINEL" Bundle.listD) ∈ gvL := by decide +kernel
theorem g_s8 : Cond.stringRef RX11 216 "osfrpbxh" ∈ lw_tbl := by decide +kernel
theorem g_xt' : ∀ i, i < 24 → lw_tbl[([721, 857, 879, 905, 907, 965, 984, 994, 1002, 1012, 1013, 1022, 1042, 1050, 1064, 1101, 1206, 1207, 1215, 1216, 1237, 1289, 1297, 1309] : List Nat).getD i 0]? = some (Cond.stringRef RX10 (exTx.getD i (0, "")).1 (exTx.getD i (0, "")).2) ∧ gvL[([226, 243, 270, 309, 334, 371, 401, 433, 461, 492, 511, 539, 574, 596, 624, 650, 677, 701, 725, 764, 787, 813, 841, 866] : List Nat).getD i 0]? = some (Cond.exactly (.string RX10 (exTx.getD i (0, "")).1) "java/lang/String") := by decide +kernel
theorem g_xt : ∀ t ∈ exTx, Cond.stringRef RX10 t.1 t.2 ∈ lw_tbl ∧ Cond.exactly (.string RX10 t.1) "java/lang/String" ∈ gvL := fun t ht => by
  obtain ⟨i, hi, e⟩ := List.getElem_of_mem ht
  have h := g_xt' i hi
  have e2 : exTx.getD i (0, "") = t := by rw [List.getD_eq_getElem?_getD, List.getElem?_eq_getElem hi, e]; rfl
  rw [e2] at h
  exact ⟨List.mem_of_getElem? h.1, List.mem_of_getElem? h.2⟩
theorem g_nc' : ∀ i, i < 4 → gvL[([116, 117, 134, 131] : List Nat).getD i 0]? = some (Cond.not (.castable (ncL.getD i ("", "")).1 (ncL.getD i ("", "")).2)) := by decide +kernel
theorem g_nc : ∀ q ∈ ncL, Cond.not (.castable q.1 q.2) ∈ gvL := fun q hq => by
  obtain ⟨i, hi, e⟩ := List.getElem_of_mem hq
  have h := g_nc' i hi
  have e2 : ncL.getD i ("", "") = q := by rw [List.getD_eq_getElem?_getD, List.getElem?_eq_getElem hi, e]; rfl
  rw [e2] at h
  exact List.mem_of_getElem? h
theorem OF_u {o n d : String} {v v' : Value} {t : Nat} {A : Nat → Prop} {U : State} {H : Heap} (h : va_OF o n d v t A U H) (h' : va_OF o n d v' t A U H) : v = v' := by
  obtain ⟨cf, k, i, f, cell, a1, a2, a3, a4, a5, a6⟩ := h
  obtain ⟨cf', k', i', f', cell', b1, b2, b3, b4, b5, b6⟩ := h'
  have e := Option.some.inj (a1.symm.trans b1)
  simp only [Prod.mk.injEq] at e
  obtain ⟨-, -, -, rfl⟩ := e
  cases a3.symm.trans b3
  exact Option.some.inj (a5.symm.trans b5)
theorem T_u {ty : FieldType} {t N N' j : Nat} {f f' : Nat → Value} {A : Nat → Prop} {U : State} {H : Heap} (h : va_T ty t N f A U H) (h' : va_T ty t N' f' A U H) (hj : j < N) (hj' : j < N') : f j = f' j := by
  obtain ⟨cell, a1, a2, a3, a4, a5, a6, a7⟩ := h
  obtain ⟨cell', b1, b2, b3, b4, b5, b6, b7⟩ := h'
  cases a1.symm.trans b1
  exact Option.some.inj ((a6 j hj).symm.trans (b6 j hj'))
theorem fy_of {args : Array Value} {s : State} (hts : ∀ w ∈ lw_tbl, w.before args s = true) (hgv : (Jvm.Cond.and given_1 narrow_1).before args s = true) : FY s :=
  ⟨fun w hw hx => va_Nw.of (xt_tab hx) (hts w hw), fun q hq => va_Nc.of (flat_of_before _ hgv _ (g_nc q hq))⟩
theorem fx_of {args : Array Value} {s : State} (hts : ∀ w ∈ lw_tbl, w.before args s = true) (hgv : (Jvm.Cond.and given_1 narrow_1).before args s = true) : ∃ ek cs : Nat → Nat, FX ek cs s.heap.size s := by
  have hs : ∀ w ∈ gvL, w.before args s = true := flat_of_before _ hgv
  have hA : ∀ a : Nat, a < s.heap.size → ¬ fr s.heap.size a := fun a h => Nat.not_le.mpr h
  have hini := hts _ g_i.1
  -- the kinds
  have h0 : ∀ i : Nat, ∃ t : Nat, i < 8 → (sT9 i).eval args s none [] s = some (.ref t) ∧ va_O RX6 t (fr s.heap.size) s s.heap := by
    intro i
    by_cases hi : i < 8
    · obtain ⟨a, c, cell, k, q1, q2, q3, q4, q5, q6, -⟩ := Cond.exactly_spec (hs _ (g_ex i hi))
      exact ⟨a, fun _ => ⟨q1, cell, q3, q5, by rw [q6]; exact q2, hA a (Array.getElem?_eq_some_iff.mp q3).1⟩⟩
    · exact ⟨0, fun h => absurd h hi⟩
  obtain ⟨ek, hek⟩ := Classical.axiomOfChoice h0
  have hEn : va_En RX6 KD KN KF ek (fr s.heap.size) s s.heap := by
    refine ⟨fun i hi => ?_, fun i j hi hj e => ?_⟩
    · have hi : i < 8 := hi
      refine ⟨va_Zref (hts _ (g_lay i hi)) hini (hek i hi).1 hA, (hek i hi).2, fun q hq => ?_⟩
      rcases List.mem_singleton.mp hq with rfl
      exact vk_OFof (hek i hi).1 (va_eqt (hs _ (g_ord i hi))) hA
    · have hi : i < 8 := hi
      have hj : j < 8 := hj
      by_cases hij : i = j
      · exact hij
      · rcases g_ne i hi j hj hij with h | h
        · exact absurd e (va_neR (hs _ h) (hek i hi).1 (hek j hj).1)
        · exact absurd e.symm (va_neR (hs _ h) (hek j hj).1 (hek i hi).1)
  -- the texts
  have h1 : ∀ i : Nat, ∃ q : Nat × Nat, i < 9 → (tm9 i).eval args s none [] s = some (.ref q.1) ∧ va_O "java/lang/String" q.1 (fr s.heap.size) s s.heap ∧ va_OF "java/lang/String" "coder" "B" (.int 0) q.1 (fr s.heap.size) s s.heap ∧ va_OF "java/lang/String" "value" "[B" (.ref q.2) q.1 (fr s.heap.size) s s.heap ∧ va_T .byte q.2 (strL.getD i 0) (fun j => .int ((strB.getD i []).getD j 0)) (fr s.heap.size) s s.heap := by
    intro i
    by_cases hi : i < 9
    · obtain ⟨a, c, cA, kA, q1, q2, q3, q4, q5, q6, -⟩ := Cond.exactly_spec (hs _ (g_sx i hi))
      obtain ⟨t, ht, hT⟩ := va_Tof (f := fun j => .int ((strB.getD i []).getD j 0)) (A := fr s.heap.size) (g_s0 i hi).2 (hs _ (g_sv i hi)) (va_eqt (hs _ (g_sl i hi))) (fun j hj => va_eqt (hs _ (g_se i hi j hj))) hA
      exact ⟨(a, t), fun _ => ⟨q1, ⟨cA, q3, q5, by rw [q6]; exact q2, hA a (Array.getElem?_eq_some_iff.mp q3).1⟩, vk_OFof q1 (va_eqt (hs _ (g_sc i hi))) hA, vk_OFof q1 ht hA, hT⟩⟩
    · exact ⟨(0, 0), fun h => absurd h hi⟩
  obtain ⟨sa, hsa⟩ := Classical.axiomOfChoice h1
  -- the exceptions' texts
  have h2 : ∀ k : Nat, ∃ a : Nat, (∃ t ∈ exTx, t.1 = k) → (Term.string RX10 k).eval args s none [] s = some (.ref a) := by
    intro k
    by_cases hk : ∃ t ∈ exTx, t.1 = k
    · obtain ⟨t, ht, rfl⟩ := hk
      obtain ⟨a, c, cA, kA, q1, -⟩ := Cond.exactly_spec (hs _ (g_xt t ht).2)
      exact ⟨a, fun _ => q1⟩
    · exact ⟨0, fun h => absurd h hk⟩
  obtain ⟨xa, hxa⟩ := Classical.axiomOfChoice h2
  obtain ⟨tA, htA, hTA⟩ := va_Tof (f := fun j => .ref (ek j)) (A := fr s.heap.size) (N := 8) (by decide) (hs _ g_a.1) (va_eqt (hs _ g_a.2)) (fun j hj => va_eqv (hs _ (g_ae j hj)) (hek j hj).1) hA
  obtain ⟨tW, htW, hTW⟩ := va_Tof (f := fun j => .int (nI (j + 1))) (A := fr s.heap.size) (N := 8) (by decide) (hs _ g_w.1) (va_eqt (hs _ g_w.2)) (fun j hj => va_eqt (hs _ (g_we j hj))) hA
  obtain ⟨cs, hcs⟩ : ∃ cs : Nat → Nat, cs = fun x => if x < 9 then (sa x).1 else if x < 29 then (sa (x - 20)).2 else if x = 40 then tA else if x = 41 then tW else xa (x - 100) := ⟨_, rfl⟩
  have e1 : ∀ i, i < 9 → cs i = (sa i).1 := fun i hi => by rw [hcs]; exact if_pos hi
  have e2 : ∀ i, i < 9 → cs (20 + i) = (sa i).2 := fun i hi => by
    rw [hcs]
    show (if 20 + i < 9 then _ else if 20 + i < 29 then (sa (20 + i - 20)).2 else _) = _
    rw [if_neg (by omega), if_pos (by omega), show 20 + i - 20 = i by omega]
  have e3 : cs 40 = tA := by rw [hcs]; rfl
  have e4 : cs 41 = tW := by rw [hcs]; rfl
  have e5 : ∀ k, cs (100 + k) = xa k := fun k => by
    rw [hcs]
    show (if 100 + k < 9 then _ else if 100 + k < 29 then _ else if 100 + k = 40 then _ else if 100 + k = 41 then _ else xa (100 + k - 100)) = _
    rw [if_neg (by omega), if_neg (by omega), if_neg (by omega), if_neg (by omega), show 100 + k - 100 = k by omega]
  refine ⟨ek, cs, hEn, fun j hj => ?_, ⟨fun i hi => ?_, fun i j hi hj e => ?_⟩, ?_, ?_, ?_, ?_, ?_, ?_, ?_, fun t ht => ?_, ?_, ?_⟩
  · rw [e1 j (by omega)]
    exact vk_OFof (hek j hj).1 (va_eqv (hs _ (g_pat j hj)) (hsa j (by omega)).1) hA
  · dsimp only
    rw [e1 i hi, e2 i hi]; exact (hsa i hi).2
  · rw [e1 i hi, e1 j hj] at e
    obtain ⟨-, -, -, a1, a2⟩ := hsa i hi
    obtain ⟨-, -, -, b1, b2⟩ := hsa j hj
    rw [e] at a1
    have e6 := Value.ref.inj (OF_u a1 b1)
    rw [e6] at a2
    exact g_sd i hi j hj (Value.int.inj (T_u a2 b2 (g_s0 i hi).1 (g_s0 j hj).1)) (fun c1 c2 => Value.int.inj (T_u a2 b2 c1 c2))
  · rw [e3]; exact va_Zref (hts _ g_t.1) hini htA hA
  · rw [e3]; exact hTA
  · rw [e4]; exact va_Zref (hts _ g_t.2.1) (hts _ g_i.2.1) htW hA
  · rw [e4]; exact hTW
  · exact va_Zof (hts _ g_t.2.2.1) (hts _ g_i.2.2.1) (va_eqt (hs _ g_q.1)) hA
  · exact va_Zqof (hts _ g_t.2.2.2.1) (hts _ g_i.2.2.2.1) (hs _ g_q.2.1) hA
  · rw [e1 8 (by omega)]
    exact vk_R.of (hts _ g_s8) (hsa 8 (by omega)).1
  · rw [e5]
    exact vk_R.of (hts _ (g_xt t ht).1) (hxa t.1 ⟨t, ht, rfl⟩)
  · exact vx_Zqof (hts _ g_t.2.2.2.2.1) (hts _ g_i.2.2.2.2) (hs _ g_q.2.2.1) hA
  · exact vx_Zqof (hts _ g_t.2.2.2.2.2) (hts _ g_i.2.2.2.2) (hs _ g_q.2.2.2) hA
/-- the classes of the world, and of its arrays -/
theorem k_of {args : Array Value} {s : State} (hts : ∀ w ∈ lw_tbl, w.before args s = true) : ∃ (D : va_G) (ct : Nat → ClassId), va_K D vcl (tysF ct) s ∧ CX ct s := by
  have hb : ∀ w ∈ BW, w.before args s = true := fun w hw => hts w (List.mem_filter.mp hw).1
  have hu : ∀ k : Nat, ∃ z : ClassId × (Nat → Nat), ∀ q : vw_C, vcl[k]? = some q → u_Kn s q.1 q.2.1 q.2.2 z.1 z.2 := by
    intro k
    have kn : ∀ {C : String} {T : u_T} {N : Nat}, (∀ w ∈ u_ws C T N, w ∈ BW) → Cond.instantiable C N ∈ BW → vcl[k]? = some (C, T, N) → ∃ z : ClassId × (Nat → Nat), ∀ q : vw_C, vcl[k]? = some q → u_Kn s q.1 q.2.1 q.2.2 z.1 z.2 := fun h1 h2 h3 => by
      obtain ⟨c, iS, h⟩ := u_known hb h1 (hb _ h2)
      refine ⟨(c, iS), fun q hq => ?_⟩
      cases h3.symm.trans hq
      exact h
    match k with
    | 0 => exact kn inX1 ib_RX1 rfl
    | 1 => exact kn inX2 ib_RX2 rfl
    | 2 => exact kn inX3 ib_RX3 rfl
    | 3 => exact kn inX4 ib_RX4 rfl
    | 4 => exact kn inX5 ib_RX5 rfl
    | 5 => exact kn inX7 ib_RX7 rfl
    | 6 => exact kn inX8 ib_RX8 rfl
    | 7 => exact kn inX9 ib_RX9 rfl
    | 8 => exact kn inX10 ib_RX10 rfl
    | 9 => exact kn inX11 ib_RX11 rfl
    | k + 10 => exact ⟨(0, fun _ => 0), fun q hq => by simp [vcl] at hq⟩
  obtain ⟨z, hz⟩ := Classical.axiomOfChoice hu
  have ao3 : va_AO RX3 s := va_AO.of (hts (.arrayOver (.object RX3)) (List.mem_of_getElem? (i := 265) (by decide +kernel)))
  have ao5 : va_AO RX5 s := va_AO.of (hts (.arrayOver (.object RX5)) (List.mem_of_getElem? (i := 245) (by decide +kernel)))
  obtain ⟨cc, ca, ka, a1, a3, a4, a5⟩ : ∃ (comp c : ClassId) (k : Class), s.vm.findClass (FieldType.array FieldType.int).toString = some comp ∧ s.vm.classes[c]? = some k ∧ k.kind = .array comp (.array .int) ∧ s.vm.findClass ("[" ++ (FieldType.array FieldType.int).toString) = some c := by
    obtain ⟨comp, c, k, h1, -, h3, h4, h5⟩ := arrayOverA_spec (hts (.arrayOver (.array .int)) (List.mem_of_getElem? (i := 126) (by decide +kernel)))
    exact ⟨comp, c, k, h1, h3, h4, h5⟩
  have pr : ∀ {ty : FieldType}, Cond.arrayClass ty ∈ BW → ∃ (c : ClassId) (k : Class) (x : ClassId), s.vm.findClass ("[" ++ ty.toString) = some c ∧ s.vm.classes[c]? = some k ∧ k.kind = .array x ty := fun h => by
    obtain ⟨c, k, x, h1, h2, h3⟩ := Cond.arrayClass_spec (hb _ h)
    exact ⟨c, k, x, h1, h2, h3⟩
  have ob : ∀ {C : String}, va_AO C s → ∃ (c : ClassId) (k : Class) (x : ClassId), s.vm.findClass ("[" ++ (FieldType.object C).toString) = some c ∧ s.vm.classes[c]? = some k ∧ k.kind = .array x (.object C) ∧ s.vm.findClass C = some x := fun h => by
    obtain ⟨x, c, k, h1, -, h3, h4, h5⟩ := Cond.arrayOver_spec h
    exact ⟨c, k, x, h5, h3, h4, h1⟩
  obtain ⟨t0, k0, x0, b0, d0, f0⟩ := pr ac_char
  obtain ⟨t1, k1, x1, b1, d1, f1⟩ := pr ac_int
  obtain ⟨t2, k2, x2, b2, d2, f2⟩ := pr ac_boolean
  obtain ⟨t3, k3, x3, b3, d3, f3, g3⟩ := ob ao3
  obtain ⟨t4, k4, x4, b4, d4, f4, g4⟩ := ob ao5
  obtain ⟨t6, k6, x6, b6, d6, f6⟩ := pr ac_long
  obtain ⟨t7, k7, x7, b7, d7, f7⟩ := pr ac_double
  have ecc : cc = t1 := Option.some.inj (a1.symm.trans b1)
  subst ecc
  obtain ⟨ct, hct⟩ : ∃ ct : Nat → ClassId, ct = fun i => match i with
    | 0 => t0
    | 1 => cc
    | 2 => t2
    | 3 => t3
    | 4 => t4
    | 5 => ca
    | 6 => t6
    | _ => t7 := ⟨_, rfl⟩
  have c0 : ct 0 = t0 := by rw [hct]; exact rfl
  have c1 : ct 1 = cc := by rw [hct]; exact rfl
  have c2 : ct 2 = t2 := by rw [hct]; exact rfl
  have c3 : ct 3 = t3 := by rw [hct]; exact rfl
  have c4 : ct 4 = t4 := by rw [hct]; exact rfl
  have c5 : ct 5 = ca := by rw [hct]; exact rfl
  have c6 : ct 6 = t6 := by rw [hct]; exact rfl
  have c7 : ct 7 = t7 := by rw [hct]; exact rfl
  have isA : ∀ {c x : ClassId} {k : Class} {ty : FieldType}, s.vm.classes[c]? = some k → k.kind = .array x ty → ArrOfT s c ty := fun h1 h2 N z => ⟨(fun q h => by cases h), _, h1, _, h2⟩
  refine ⟨(fun k => (z k).1, fun k => (z k).2), ct, ⟨fun c q hq => hz c q hq, fun k q hq => ?_⟩, ao3, ao5, ⟨ka, by rw [c5]; exact a3, by rw [c1]; exact a4⟩, k1, x1, by rw [c1]; exact d1, f1⟩
  match k, hq with
  | 0, hq => cases hq; rw [c0]; exact ⟨isA d0 f0, b0⟩
  | 1, hq => cases hq; rw [c1]; exact ⟨isA d1 f1, b1⟩
  | 2, hq => cases hq; rw [c2]; exact ⟨isA d2 f2, b2⟩
  | 3, hq => cases hq; rw [c3]; exact ⟨isA d3 f3, k3, x3, d3, f3, g3, b3⟩
  | 4, hq => cases hq; rw [c4]; exact ⟨isA d4 f4, k4, x4, d4, f4, g4, b4⟩
  | 5, hq => cases hq; rw [c5]; exact ⟨isA a3 a4, a5⟩
  | 6, hq => cases hq; rw [c6]; exact ⟨isA d6 f6, b6⟩
  | 7, hq => cases hq; rw [c7]; exact ⟨isA d7 f7, b7⟩
  | k + 8, hq => simp [tysF] at hq

/-! what the premises give: the kinds, their patterns, the texts, the tables of the JDK -/
def gvL : List Cond := flatC (Jvm.Cond.and given_1 narrow_1)
def PN9 : List Nat := [52, 58, 61, 64, 67, 70, 73, 76]
abbrev sT9 (i : Nat) : Term := .static RX6 (KN.getD i "") KD
abbrev aT9 : Term := .static RX6 "ALL" "[LPlumbOpinions$Kind;"
abbrev wT9 : Term := .static RX0 "$SwitchMap$PlumbOpinions$Kind" "[I"
def tm9 (i : Nat) : Term := if i < 8 then .string RX6 (PN9.getD i 0) else .string RL (lwTx.getD (i - 8) (0, "")).1
theorem g_ex' : ∀ i, i < 8 → gvL[([11, 7, 53, 4, 68, 29, 77, 60] : List Nat).getD i 0]? = some (Cond.exactly (sT9 i) RX6) := by decide +kernel
theorem g_ex : ∀ i, i < 8 → Cond.exactly (sT9 i) RX6 ∈ gvL := fun i hi => List.mem_of_getElem? (g_ex' i hi)
theorem g_lay' : ∀ i, i < 8 → lw_tbl[([415, 413, 1014, 231, 1246, 690, 1255, 1023] : List Nat).getD i 0]? = some (Cond.laysStatic RX6 (KN.getD i "") KD) := by decide +kernel
theorem g_lay : ∀ i, i < 8 → Cond.laysStatic RX6 (KN.getD i "") KD ∈ lw_tbl := fun i hi => List.mem_of_getElem? (g_lay' i hi)
theorem g_ord' : ∀ i, i < 8 → gvL[([12, 8, 54, 5, 69, 30, 78, 61] : List Nat).getD i 0]? = some (Cond.eq (.field (sT9 i) "java/lang/Enum" "ordinal" "I") (.int (([0, 1, 2, 3, 4, 5, 6, 7] : List Int32).getD i 0))) := by decide +kernel
theorem g_ord : ∀ i, i < 8 → Cond.eq (.field (sT9 i) "java/lang/Enum" "ordinal" "I") (.int (([0, 1, 2, 3, 4, 5, 6, 7] : List Int32).getD i 0)) ∈ gvL := fun i hi => List.mem_of_getElem? (g_ord' i hi)
theorem g_pat' : ∀ i, i < 8 → gvL[([13, 9, 55, 6, 70, 31, 79, 62] : List Nat).getD i 0]? = some (Cond.eq (.field (sT9 i) RX6 "pattern" "Ljava/lang/String;") (tm9 i)) := by decide +kernel
theorem g_pat : ∀ i, i < 8 → Cond.eq (.field (sT9 i) RX6 "pattern" "Ljava/lang/String;") (tm9 i) ∈ gvL := fun i hi => List.mem_of_getElem? (g_pat' i hi)
def neI : List Nat := [0, 0, 58, 0, 73, 34, 82, 65, 15, 0, 57, 0, 72, 33, 81, 64, 0, 0, 0, 0, 75, 0, 84, 67, 14, 10, 56, 0, 71, 32, 80, 63, 0, 0, 0, 0, 0, 0, 86, 0, 0, 0, 59, 0, 74, 0, 83, 66, 0, 0, 0, 0, 0, 0, 0, 0, 0, 0, 0, 0, 76, 0, 85, 0]
theorem g_ne' : ∀ i, i < 8 → ∀ j, j < 8 → i ≠ j → gvL[neI.getD (8 * i + j) 0]? = some (Cond.not (.eq (sT9 i) (sT9 j))) ∨ gvL[neI.getD (8 * j + i) 0]? = some (Cond.not (.eq (sT9 j) (sT9 i))) := by decide +kernel
theorem g_ne : ∀ i, i < 8 → ∀ j, j < 8 → i ≠ j → Cond.not (.eq (sT9 i) (sT9 j)) ∈ gvL ∨ Cond.not (.eq (sT9 j) (sT9 i)) ∈ gvL := fun i hi j hj h => (g_ne' i hi j hj h).elim (fun q => Or.inl (List.mem_of_getElem? q)) (fun q => Or.inr (List.mem_of_getElem? q))
theorem g_sx' : ∀ i, i < 14 → gvL[([1168, 1161, 1184, 1156, 1201, 1175, 1209, 1193, 1102, 1109, 1122, 1132, 1137, 1149] : List Nat).getD i 0]? = some (Cond.exactly (tm9 i) "java/lang/String") := by decide +kernel
theorem g_sx : ∀ i, i < 14 → Cond.exactly (tm9 i) "java/lang/String" ∈ gvL := fun i hi => List.mem_of_getElem? (g_sx' i hi)
theorem g_sc' : ∀ i, i < 14 → gvL[([1169, 1162, 1185, 1157, 1202, 1176, 1210, 1194, 1103, 1110, 1123, 1133, 1138, 1150] : List Nat).getD i 0]? = some (Cond.eq (.field (tm9 i) "java/lang/String" "coder" "B") (.int 0)) := by decide +kernel
theorem g_sc : ∀ i, i < 14 → Cond.eq (.field (tm9 i) "java/lang/String" "coder" "B") (.int 0) ∈ gvL := fun i hi => List.mem_of_getElem? (g_sc' i hi)
theorem g_sv' : ∀ i, i < 14 → gvL[([1170, 1163, 1186, 1158, 1203, 1177, 1211, 1195, 1104, 1111, 1124, 1134, 1139, 1151] : List Nat).getD i 0]? = some (Cond.arrayOf (.field (tm9 i) "java/lang/String" "value" "[B") .byte) := by decide +kernel
theorem g_sv : ∀ i, i < 14 → Cond.arrayOf (.field (tm9 i) "java/lang/String" "value" "[B") .byte ∈ gvL := fun i hi => List.mem_of_getElem? (g_sv' i hi)
theorem g_sl' : ∀ i, i < 14 → gvL[([1171, 1164, 1187, 1159, 1204, 1178, 1212, 1196, 1105, 1112, 1125, 1135, 1140, 1152] : List Nat).getD i 0]? = some (Cond.eq (.length (.field (tm9 i) "java/lang/String" "value" "[B")) (.int (Int32.ofNat (strL.getD i 0)))) := by decide +kernel
theorem g_sl : ∀ i, i < 14 → Cond.eq (.length (.field (tm9 i) "java/lang/String" "value" "[B")) (.int (Int32.ofNat (strL.getD i 0))) ∈ gvL := fun i hi => List.mem_of_getElem? (g_sl' i hi)
theorem g_se' : ∀ i, i < 14 → ∀ j, j < strL.getD i 0 → gvL[([1172, 1165, 1188, 1160, 1205, 1179, 1213, 1197, 1106, 1113, 1126, 1136, 1141, 1153] : List Nat).getD i 0 + j]? = some (Cond.eq (.elem (.field (tm9 i) "java/lang/String" "value" "[B") (.int (Int32.ofNat j))) (.int ((strB.getD i []).getD j 0))) := by decide +kernel
theorem g_se : ∀ i, i < 14 → ∀ j, j < strL.getD i 0 → Cond.eq (.elem (.field (tm9 i) "java/lang/String" "value" "[B") (.int (Int32.ofNat j))) (.int ((strB.getD i []).getD j 0)) ∈ gvL := fun i hi j hj => List.mem_of_getElem? (g_se' i hi j hj)
theorem g_sd : ∀ i, i < 14 → ∀ j, j < 14 → strL.getD i 0 = strL.getD j 0 → (∀ k, k < strL.getD i 0 → (strB.getD i []).getD k 0 = (strB.getD j []).getD k 0) → i = j := by decide +kernel
theorem g_s0 : ∀ i, i < 14 → 0 < strL.getD i 0 ∧ strL.getD i 0 < 2 ^ 31 := by decide +kernel
theorem g_a : Cond.arrayOf aT9 (.object RX6) ∈ gvL ∧ Cond.eq (.length aT9) (.int 8) ∈ gvL := by decide +kernel
theorem g_ae' : ∀ i, i < 8 → gvL[([40, 41, 42, 43, 44, 45, 46, 47] : List Nat).getD i 0]? = some (Cond.eq (.elem aT9 (.int (Int32.ofNat i))) (sT9 i)) := by decide +kernel
theorem g_ae : ∀ i, i < 8 → Cond.eq (.elem aT9 (.int (Int32.ofNat i))) (sT9 i) ∈ gvL := fun i hi => List.mem_of_getElem? (g_ae' i hi)
theorem g_w : Cond.arrayOf wT9 .int ∈ gvL ∧ Cond.eq (.length wT9) (.int 8) ∈ gvL := by decide +kernel
theorem g_we' : ∀ i, i < 8 → gvL[([19, 20, 21, 22, 23, 24, 25, 26] : List Nat).getD i 0]? = some (Cond.eq (.elem wT9 (.int (Int32.ofNat i))) (.int (nI (i + 1)))) := by decide +kernel
theorem g_we : ∀ i, i < 8 → Cond.eq (.elem wT9 (.int (Int32.ofNat i))) (.int (nI (i + 1))) ∈ gvL := fun i hi => List.mem_of_getElem? (g_we' i hi)
theorem g_t : Cond.laysStatic RX6 "ALL" "[LPlumbOpinions$Kind;" ∈ lw_tbl ∧ Cond.laysStatic RX0 "$SwitchMap$PlumbOpinions$Kind" "[I" ∈ lw_tbl ∧ Cond.laysStatic RJ0 "COMPACT_STRINGS" "Z" ∈ lw_tbl ∧ Cond.laysStatic RJ3 "SIOOBE_FORMATTER" "Ljava/util/function/BiFunction;" ∈ lw_tbl ∧ Cond.laysStatic Bundle.tN "UNASSIGNED_STACK" Bundle.steD ∈ lw_tbl ∧ Cond.laysStatic Bundle.tN "SUPPRESSED_SENTINEL" Bundle.listD ∈ lw_tbl := by decide +kernel
theorem g_i : Cond.initialized RX6 ∈ lw_tbl ∧ Cond.initialized RX0 ∈ lw_tbl ∧ Cond.initialized RJ0 ∈ lw_tbl ∧ Cond.initialized RJ3 ∈ lw_tbl ∧ Cond.initialized Bundle.tN ∈ lw_tbl := by decide +kernel
theorem g_q : Cond.eq (.static RJ0 "COMPACT_STRINGS" "Z") (.int 1) ∈ gvL ∧ Cond.isRef (.static RJ3 "SIOOBE_FORMATTER" "Ljava/util/function/BiFunction;") ∈ gvL ∧ Cond.isRef (.static Bundle.tN "UNASSIGNED_STACK" Bundle.steD) ∈ gvL ∧ Cond.isRef (.static Bundle.tN "SUPPRESSED_SENTINEL" Bundle.listD) ∈ gvL := by decide +kernel
theorem g_sR' : ∀ i, i < 6 → lw_tbl[([1286, 1407, 1468, 1511, 1512, 1513] : List Nat).getD i 0]? = some (Cond.stringRef RL (lwTx.getD i (0, "")).1 (lwTx.getD i (0, "")).2) := by decide +kernel
theorem g_sR : ∀ i, i < 6 → Cond.stringRef RL (lwTx.getD i (0, "")).1 (lwTx.getD i (0, "")).2 ∈ lw_tbl := fun i hi => List.mem_of_getElem? (g_sR' i hi)
abbrev dT9 : Term := .static RJ6 "DigitOnes" "[B"
theorem g_da : Cond.arrayOf dT9 .byte ∈ gvL ∧ Cond.eq (.length dT9) (.int 100) ∈ gvL := ⟨List.mem_of_getElem? (i := 88) (by decide +kernel), List.mem_of_getElem? (i := 89) (by decide +kernel)⟩
theorem g_de' : ∀ i, i < 100 → gvL[90 + i]? = some (Cond.eq (.elem dT9 (.int (Int32.ofNat i))) (.int (dgO i))) := by decide +kernel
theorem g_de : ∀ i, i < 100 → Cond.eq (.elem dT9 (.int (Int32.ofNat i))) (.int (dgO i)) ∈ gvL := fun i hi => List.mem_of_getElem? (g_de' i hi)
theorem g_dt : Cond.laysStatic RJ6 "DigitOnes" "[B" ∈ lw_tbl ∧ Cond.initialized RJ6 ∈ lw_tbl := ⟨List.mem_of_getElem? (i := 1396) (by decide +kernel), List.mem_of_getElem? (i := 52) (by decide +kernel)⟩
theorem g_pm : ∀ y, y = yJ5_ensureCapacityInternal_d00df ∨ y = yJ5_putStringAt_47b60 ∨ y = yJ5_inflateIfNeededFor_a7421 → Cond.privateMethod y ∈ lw_tbl ∧ Cond.instanceMethod y ∈ lw_tbl := by
  rintro y (rfl | rfl | rfl)
  · exact ⟨List.mem_of_getElem? (i := 1299) (by decide +kernel), List.mem_of_getElem? (i := 1300) (by decide +kernel)⟩
  · exact ⟨List.mem_of_getElem? (i := 1349) (by decide +kernel), List.mem_of_getElem? (i := 1350) (by decide +kernel)⟩
  · exact ⟨List.mem_of_getElem? (i := 1353) (by decide +kernel), List.mem_of_getElem? (i := 1354) (by decide +kernel)⟩
theorem g_xt' : ∀ i, i < 24 → lw_tbl[([637, 737, 759, 805, 1199, 1145, 1158, 1161, 1110, 783, 792, 807, 1234, 1118, 1132, 829, 934, 935, 998, 999, 1190, 960, 968, 980] : List Nat).getD i 0]? = some (Cond.stringRef RX10 (exTx.getD i (0, "")).1 (exTx.getD i (0, "")).2) ∧ gvL[([438, 455, 482, 568, 1043, 927, 957, 989, 842, 521, 540, 593, 1080, 873, 901, 628, 655, 679, 780, 819, 1017, 703, 731, 756] : List Nat).getD i 0]? = some (Cond.exactly (.string RX10 (exTx.getD i (0, "")).1) "java/lang/String") := by decide +kernel
theorem g_xt : ∀ t ∈ exTx, Cond.stringRef RX10 t.1 t.2 ∈ lw_tbl ∧ Cond.exactly (.string RX10 t.1) "java/lang/String" ∈ gvL := fun t ht => by
  obtain ⟨i, hi, e⟩ := List.getElem_of_mem ht
  have h := g_xt' i hi
  have e2 : exTx.getD i (0, "") = t := by rw [List.getD_eq_getElem?_getD, List.getElem?_eq_getElem hi, e]; rfl
  rw [e2] at h
  exact ⟨List.mem_of_getElem? h.1, List.mem_of_getElem? h.2⟩
theorem g_nc' : ∀ i, i < 4 → gvL[([322, 324, 340, 339] : List Nat).getD i 0]? = some (Cond.not (.castable (ncL.getD i ("", "")).1 (ncL.getD i ("", "")).2)) := by decide +kernel
theorem g_nc : ∀ q ∈ ncL, Cond.not (.castable q.1 q.2) ∈ gvL := fun q hq => by
  obtain ⟨i, hi, e⟩ := List.getElem_of_mem hq
  have h := g_nc' i hi
  have e2 : ncL.getD i ("", "") = q := by rw [List.getD_eq_getElem?_getD, List.getElem?_eq_getElem hi, e]; rfl
  rw [e2] at h
  exact List.mem_of_getElem? h
theorem OF_u {o n d : String} {v v' : Value} {t : Nat} {A : Nat → Prop} {U : State} {H : Heap} (h : va_OF o n d v t A U H) (h' : va_OF o n d v' t A U H) : v = v' := by
  obtain ⟨cf, k, i, f, cell, a1, a2, a3, a4, a5, a6⟩ := h
  obtain ⟨cf', k', i', f', cell', b1, b2, b3, b4, b5, b6⟩ := h'
  have e := Option.some.inj (a1.symm.trans b1)
  simp only [Prod.mk.injEq] at e
  obtain ⟨-, -, -, rfl⟩ := e
  cases a3.symm.trans b3
  exact Option.some.inj (a5.symm.trans b5)
theorem T_u {ty : FieldType} {t N N' j : Nat} {f f' : Nat → Value} {A : Nat → Prop} {U : State} {H : Heap} (h : va_T ty t N f A U H) (h' : va_T ty t N' f' A U H) (hj : j < N) (hj' : j < N') : f j = f' j := by
  obtain ⟨cell, a1, a2, a3, a4, a5, a6, a7⟩ := h
  obtain ⟨cell', b1, b2, b3, b4, b5, b6, b7⟩ := h'
  cases a1.symm.trans b1
  exact Option.some.inj ((a6 j hj).symm.trans (b6 j hj'))
theorem T_n {ty : FieldType} {t N N' : Nat} {f f' : Nat → Value} {A : Nat → Prop} {U : State} {H : Heap} (hN : N < 2 ^ 31) (hN' : N' < 2 ^ 31) (h : va_T ty t N f A U H) (h' : va_T ty t N' f' A U H) : N = N' := by
  obtain ⟨cell, a1, a2, a3, a4, a5, a6, a7⟩ := h
  obtain ⟨cell', b1, b2, b3, b4, b5, b6, b7⟩ := h'
  cases a1.symm.trans b1
  exact (nI_eq hN hN').mp (a5.symm.trans b5)
theorem fy_of {args : Array Value} {s : State} (hts : ∀ w ∈ lw_tbl, w.before args s = true) (hgv : (Jvm.Cond.and given_1 narrow_1).before args s = true) : FY s :=
  ⟨fun w hw hx => va_Nw.of (xt_tab hx) (hts w hw), fun q hq => va_Nc.of (flat_of_before _ hgv _ (g_nc q hq))⟩
theorem fx_of {args : Array Value} {s : State} (hts : ∀ w ∈ lw_tbl, w.before args s = true) (hgv : (Jvm.Cond.and given_1 narrow_1).before args s = true) : ∃ ek cs : Nat → Nat, FX ek cs s.heap.size s := by
  have hs : ∀ w ∈ gvL, w.before args s = true := flat_of_before _ hgv
  have hA : ∀ a : Nat, a < s.heap.size → ¬ fr s.heap.size a := fun a h => Nat.not_le.mpr h
  have hini := hts _ g_i.1
  -- the kinds
  have h0 : ∀ i : Nat, ∃ t : Nat, i < 8 → (sT9 i).eval args s none [] s = some (.ref t) ∧ va_O RX6 t (fr s.heap.size) s s.heap := by
    intro i
    by_cases hi : i < 8
    · obtain ⟨a, c, cell, k, q1, q2, q3, q4, q5, q6, -⟩ := Cond.exactly_spec (hs _ (g_ex i hi))
      exact ⟨a, fun _ => ⟨q1, cell, q3, q5, by rw [q6]; exact q2, hA a (Array.getElem?_eq_some_iff.mp q3).1⟩⟩
    · exact ⟨0, fun h => absurd h hi⟩
  obtain ⟨ek, hek⟩ := Classical.axiomOfChoice h0
  have hEn : va_En RX6 KD KN KF ek (fr s.heap.size) s s.heap := by
    refine ⟨fun i hi => ?_, fun i j hi hj e => ?_⟩
    · have hi : i < 8 := hi
      refine ⟨va_Zref (hts _ (g_lay i hi)) hini (hek i hi).1 hA, (hek i hi).2, fun q hq => ?_⟩
      rcases List.mem_singleton.mp hq with rfl
      exact vk_OFof (hek i hi).1 (va_eqt (hs _ (g_ord i hi))) hA
    · have hi : i < 8 := hi
      have hj : j < 8 := hj
      by_cases hij : i = j
      · exact hij
      · rcases g_ne i hi j hj hij with h | h
        · exact absurd e (va_neR (hs _ h) (hek i hi).1 (hek j hj).1)
        · exact absurd e.symm (va_neR (hs _ h) (hek j hj).1 (hek i hi).1)
  -- the texts
  have h1 : ∀ i : Nat, ∃ q : Nat × Nat, i < 14 → (tm9 i).eval args s none [] s = some (.ref q.1) ∧ va_O "java/lang/String" q.1 (fr s.heap.size) s s.heap ∧ va_OF "java/lang/String" "coder" "B" (.int 0) q.1 (fr s.heap.size) s s.heap ∧ va_OF "java/lang/String" "value" "[B" (.ref q.2) q.1 (fr s.heap.size) s s.heap ∧ va_T .byte q.2 (strL.getD i 0) (fun j => .int ((strB.getD i []).getD j 0)) (fr s.heap.size) s s.heap := by
    intro i
    by_cases hi : i < 14
    · obtain ⟨a, c, cA, kA, q1, q2, q3, q4, q5, q6, -⟩ := Cond.exactly_spec (hs _ (g_sx i hi))
      obtain ⟨t, ht, hT⟩ := va_Tof (f := fun j => .int ((strB.getD i []).getD j 0)) (A := fr s.heap.size) (g_s0 i hi).2 (hs _ (g_sv i hi)) (va_eqt (hs _ (g_sl i hi))) (fun j hj => va_eqt (hs _ (g_se i hi j hj))) hA
      exact ⟨(a, t), fun _ => ⟨q1, ⟨cA, q3, q5, by rw [q6]; exact q2, hA a (Array.getElem?_eq_some_iff.mp q3).1⟩, vk_OFof q1 (va_eqt (hs _ (g_sc i hi))) hA, vk_OFof q1 ht hA, hT⟩⟩
    · exact ⟨(0, 0), fun h => absurd h hi⟩
  obtain ⟨sa, hsa⟩ := Classical.axiomOfChoice h1
  -- the exceptions' texts
  have h2 : ∀ k : Nat, ∃ a : Nat, (∃ t ∈ exTx, t.1 = k) → (Term.string RX10 k).eval args s none [] s = some (.ref a) := by
    intro k
    by_cases hk : ∃ t ∈ exTx, t.1 = k
    · obtain ⟨t, ht, rfl⟩ := hk
      obtain ⟨a, c, cA, kA, q1, -⟩ := Cond.exactly_spec (hs _ (g_xt t ht).2)
      exact ⟨a, fun _ => q1⟩
    · exact ⟨0, fun h => absurd h hk⟩
  obtain ⟨xa, hxa⟩ := Classical.axiomOfChoice h2
  obtain ⟨tA, htA, hTA⟩ := va_Tof (f := fun j => .ref (ek j)) (A := fr s.heap.size) (N := 8) (by decide) (hs _ g_a.1) (va_eqt (hs _ g_a.2)) (fun j hj => va_eqv (hs _ (g_ae j hj)) (hek j hj).1) hA
  obtain ⟨tW, htW, hTW⟩ := va_Tof (f := fun j => .int (nI (j + 1))) (A := fr s.heap.size) (N := 8) (by decide) (hs _ g_w.1) (va_eqt (hs _ g_w.2)) (fun j hj => va_eqt (hs _ (g_we j hj))) hA
  obtain ⟨cs, hcs⟩ : ∃ cs : Nat → Nat, cs = fun x => if x < 14 then (sa x).1 else if x < 34 then (sa (x - 20)).2 else if x = 40 then tA else if x = 41 then tW else xa (x - 100) := ⟨_, rfl⟩
  have e1 : ∀ i, i < 14 → cs i = (sa i).1 := fun i hi => by rw [hcs]; exact if_pos hi
  have e2 : ∀ i, i < 14 → cs (20 + i) = (sa i).2 := fun i hi => by
    rw [hcs]
    show (if 20 + i < 14 then _ else if 20 + i < 34 then (sa (20 + i - 20)).2 else _) = _
    rw [if_neg (by omega), if_pos (by omega), show 20 + i - 20 = i by omega]
  have e3 : cs 40 = tA := by rw [hcs]; rfl
  have e4 : cs 41 = tW := by rw [hcs]; rfl
  have e5 : ∀ k, cs (100 + k) = xa k := fun k => by
    rw [hcs]
    show (if 100 + k < 14 then _ else if 100 + k < 34 then _ else if 100 + k = 40 then _ else if 100 + k = 41 then _ else xa (100 + k - 100)) = _
    rw [if_neg (by omega), if_neg (by omega), if_neg (by omega), if_neg (by omega), show 100 + k - 100 = k by omega]
  refine ⟨ek, cs, hEn, fun j hj => ?_, ⟨fun i hi => ?_, fun i j hi hj e => ?_⟩, ?_, ?_, ?_, ?_, ?_, ?_, fun j hj => ?_, fun t ht => ?_, ?_, ?_⟩
  · rw [e1 j (by omega)]
    exact vk_OFof (hek j hj).1 (va_eqv (hs _ (g_pat j hj)) (hsa j (by omega)).1) hA
  · dsimp only
    rw [e1 i hi, e2 i hi]; exact (hsa i hi).2
  · rw [e1 i hi, e1 j hj] at e
    obtain ⟨-, -, -, a1, a2⟩ := hsa i hi
    obtain ⟨-, -, -, b1, b2⟩ := hsa j hj
    rw [e] at a1
    have e6 := Value.ref.inj (OF_u a1 b1)
    rw [e6] at a2
    have en := T_n (g_s0 i hi).2 (g_s0 j hj).2 a2 b2
    exact g_sd i hi j hj en (fun k hk => Value.int.inj (T_u a2 b2 hk (by rw [← en]; exact hk)))
  · rw [e3]; exact va_Zref (hts _ g_t.1) hini htA hA
  · rw [e3]; exact hTA
  · rw [e4]; exact va_Zref (hts _ g_t.2.1) (hts _ g_i.2.1) htW hA
  · rw [e4]; exact hTW
  · exact va_Zof (hts _ g_t.2.2.1) (hts _ g_i.2.2.1) (va_eqt (hs _ g_q.1)) hA
  · exact va_Zqof (hts _ g_t.2.2.2.1) (hts _ g_i.2.2.2.1) (hs _ g_q.2.1) hA
  · rw [e1 (8 + j) (by omega)]
    refine vk_R.of (hts _ (g_sR j hj)) ?_
    have h9 := (hsa (8 + j) (by omega)).1
    unfold tm9 at h9
    rw [if_neg (by omega), show 8 + j - 8 = j by omega] at h9
    exact h9
  · rw [e5]
    exact vk_R.of (hts _ (g_xt t ht).1) (hxa t.1 ⟨t, ht, rfl⟩)
  · exact vx_Zqof (hts _ g_t.2.2.2.2.1) (hts _ g_i.2.2.2.2) (hs _ g_q.2.2.1) hA
  · exact vx_Zqof (hts _ g_t.2.2.2.2.2) (hts _ g_i.2.2.2.2) (hs _ g_q.2.2.2) hA
/-- the classes of the world, and of its arrays -/
theorem k_of {args : Array Value} {s : State} (hts : ∀ w ∈ lw_tbl, w.before args s = true) : ∃ (D : va_G) (ct : Nat → ClassId), va_K D vcl (tysF ct) s ∧ CX ct s := by
  have hb : ∀ w ∈ BW, w.before args s = true := fun w hw => hts w (List.mem_filter.mp hw).1
  have hu : ∀ k : Nat, ∃ z : ClassId × (Nat → Nat), ∀ q : vw_C, vcl[k]? = some q → u_Kn s q.1 q.2.1 q.2.2 z.1 z.2 := by
    intro k
    have kn : ∀ {C : String} {T : u_T} {N : Nat}, (∀ w ∈ u_ws C T N, w ∈ BW) → Cond.instantiable C N ∈ BW → vcl[k]? = some (C, T, N) → ∃ z : ClassId × (Nat → Nat), ∀ q : vw_C, vcl[k]? = some q → u_Kn s q.1 q.2.1 q.2.2 z.1 z.2 := fun h1 h2 h3 => by
      obtain ⟨c, iS, h⟩ := u_known hb h1 (hb _ h2)
      refine ⟨(c, iS), fun q hq => ?_⟩
      cases h3.symm.trans hq
      exact h
    match k with
    | 0 => exact kn inX1 ib_RX1 rfl
    | 1 => exact kn inX2 ib_RX2 rfl
    | 2 => exact kn inX3 ib_RX3 rfl
    | 3 => exact kn inX4 ib_RX4 rfl
    | 4 => exact kn inX5 ib_RX5 rfl
    | 5 => exact kn inX7 ib_RX7 rfl
    | 6 => exact kn inX8 ib_RX8 rfl
    | 7 => exact kn inX9 ib_RX9 rfl
    | 8 => exact kn inX10 ib_RX10 rfl
    | 9 => exact kn inJ4 ib_RJ4 rfl
    | 10 => exact kn inJ0 ib_RJ0 rfl
    | k + 11 => exact ⟨(0, fun _ => 0), fun q hq => by simp [vcl] at hq⟩
  obtain ⟨z, hz⟩ := Classical.axiomOfChoice hu
  have ao3 : va_AO RX3 s := va_AO.of (hts (.arrayOver (.object RX3)) (List.mem_of_getElem? (i := 224) (by decide +kernel)))
  have ao5 : va_AO RX5 s := va_AO.of (hts (.arrayOver (.object RX5)) (List.mem_of_getElem? (i := 204) (by decide +kernel)))
  obtain ⟨cc, ca, ka, a1, a3, a4, a5⟩ : ∃ (comp c : ClassId) (k : Class), s.vm.findClass (FieldType.array FieldType.int).toString = some comp ∧ s.vm.classes[c]? = some k ∧ k.kind = .array comp (.array .int) ∧ s.vm.findClass ("[" ++ (FieldType.array FieldType.int).toString) = some c := by
    obtain ⟨comp, c, k, h1, -, h3, h4, h5⟩ := arrayOverA_spec (hts (.arrayOver (.array .int)) (List.mem_of_getElem? (i := 85) (by decide +kernel)))
    exact ⟨comp, c, k, h1, h3, h4, h5⟩
  have pr : ∀ {ty : FieldType}, Cond.arrayClass ty ∈ BW → ∃ (c : ClassId) (k : Class) (x : ClassId), s.vm.findClass ("[" ++ ty.toString) = some c ∧ s.vm.classes[c]? = some k ∧ k.kind = .array x ty := fun h => by
    obtain ⟨c, k, x, h1, h2, h3⟩ := Cond.arrayClass_spec (hb _ h)
    exact ⟨c, k, x, h1, h2, h3⟩
  have ob : ∀ {C : String}, va_AO C s → ∃ (c : ClassId) (k : Class) (x : ClassId), s.vm.findClass ("[" ++ (FieldType.object C).toString) = some c ∧ s.vm.classes[c]? = some k ∧ k.kind = .array x (.object C) ∧ s.vm.findClass C = some x := fun h => by
    obtain ⟨x, c, k, h1, -, h3, h4, h5⟩ := Cond.arrayOver_spec h
    exact ⟨c, k, x, h5, h3, h4, h1⟩
  obtain ⟨t0, k0, x0, b0, d0, f0⟩ := pr ac_char
  obtain ⟨t1, k1, x1, b1, d1, f1⟩ := pr ac_int
  obtain ⟨t2, k2, x2, b2, d2, f2⟩ := pr ac_boolean
  obtain ⟨t3, k3, x3, b3, d3, f3, g3⟩ := ob ao3
  obtain ⟨t4, k4, x4, b4, d4, f4, g4⟩ := ob ao5
  obtain ⟨t6, k6, x6, b6, d6, f6⟩ := pr ac_long
  obtain ⟨t7, k7, x7, b7, d7, f7⟩ := pr ac_byte
  have ecc : cc = t1 := Option.some.inj (a1.symm.trans b1)
  subst ecc
  obtain ⟨ct, hct⟩ : ∃ ct : Nat → ClassId, ct = fun i => match i with
    | 0 => t0
    | 1 => cc
    | 2 => t2
    | 3 => t3
    | 4 => t4
    | 5 => ca
    | 6 => t6
    | _ => t7 := ⟨_, rfl⟩
  have c0 : ct 0 = t0 := by rw [hct]; exact rfl
  have c1 : ct 1 = cc := by rw [hct]; exact rfl
  have c2 : ct 2 = t2 := by rw [hct]; exact rfl
  have c3 : ct 3 = t3 := by rw [hct]; exact rfl
  have c4 : ct 4 = t4 := by rw [hct]; exact rfl
  have c5 : ct 5 = ca := by rw [hct]; exact rfl
  have c6 : ct 6 = t6 := by rw [hct]; exact rfl
  have c7 : ct 7 = t7 := by rw [hct]; exact rfl
  have isA : ∀ {c x : ClassId} {k : Class} {ty : FieldType}, s.vm.classes[c]? = some k → k.kind = .array x ty → ArrOfT s c ty := fun h1 h2 N z => ⟨(fun q h => by cases h), _, h1, _, h2⟩
  refine ⟨(fun k => (z k).1, fun k => (z k).2), ct, ⟨fun c q hq => hz c q hq, fun k q hq => ?_⟩, ao3, ao5, ⟨ka, by rw [c5]; exact a3, by rw [c1]; exact a4⟩, k1, x1, by rw [c1]; exact d1, f1⟩
  match k, hq with
  | 0, hq => cases hq; rw [c0]; exact ⟨isA d0 f0, b0⟩
  | 1, hq => cases hq; rw [c1]; exact ⟨isA d1 f1, b1⟩
  | 2, hq => cases hq; rw [c2]; exact ⟨isA d2 f2, b2⟩
  | 3, hq => cases hq; rw [c3]; exact ⟨isA d3 f3, k3, x3, d3, f3, g3, b3⟩
  | 4, hq => cases hq; rw [c4]; exact ⟨isA d4 f4, k4, x4, d4, f4, g4, b4⟩
  | 5, hq => cases hq; rw [c5]; exact ⟨isA a3 a4, a5⟩
  | 6, hq => cases hq; rw [c6]; exact ⟨isA d6 f6, b6⟩
  | 7, hq => cases hq; rw [c7]; exact ⟨isA d7 f7, b7⟩
  | k + 8, hq => simp [tysF] at hq

/-- what more the tables say, and the digits -/
theorem sb_of {args : Array Value} {s : State} (hts : ∀ w ∈ lw_tbl, w.before args s = true) (hgv : (Jvm.Cond.and given_1 narrow_1).before args s = true) : ∃ dg : Nat, SBF dg s.heap.size s := by
  have hs : ∀ w ∈ gvL, w.before args s = true := flat_of_before _ hgv
  have hA : ∀ a : Nat, a < s.heap.size → ¬ fr s.heap.size a := fun a h => Nat.not_le.mpr h
  obtain ⟨t, ht, hT⟩ := va_Tof (f := fun j => .int (dgO j)) (A := fr s.heap.size) (N := 100) (by decide) (hs _ g_da.1) (va_eqt (hs _ g_da.2)) (fun j hj => va_eqt (hs _ (g_de j hj))) hA
  have hz : (Cond.selects RJ4 yJ5_isLatin1_aae02 yJ5_isLatin1_aae02).before args s = true := hts _ (List.mem_filter.mp sl_lat).1
  have sp : ∀ y, (y = yJ5_ensureCapacityInternal_d00df ∨ y = yJ5_putStringAt_47b60 ∨ y = yJ5_inflateIfNeededFor_a7421) → y.cls = RJ5 → (Cond.selects RJ4 y y).before args s = true := fun y hy hc => by
    have hp := g_pm y hy
    exact sel_pr hz hc (by rw [hc]; exact ⟨by decide, by decide⟩) (hts _ hp.1) (hts _ hp.2)
  refine ⟨t, fun w hw => ?_, va_Zref (hts _ g_dt.1) (hts _ g_dt.2) ht hA, hT⟩
  simp only [selL, List.mem_cons, List.not_mem_nil, or_false] at hw
  rcases hw with rfl | rfl | rfl
  · exact va_any rfl (sp _ (Or.inl rfl) rfl)
  · exact va_any rfl (sp _ (Or.inr (Or.inl rfl)) rfl)
  · exact va_any rfl (sp _ (Or.inr (Or.inr rfl)) rfl)

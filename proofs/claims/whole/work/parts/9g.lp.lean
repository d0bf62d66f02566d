/-! the law's loop, and its start -/
theorem and63 (x : Int32) : ∃ j, j < 64 ∧ x &&& 63 = nI j := by
  have h : (x &&& 63).toUInt32.toNat ≤ 63 := by
    have e : (x &&& 63).toUInt32 = x.toUInt32 &&& 63 := rfl
    rw [e, UInt32.toNat_and]
    exact Nat.and_le_right
  refine ⟨(x &&& 63).toUInt32.toNat, by omega, ?_⟩
  have e : nI (x &&& 63).toUInt32.toNat = (UInt32.ofNat (x &&& 63).toUInt32.toNat).toInt32 := rfl
  rw [e, UInt32.ofNat_toNat]
  exact rfl
theorem l4_lt {i L : Nat} (hi : i ≤ 5000) (hL : L ≤ 2048) : (nI L - nI 4 < nI i) ↔ L < i + 4 := by
  have e : (nI L - nI 4).toInt = (L : Int) - 4 := by
    rw [Int32.toInt_sub, nI_toInt (by omega), nI_toInt (by omega)]
    show ((L : Int) - 4).bmod (2 ^ 32) = _
    rw [Int.bmod_def]
    omega
  rw [Int32.lt_iff_toInt_lt, e, nI_toInt (by omega)]
  omega
section LPS
variable {p : Program} {l : Launch} {e : Env} {R : Room} {s : State} {m : MethodId} {args : Array Value} {below : List Frame} {meth : Method} {c : Code} {H : Heap} {locs : List Loc} {cells slots : Nat} {Q : State → Prop}
variable {ls : Array Slot} {D : va_G} {ct : Nat → ClassId} {ek ad cs : Nat → Nat} {N0 qo qd : Nat} {F : State → Prop} {σ : Mem} {v : Nat → Int64} {w : Nat → UInt64} {b L i : Nat} {xs : Nat → Int32}
set_option maxHeartbeats 4000000 in
set_option maxRecDepth 100000 in
/-- the switch: whichever case, the loop goes on -/
theorem lw_sw {x : Int32} (LC : LWC p l R s m args c ek cs N0 F b L xs) (G : GI D ct ek ad N0 (outX ct qo qd v w) F s) (hi : i + 3 < L) (hcs : cells + 3 ≤ R.cells ∧ slots + 18 ≤ R.slots) (C : CRel σ σ) (hP : wP D ct ek ad (outX ct qo qd v w) σ H) (hS : va_S (fr N0) s.heap H locs) (hl : lv_has ls 9 (lvB b ad qo qd i)) (kk : LWK p l e R s m args below meth c cells slots Q D ct ek ad N0 qo qd b i) : W p l e R s m args below meth c H locs cells slots Q (F0 m 44 ls [.int (x &&& 63)]) := by
  have hx := LC.1.1
  have hb := LC.1.2.1
  obtain ⟨j, hj, ej⟩ := and63 x
  rw [ej]
  match j, hj with
  | 0, _ => exact lv_tableIn (off := 176) (tgt := 220) hx hb dL_law_44 (by decide) (by decide) (by decide) (by decide) (lw_0 LC G hi hcs C hP hS hl kk)
  | 1, _ => exact lv_tableIn (off := 260) (tgt := 304) hx hb dL_law_44 (by decide) (by decide) (by decide) (by decide) (lw_1 LC G hi hcs C hP hS hl kk)
  | 2, _ => exact lv_tableIn (off := 340) (tgt := 384) hx hb dL_law_44 (by decide) (by decide) (by decide) (by decide) (lw_2 LC G hi hcs C hP hS hl kk)
  | 3, _ => exact lv_tableIn (off := 384) (tgt := 428) hx hb dL_law_44 (by decide) (by decide) (by decide) (by decide) (lw_3 LC G hi hcs C hP hS hl kk)
  | 4, _ => exact lv_tableIn (off := 452) (tgt := 496) hx hb dL_law_44 (by decide) (by decide) (by decide) (by decide) (lw_4 LC G hi hcs C hP hS hl kk)
  | 5, _ => exact lv_tableIn (off := 532) (tgt := 576) hx hb dL_law_44 (by decide) (by decide) (by decide) (by decide) (lw_5 LC G hi hcs C hP hS hl kk)
  | 6, _ => exact lv_tableIn (off := 588) (tgt := 632) hx hb dL_law_44 (by decide) (by decide) (by decide) (by decide) (lw_6 LC G hi hcs C hP hS hl kk)
  | 7, _ => exact lv_tableIn (off := 656) (tgt := 700) hx hb dL_law_44 (by decide) (by decide) (by decide) (by decide) (lw_7 LC G hi hcs C hP hS hl kk)
  | 8, _ => exact lv_tableIn (off := 724) (tgt := 768) hx hb dL_law_44 (by decide) (by decide) (by decide) (by decide) (lw_8 LC G hi hcs C hP hS hl kk)
  | 9, _ => exact lv_tableIn (off := 792) (tgt := 836) hx hb dL_law_44 (by decide) (by decide) (by decide) (by decide) (lw_9 LC G hi hcs C hP hS hl kk)
  | 10, _ => exact lv_tableIn (off := 860) (tgt := 904) hx hb dL_law_44 (by decide) (by decide) (by decide) (by decide) (lw_10 LC G hi hcs C hP hS hl kk)
  | 11, _ => exact lv_tableIn (off := 916) (tgt := 960) hx hb dL_law_44 (by decide) (by decide) (by decide) (by decide) (lw_11 LC G hi hcs C hP hS hl kk)
  | 12, _ => exact lv_tableIn (off := 972) (tgt := 1016) hx hb dL_law_44 (by decide) (by decide) (by decide) (by decide) (lw_12 LC G hi hcs C hP hS hl kk)
  | 13, _ => exact lv_tableIn (off := 1028) (tgt := 1072) hx hb dL_law_44 (by decide) (by decide) (by decide) (by decide) (lw_13 LC G hi hcs C hP hS hl kk)
  | 14, _ => exact lv_tableIn (off := 1084) (tgt := 1128) hx hb dL_law_44 (by decide) (by decide) (by decide) (by decide) (lw_14 LC G hi hcs C hP hS hl kk)
  | 15, _ => exact lv_tableIn (off := 1140) (tgt := 1184) hx hb dL_law_44 (by decide) (by decide) (by decide) (by decide) (lw_15 LC G hi hcs C hP hS hl kk)
  | 16, _ => exact lv_tableIn (off := 1208) (tgt := 1252) hx hb dL_law_44 (by decide) (by decide) (by decide) (by decide) (lw_16 LC G hi hcs C hP hS hl kk)
  | 17, _ => exact lv_tableIn (off := 1276) (tgt := 1320) hx hb dL_law_44 (by decide) (by decide) (by decide) (by decide) (lw_17 LC G hi hcs C hP hS hl kk)
  | 18, _ => exact lv_tableIn (off := 1344) (tgt := 1388) hx hb dL_law_44 (by decide) (by decide) (by decide) (by decide) (lw_18 LC G hi hcs C hP hS hl kk)
  | 19, _ => exact lv_tableIn (off := 1388) (tgt := 1432) hx hb dL_law_44 (by decide) (by decide) (by decide) (by decide) (lw_19 LC G hi hcs C hP hS hl kk)
  | 20, _ => exact lv_tableIn (off := 1444) (tgt := 1488) hx hb dL_law_44 (by decide) (by decide) (by decide) (by decide) (lw_20 LC G hi hcs C hP hS hl kk)
  | 21, _ => exact lv_tableIn (off := 1500) (tgt := 1544) hx hb dL_law_44 (by decide) (by decide) (by decide) (by decide) (lw_21 LC G hi hcs C hP hS hl kk)
  | 22, _ => exact lv_tableIn (off := 1513) (tgt := 1557) hx hb dL_law_44 (by decide) (by decide) (by decide) (by decide) (lw_22 LC G hi hcs C hP hS hl kk)
  | 23, _ => exact lv_tableIn (off := 1526) (tgt := 1570) hx hb dL_law_44 (by decide) (by decide) (by decide) (by decide) (lw_23 LC G hi hcs C hP hS hl kk)
  | 24, _ => exact lv_tableIn (off := 1598) (tgt := 1642) hx hb dL_law_44 (by decide) (by decide) (by decide) (by decide) (lw_24 LC G hi hcs C hP hS hl kk)
  | 25, _ => exact lv_tableIn (off := 1666) (tgt := 1710) hx hb dL_law_44 (by decide) (by decide) (by decide) (by decide) (lw_25 LC G hi hcs C hP hS hl kk)
  | 26, _ => exact lv_tableIn (off := 1722) (tgt := 1766) hx hb dL_law_44 (by decide) (by decide) (by decide) (by decide) (lw_26 LC G hi hcs C hP hS hl kk)
  | 27, _ => exact lv_tableIn (off := 1735) (tgt := 1779) hx hb dL_law_44 (by decide) (by decide) (by decide) (by decide) (lw_27 LC G hi hcs C hP hS hl kk)
  | 28, _ => exact lv_tableIn (off := 1793) (tgt := 1837) hx hb dL_law_44 (by decide) (by decide) (by decide) (by decide) (lw_28 LC G hi hcs C hP hS hl kk)
  | 29, _ => exact lv_tableIn (off := 1837) (tgt := 1881) hx hb dL_law_44 (by decide) (by decide) (by decide) (by decide) (lw_29 LC G hi hcs C hP hS hl kk)
  | 30, _ => exact lv_tableIn (off := 1850) (tgt := 1894) hx hb dL_law_44 (by decide) (by decide) (by decide) (by decide) (lw_30 LC G hi hcs C hP hS hl kk)
  | 31, _ => exact lv_tableIn (off := 1906) (tgt := 1950) hx hb dL_law_44 (by decide) (by decide) (by decide) (by decide) (lw_31 LC G hi hcs C hP hS hl kk)
  | 32, _ => exact lv_tableIn (off := 1962) (tgt := 2006) hx hb dL_law_44 (by decide) (by decide) (by decide) (by decide) (lw_32 LC G hi hcs C hP hS hl kk)
  | 33, _ => exact lv_tableIn (off := 1975) (tgt := 2019) hx hb dL_law_44 (by decide) (by decide) (by decide) (by decide) (lw_33 LC G hi hcs C hP hS hl kk)
  | 34, _ => exact lv_tableIn (off := 2031) (tgt := 2075) hx hb dL_law_44 (by decide) (by decide) (by decide) (by decide) (lw_34 LC G hi hcs C hP hS hl kk)
  | 35, _ => exact lv_tableIn (off := 2096) (tgt := 2140) hx hb dL_law_44 (by decide) (by decide) (by decide) (by decide) (lw_35 LC G hi hcs C hP hS hl kk)
  | 36, _ => exact lv_tableIn (off := 2162) (tgt := 2206) hx hb dL_law_44 (by decide) (by decide) (by decide) (by decide) (lw_36 LC G hi hcs C hP hS hl kk)
  | 37, _ => exact lv_tableIn (off := 2218) (tgt := 2262) hx hb dL_law_44 (by decide) (by decide) (by decide) (by decide) (lw_37 LC G hi hcs C hP hS hl kk)
  | 38, _ => exact lv_tableIn (off := 2262) (tgt := 2306) hx hb dL_law_44 (by decide) (by decide) (by decide) (by decide) (lw_38 LC G hi hcs C hP hS hl kk)
  | 39, _ => exact lv_tableIn (off := 2275) (tgt := 2319) hx hb dL_law_44 (by decide) (by decide) (by decide) (by decide) (lw_39 LC G hi hcs C hP hS hl kk)
  | j + 40, hj =>
    refine lv_tableOut (tgt := 2363) hx hb dL_law_44 (Or.inr ?_) (by decide) (W.widen (by omega) (by omega) (kk _ _ _ H locs _ C hP hS hl))
    rw [nI_toInt (by omega)]; omega
set_option maxHeartbeats 4000000 in
set_option maxRecDepth 100000 in
theorem lw_loop (LC : LWC p l R s m args c ek cs N0 F b L xs) (G : GI D ct ek ad N0 (outX ct qo qd v w) F s)
    (kE : ∀ (H : Heap) (locs : List Loc) (ls : Array Slot) (cells slots : Nat), va_S (fr N0) s.heap H locs → cells ≤ R.cells ∧ slots ≤ R.slots → W p l e R s m args below meth c H locs cells slots Q (F0 m 2369 ls [])) :
    ∀ (n i : Nat), L < i + 4 * n + 4 → i ≤ L + 3 → ∀ (σ : Mem) (v : Nat → Int64) (w : Nat → UInt64) (H : Heap) (locs : List Loc) (ls : Array Slot) (cells slots : Nat), CRel σ σ → wP D ct ek ad (outX ct qo qd v w) σ H → va_S (fr N0) s.heap H locs → lv_has ls 9 (lvB b ad qo qd i) → cells + 3 * n ≤ R.cells ∧ slots + 18 * n ≤ R.slots → W p l e R s m args below meth c H locs cells slots Q (F0 m 28 ls []) := by
  have hx := LC.1.1
  have hb := LC.1.2.1
  have hX := LC.2.2.2.2.1
  have hbl := LC.2.2.2.2.2.1
  have hbN := LC.2.2.2.2.2.2.1
  have hL := LC.2.2.2.2.2.2.2.1
  intro n
  induction n with
  | zero =>
    intro i h1 h2 σ v w H locs ls cells slots C hP hS hl hcs
    refine lv_iload hx hb dL_law_28 (lv_at hl 0 rfl) ?_
    refine lv_aload_n hx hb dL_law_30 rfl (lv_at hl 1 rfl) ?_
    refine va_slen hx hb hX hbl hbN hS dL_law_31 ?_
    refine lv_iconst (v := nI 4) hx hb dL_law_32 (by decide) ?_
    refine lv_isub hx hb dL_law_33 ?_
    refine lv_icmp_gt (tgt := 2369) hx hb dL_law_34 (by decide) (fun _ => ?_) (fun h => absurd ((l4_lt (by omega) hL).mpr (by omega)) h)
    exact kE H locs ls cells slots hS ⟨by omega, by omega⟩
  | succ n ih =>
    intro i h1 h2 σ v w H locs ls cells slots C hP hS hl hcs
    refine lv_iload hx hb dL_law_28 (lv_at hl 0 rfl) ?_
    refine lv_aload_n hx hb dL_law_30 rfl (lv_at hl 1 rfl) ?_
    refine va_slen hx hb hX hbl hbN hS dL_law_31 ?_
    refine lv_iconst (v := nI 4) hx hb dL_law_32 (by decide) ?_
    refine lv_isub hx hb dL_law_33 ?_
    refine lv_icmp_gt (tgt := 2369) hx hb dL_law_34 (by decide) (fun _ => ?_) (fun h => ?_)
    · exact kE H locs ls cells slots hS ⟨by omega, by omega⟩
    · have hi : i + 3 < L := by
        rcases Nat.lt_or_ge (i + 3) L with q | q
        · exact q
        · exact absurd ((l4_lt (by omega) hL).mpr (by omega)) h
      refine lv_aload_n hx hb dL_law_37 rfl (lv_at hl 1 rfl) ?_
      refine lv_iload hx hb dL_law_38 (lv_at hl 0 rfl) ?_
      refine va_sld hx hb hX hbl hbN hS (vp_in_nI (show i < L by omega) (by omega)) dL_law_40 ?_
      refine lv_bipush (v := 63) hx hb dL_law_41 (by decide) ?_
      refine lv_iand hx hb dL_law_43 ?_
      refine lw_sw LC (GI.x G) hi ⟨by omega, by omega⟩ C hP hS hl (fun τ v' w' H locs ls C hP hS hl => ?_)
      refine lv_iinc (v := nI (i + 4)) (lv' := lvB b ad qo qd (i + 4)) hx hb dL_law_2363 hl (k := 0) rfl (nI_inc' _ 4) (by decide) rfl (fun ls hl => ?_)
      refine lv_goto (tgt := 28) hx hb dL_law_2366 (by decide) ?_
      exact ih (i + 4) (by omega) (by omega) τ v' w' H locs ls (cells + 3) (slots + 18) C hP hS hl ⟨by omega, by omega⟩
end LPS

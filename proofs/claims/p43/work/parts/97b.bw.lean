/-! the builder's rows, in the law's own world -/
section BWW
variable {p : Program} {l : Launch} {e : Env} {R : Room} {s : State} {m : MethodId} {args : Array Value} {below : List Frame} {meth : Method} {c : Code} {H : Heap} {locs : List Loc} {cells slots : Nat} {Q : State → Prop}
variable {cc : ByteArray} {nL : Nat} {own : String} {pc : Nat} {ls : Array Slot} {rest st : List Value}
variable {D : va_G} {ct : Nat → ClassId} {ek ad cs : Nat → Nat} {N0 : Nat} {X lw : va_W} {F : State → Prop} {μ : Mem} {c0 : Nat}
theorem va_ldcSW (hexec : p.tables.exec = Jvm.exec) (hb : c.code = cc) {own tx : String} {index q : Nat} (hown : s.vm.findClass own = some m.cls) (hZ : vk_R own index tx q s) (hdg : decode cc pc = .ok (.ldc_w index, 3))
    (k : W p l e R s m args below meth c H locs cells slots Q (F0 m (pc + 3) ls (.ref q :: rest))) : W p l e R s m args below meth c H locs cells slots Q (F0 m pc ls rest) := by
  intro T hT X
  obtain ⟨t, a1, b1⟩ := k T hT X
  exact ⟨t, X.ldcStringW hexec hown (text := tx) (a := q) hZ.1 hZ.2 (g := F0 m pc ls rest) rfl (by rw [hb]; exact hdg) t a1, b1⟩
abbrev wD (ct : Nat → ClassId) (ek ad : Nat → Nat) (N0 : Nat) (X : va_W) : Prop := va_D (fr N0) (wl ct ek ad (fun _ _ => 0) ++ X)
theorem gW0 (G : GI D ct ek ad N0 X F s) (hW : wG D ct ek ad X μ H) : wG D ct ek ad (X ++ []) μ H ∧ wD ct ek ad N0 (X ++ []) := by
  rw [List.append_nil]; exact ⟨hW, G.2.1⟩
theorem as3L {A B C : va_W} : A ++ (B ++ C) = (A ++ B) ++ C := (List.append_assoc A B C).symm
theorem gN {index : Nat} (c1 : Nat) (S : CallFix p m c cc nL s args BW own) (X0 : GX D ct N0 F s) (hW : wG D ct ek ad (X ++ lw) μ H) (hD : wD ct ek ad N0 (X ++ lw)) (hS : va_S (fr N0) s.heap H locs) (hcl : Cond.classLink own index RJ4 ∈ BW) (hc : c0 + 1 ≤ c1 ∧ c1 ≤ R.cells ∧ 6 * c1 ≤ R.slots) (hdg : decode cc pc = .ok (.new index, 3))
    (kk : ∀ (q : Nat) (H : Heap), wG D ct ek ad (X ++ (lw ++ [(q, .inr (9, [.null, .int 0, .int 0, .int 0]))])) μ H → wD ct ek ad N0 (X ++ (lw ++ [(q, .inr (9, [.null, .int 0, .int 0, .int 0]))])) → va_S (fr N0) s.heap H locs → W p l e R s m args below meth c H locs c1 (6 * c1) Q (F0 m (pc + 3) ls (.ref q :: rest))) : W p l e R s m args below meth c H locs c0 (6 * c0) Q (F0 m pc ls rest) := by
  obtain ⟨σ, hP, hC⟩ := hW
  refine nO (C := RJ4) (T := TJ4) (ci := 9) (ty := tyJ4) (fs := [.null, .int 0, .int 0, .int 0]) S X0 hP (va_D.mem hD) hS inJ4 tyJ4_ok hcl ib_RJ4 in_RJ4 rfl (by decide +kernel) ⟨by omega, by omega⟩ hdg (fun q H hP hD hS => ?_)
  rw [List.append_assoc, List.append_assoc] at hP hD
  exact W.widen (k := c1) (n := 6 * c1) (by omega) (by omega) (kk q H ⟨σ, hP, hC⟩ (va_D.mem hD) hS)
theorem gBI {y : MethodName} {bs : ByteArray} {n d k idx kp b : Nat} {As : List Value} {L : (Nat → Nat) → va_W} (c1 : Nat) (S : CallFix p m c cc nL s args BW own) (X0 : GX D ct N0 F s) (hM : ∀ B, MB l y bs n none d k D ct N0 F (.ref b :: As) (B ++ lw) (fun _ => none) (fun g => B ++ L g)) (ok : COB y bs n none kp) (hno : y.name = "<init>") (hl : Cond.methodLink own idx y ∈ BW) (him : Cond.instanceMethod y ∈ BW)
    (hW : wG D ct ek ad (X ++ lw) μ H) (hD : wD ct ek ad N0 (X ++ lw)) (hS : va_S (fr N0) s.heap H locs) (hls : ls.size = nL) (hR : d + 1 ≤ R.frames ∧ 32 * d + 32 ≤ R.locals) (hk : As.length = kp) (hst : st = As.reverse ++ .ref b :: rest) (hrest : (rest.map fun v => v.category).sum ≤ 8) (hc : c0 + k ≤ c1 ∧ c1 ≤ R.cells ∧ 6 * c1 ≤ R.slots) (hdg : decode cc pc = .ok (.invokespecial idx, 3))
    (kk : ∀ (f : Nat → Nat) (H : Heap) (locs : List Loc), wG D ct ek ad (X ++ L f) μ H → wD ct ek ad N0 (X ++ L f) → va_S (fr N0) s.heap H locs → W p l e R s m args below meth c H locs c1 (6 * c1) Q (F0 m (pc + 3) ls rest)) : W p l e R s m args below meth c H locs c0 (6 * c0) Q (F0 m pc ls st) := by
  obtain ⟨σ, hP, hC⟩ := hW
  have hD2 := va_D.mem (τ := σ) hD
  have hP2 : va_P D vcl (wl ct ek ad σ ++ (X ++ lw)) H := hP
  rw [as3L] at hP2 hD2
  refine bI S X0 (hM _) ok hno hl him hP2 hD2 hS hls hR hk hst hrest ⟨by omega, by omega⟩ hdg (fun f H locs hP hD hS => ?_)
  rw [List.append_assoc] at hP hD
  exact W.widen (k := c1) (n := 6 * c1) (by omega) (by omega) (kk f H locs ⟨σ, hP, hC⟩ (va_D.mem hD) hS)
theorem gBW {C : String} {y : MethodName} {bs : ByteArray} {ret : Option FieldType} {n d k idx kp b : Nat} {As : List Value} {ov : (Nat → Nat) → Option Value} {L : (Nat → Nat) → va_W} (c1 : Nat) (S : CallFix p m c cc nL s args BW own) (X0 : GX D ct N0 F s) (hM : ∀ B, MB l y bs n ret d k D ct N0 F (.ref b :: As) (B ++ lw) ov (fun g => B ++ L g)) (ok : COB y bs n ret kp) (hl : Cond.methodLink own idx y ∈ BW) (him : Cond.instanceMethod y ∈ BW) (hse : (Cond.selects C y y).before args s = true) {ci N : Nat} {T : u_T} {fs : List Value} (j : Nat) (hc9 : vcl[ci]? = some (C, T, N)) (he : lw[j]? = some (b, .inr (ci, fs)))
    (hW : wG D ct ek ad (X ++ lw) μ H) (hD : wD ct ek ad N0 (X ++ lw)) (hS : va_S (fr N0) s.heap H locs) (hls : ls.size = nL) (hR : d + 1 ≤ R.frames ∧ 32 * d + 32 ≤ R.locals) (hk : As.length = kp) (hst : st = As.reverse ++ .ref b :: rest) (hrest : (rest.map fun v => v.category).sum ≤ 8) (hc : c0 + k ≤ c1 ∧ c1 ≤ R.cells ∧ 6 * c1 ≤ R.slots) (hdg : decode cc pc = .ok (.invokevirtual idx, 3))
    (kk : ∀ (f : Nat → Nat) (H : Heap) (locs : List Loc), wG D ct ek ad (X ++ L f) μ H → wD ct ek ad N0 (X ++ L f) → va_S (fr N0) s.heap H locs → W p l e R s m args below meth c H locs c1 (6 * c1) Q (F0 m (pc + 3) ls ((ov f).toList ++ rest))) : W p l e R s m args below meth c H locs c0 (6 * c0) Q (F0 m pc ls st) := by
  obtain ⟨σ, hP, hC⟩ := hW
  have hD2 := va_D.mem (τ := σ) hD
  have hP2 : va_P D vcl (wl ct ek ad σ ++ (X ++ lw)) H := hP
  rw [as3L] at hP2 hD2
  refine bV (C := C) S X0 (hM _) ok hl him hse (va_recv X0.1 hP2 hc9 (at_B he)) hP2 hD2 hS hls hR hk hst hrest ⟨by omega, by omega⟩ hdg (fun f H locs hP hD hS => ?_)
  rw [List.append_assoc] at hP hD
  exact W.widen (k := c1) (n := 6 * c1) (by omega) (by omega) (kk f H locs ⟨σ, hP, hC⟩ (va_D.mem hD) hS)
end BWW
/-- the letters of what is put together -/
abbrev srK (i : Nat) : Nat → Int32 := fun j => (strB.getD i []).getD j 0
def f1K (i : Nat) : Nat → Int32 := va_cpy (srK i) (fun _ => 0) 0 0 (strL.getD i 0)
def f2K (i d : Nat) : Nat → Int32 := upd (f1K i) (strL.getD i 0) (dgO d)
def f3K (i d : Nat) : Nat → Int32 := va_cpy (srK 9) (f2K i d) 0 (strL.getD i 0 + 1) (strL.getD 9 0)
def fZ (f : Nat → Int32) (n : Nat) : Nat → Int32 := va_cpy f (fun _ => 0) 0 0 n
theorem fA_fit : ∀ d : Nat, d < 7 → ∀ j : Nat, j < 16 → fits .byte (.int (f3K 8 d j)) = true := by decide +kernel
theorem fB_fit : ∀ d : Nat, d < 4 → ∀ j : Nat, j < 16 → fits .byte (.int (f2K 10 d j)) = true := by decide +kernel
theorem fC_fit : ∀ d : Nat, d < 10 → ∀ j : Nat, j < 16 → fits .byte (.int (f2K 13 d j)) = true := by decide +kernel
theorem fA_ch : ∀ d : Nat, d < 7 → ∀ j : Nat, j < 6 → ((fZ (f3K 8 d) 6 j &&& 255).toUInt32 % 65536).toInt32 = fZ (f3K 8 d) 6 j ∧ narrow .char (.int (fZ (f3K 8 d) 6 j)) = .int (fZ (f3K 8 d) 6 j) := by decide +kernel
theorem fB_ch : ∀ d : Nat, d < 4 → ∀ j : Nat, j < 7 → ((fZ (f2K 10 d) 7 j &&& 255).toUInt32 % 65536).toInt32 = fZ (f2K 10 d) 7 j ∧ narrow .char (.int (fZ (f2K 10 d) 7 j)) = .int (fZ (f2K 10 d) 7 j) := by decide +kernel
theorem fC_ch : ∀ d : Nat, d < 10 → ∀ j : Nat, j < 4 → ((fZ (f2K 13 d) 4 j &&& 255).toUInt32 % 65536).toInt32 = fZ (f2K 13 d) 4 j ∧ narrow .char (.int (fZ (f2K 13 d) 4 j)) = .int (fZ (f2K 13 d) 4 j) := by decide +kernel
theorem fA_nar : ∀ d : Nat, d < 7 → ∀ j : Nat, j < 6 → vp_nar .char (fZ (f3K 8 d) 6 j) = fZ (f3K 8 d) 6 j := by decide +kernel
theorem fB_nar : ∀ d : Nat, d < 4 → ∀ j : Nat, j < 7 → vp_nar .char (fZ (f2K 10 d) 7 j) = fZ (f2K 10 d) 7 j := by decide +kernel
theorem fC_nar : ∀ d : Nat, d < 10 → ∀ j : Nat, j < 4 → vp_nar .char (fZ (f2K 13 d) 4 j) = fZ (f2K 13 d) 4 j := by decide +kernel
theorem sK_nar : ∀ i : Nat, i < 14 → ∀ j : Nat, j < strL.getD i 0 → vp_nar .char (chB i j) = chB i j := by decide +kernel

/-! the world out of what the constructors made -/
def M0 : Mem := fun b j => if b = 0 ∧ j = 10 then -1 else if b = 276 ∧ j = 15 then -1 else if 243 ≤ b ∧ b < 274 ∧ j = 0 then 3 else 0
theorem M0_z {b : Nat} (h1 : 1 ≤ b) (h2 : b < 243 ∨ (274 ≤ b ∧ b ≠ 276)) : M0 b = zr := by
  funext j
  unfold M0
  rw [if_neg (by omega), if_neg (by omega), if_neg (by omega)]
theorem M0_0 : Mem0 M0 := by
  refine ⟨fun c h1 h2 j => by rw [M0_z h1 (by omega)], fun j h1 h2 => ?_, by decide, by decide, by decide, fun j => by rw [M0_z (by omega) (by omega)], fun j => by rw [M0_z (by omega) (by omega)], fun c h1 h2 j => by rw [M0_z (by omega) (by omega)], fun j h => ?_, by decide⟩
  · unfold M0; rw [if_neg (by omega), if_neg (by omega), if_neg (by omega)]
  · unfold M0; rw [if_neg (by omega), if_neg (by omega), if_neg (by omega)]
section WLN
variable {ct : Nat → ClassId} {ek f g : Nat → Nat}
def adN (f _ : Nat → Nat) : Nat → Nat := f
theorem adN_1 {b : Nat} (_ : b < 276) : adN f g b = f b := rfl
def GN (ct : Nat → ClassId) (ek f g : Nat → Nat) : Nat → Nat × va_E := fun b => (adN f g b, cellF ct ek (adN f g) b (M0 b))
theorem GN_H {a : Nat} (ha : isH a) : (List.range 20).map (fun o => GN ct ek f g (a + o)) = HL ct (fun o => f (a + o)) := by
  have hl := isH_lt ha
  have h1 : 1 ≤ a := by rcases ha with h | h | h | ⟨j, h1, h⟩ <;> omega
  unfold HL
  refine List.map_congr_left fun o ho => ?_
  have ho := List.mem_range.mp ho
  unfold GN
  rw [adN_1 (by omega), cH ha ho, M0_z (by omega) (by omega), hCell_sh (f := adN f g) (f' := fun o => f (a + o)) (b := a) (b' := 0) (fun k hk => by rw [adN_1 (by omega), Nat.zero_add])]
theorem GN_P : (List.range 14).map (fun o => GN ct ek f g (61 + o)) = PL ct (fun o => f (61 + o)) := by
  unfold PL
  refine List.map_congr_left fun o ho => ?_
  have ho := List.mem_range.mp ho
  unfold GN
  rw [adN_1 (by omega), cP (Or.inl rfl) ho, M0_z (by omega) (by omega), pCell_sh (f := adN f g) (f' := fun o => f (61 + o)) (b := 61) (b' := 0) (fun k hk => by rw [adN_1 (by omega), Nat.zero_add])]
theorem GN_Hs : ∀ k, k ≤ 8 → (List.range (20 * k)).map (fun o => GN ct ek f g (79 + o)) = HsL ct (fun i o => f (79 + 20 * i + o)) k
  | 0, _ => rfl
  | k + 1, hk => by
    rw [show 20 * (k + 1) = 20 * k + 20 by omega, rg_add _ (20 * k) 20, GN_Hs k (by omega), HsL_s (g := fun i o => f (79 + 20 * i + o)) (f := fun o => f (79 + 20 * k + o)) (fun _ _ => rfl) rfl]
    congr 1
    rw [← GN_H (g := g) (ct := ct) (ek := ek) (Or.inr (Or.inr (Or.inr ⟨k, by omega, rfl⟩)))]
    refine List.map_congr_left fun o _ => ?_
    rw [show 79 + (20 * k + o) = 79 + 20 * k + o by omega]
theorem GN_C {o : Nat} (h1 : 243 ≤ o) (h2 : o < 274) : GN ct ek f g o = (f o, cel3 ek) := by
  unfold GN
  rw [adN_1 (by omega), cCh ⟨h1, h2⟩]
  have e0 : M0 o 0 = 3 := by unfold M0; rw [if_neg (by omega), if_neg (by omega), if_pos ⟨h1, h2, rfl⟩]
  have ej : ∀ j, 1 ≤ j → j < 7 → M0 o j = 0 := fun j a b => by unfold M0; rw [if_neg (by omega), if_neg (by omega), if_neg (by omega)]
  unfold chCell cel3
  rw [e0, ej 1 (by omega) (by omega), ej 2 (by omega) (by omega), ej 3 (by omega) (by omega), ej 4 (by omega) (by omega), ej 5 (by omega) (by omega), ej 6 (by omega) (by omega)]
  rfl
theorem GN_x {b : Nat} (h : b < 276) : GN ct ek f g b = (f b, cellF ct ek (adN f g) b (M0 b)) := by unfold GN; rw [adN_1 h]
theorem GN_y {b : Nat} (h : b = 0 ∨ (75 ≤ b ∧ b < 79) ∨ (239 ≤ b ∧ b < 243) ∨ b = 274 ∨ b = 275) : GN ct ek f g b = (f b, xCell ct (adN f g) b (M0 b)) := by
  rw [GN_x (by omega)]
  unfold cellF
  rw [if_neg (by omega), if_neg (by omega), if_neg (by omega), if_neg (by omega)]
theorem wl_new : wl ct ek (adN f g) M0 = XL ct ek f := by
  have s2 : (List.range 276).map (GN ct ek f g) = (List.range 274).map (GN ct ek f g) ++ (List.range 2).map (fun o => GN ct ek f g (274 + o)) := rg_add _ 274 2
  have s3 : (List.range 274).map (GN ct ek f g) = (List.range 273).map (GN ct ek f g) ++ (List.range 1).map (fun o => GN ct ek f g (273 + o)) := rg_add _ 273 1
  have s4 : (List.range 273).map (GN ct ek f g) = (List.range 239).map (GN ct ek f g) ++ (List.range 34).map (fun o => GN ct ek f g (239 + o)) := rg_add _ 239 34
  have s5 : (List.range 239).map (GN ct ek f g) = (List.range 77).map (GN ct ek f g) ++ (List.range 162).map (fun o => GN ct ek f g (77 + o)) := rg_add _ 77 162
  have s6 : (List.range 77).map (GN ct ek f g) = (List.range 75).map (GN ct ek f g) ++ (List.range 2).map (fun o => GN ct ek f g (75 + o)) := rg_add _ 75 2
  have s7 : (List.range 75).map (GN ct ek f g) = (List.range 61).map (GN ct ek f g) ++ (List.range 14).map (fun o => GN ct ek f g (61 + o)) := rg_add _ 61 14
  have s8 : (List.range 61).map (GN ct ek f g) = (List.range 41).map (GN ct ek f g) ++ (List.range 20).map (fun o => GN ct ek f g (41 + o)) := rg_add _ 41 20
  have s9 : (List.range 41).map (GN ct ek f g) = (List.range 21).map (GN ct ek f g) ++ (List.range 20).map (fun o => GN ct ek f g (21 + o)) := rg_add _ 21 20
  have s10 : (List.range 21).map (GN ct ek f g) = (List.range 1).map (GN ct ek f g) ++ (List.range 20).map (fun o => GN ct ek f g (1 + o)) := rg_add _ 1 20
  have p0 : (List.range 1).map (GN ct ek f g) = [(f 0, .inr (8, [.ref (f 1), .ref (f 21), .ref (f 41), .ref (f 61), .ref (f 75), .ref (f 77), .ref (f 239), .ref (f 273), .ref (f 274), .int 0, .int (-1), .int 0, .int 0, .int 0]))] := by
    show [GN ct ek f g 0] = _
    rw [GN_y (Or.inl rfl)]
    unfold xCell
    simp only [adN_1 (show 1 < 276 by decide), adN_1 (show 21 < 276 by decide), adN_1 (show 41 < 276 by decide), adN_1 (show 61 < 276 by decide), adN_1 (show 75 < 276 by decide), adN_1 (show 77 < 276 by decide), adN_1 (show 239 < 276 by decide), adN_1 (show 273 < 276 by decide), adN_1 (show 274 < 276 by decide)]
    rfl
  have p5 : (List.range 2).map (fun o => GN ct ek f g (75 + o)) = CL ct (fun o => f (75 + o)) := by
    show [GN ct ek f g 75, GN ct ek f g 76] = _
    rw [GN_y (by omega), GN_y (by omega)]
    unfold xCell CL
    simp only [adN_1 (show 76 < 276 by decide), M0_z (show 1 ≤ 76 by decide) (Or.inl (by decide))]
  have p6 : (List.range 162).map (fun o => GN ct ek f g (77 + o)) = HiL ct (fun o => f (77 + o)) := by
    have t : (List.range 162).map (fun o => GN ct ek f g (77 + o)) = (List.range 2).map (fun o => GN ct ek f g (77 + o)) ++ (List.range 160).map (fun o => GN ct ek f g (77 + (2 + o))) := rg_add _ 2 160
    have t2 : (List.range 160).map (fun o => GN ct ek f g (77 + (2 + o))) = HsL ct (fun i o => f (77 + (2 + 20 * i + o))) 8 := by
      have h := GN_Hs (ct := ct) (ek := ek) (f := f) (g := g) 8 (Nat.le_refl _)
      rw [HsL_c (g' := fun i o => f (77 + (2 + 20 * i + o))) (fun i o _ _ => by rw [show 79 + 20 * i + o = 77 + (2 + 20 * i + o) by omega])] at h
      rw [← h]
      refine List.map_congr_left fun o _ => ?_
      rw [show 77 + (2 + o) = 79 + o by omega]
    rw [t, t2]
    show [GN ct ek f g 77, GN ct ek f g 78] ++ _ = _
    rw [GN_y (by omega), GN_y (by omega)]
    unfold HiL xCell
    have e : (fun i => if i < 8 then some (adN f g (79 + 20 * i)) else none) = (fun i => if i < 8 then some (f (77 + (2 + 20 * i))) else none) := by
      funext i
      by_cases c : i < 8
      · rw [if_pos c, if_pos c, adN_1 (by omega), show 79 + 20 * i = 77 + (2 + 20 * i) by omega]
      · rw [if_neg c, if_neg c]
    simp only [e, adN_1 (show 78 < 276 by decide), M0_z (show 1 ≤ 77 by decide) (Or.inl (by decide))]
    rfl
  have p7 : (List.range 34).map (fun o => GN ct ek f g (239 + o)) = TL ct ek (fun o => f (239 + o)) := by
    have t : (List.range 34).map (fun o => GN ct ek f g (239 + o)) = (List.range 4).map (fun o => GN ct ek f g (239 + o)) ++ (List.range 30).map (fun o => GN ct ek f g (239 + (4 + o))) := rg_add _ 4 30
    have t2 : (List.range 30).map (fun o => GN ct ek f g (239 + (4 + o))) = CsL ek (fun i => f (239 + (4 + i))) 30 := by
      unfold CsL
      refine List.map_congr_left fun o ho => ?_
      have ho := List.mem_range.mp ho
      exact GN_C (by omega) (by omega)
    rw [t, t2]
    show [GN ct ek f g 239, GN ct ek f g 240, GN ct ek f g 241, GN ct ek f g 242] ++ _ = _
    rw [GN_y (by omega), GN_y (by omega), GN_y (by omega), GN_y (by omega)]
    unfold TL xCell
    have e : (fun i => if i < 30 then some (adN f g (243 + i)) else none) = (fun i => if i < 30 then some (f (239 + (4 + i))) else none) := by
      funext i
      by_cases c : i < 30
      · rw [if_pos c, if_pos c, adN_1 (by omega), show 243 + i = 239 + (4 + i) by omega]
      · rw [if_neg c, if_neg c]
    simp only [e, adN_1 (show 240 < 276 by decide), adN_1 (show 241 < 276 by decide), adN_1 (show 242 < 276 by decide), M0_z (show 1 ≤ 239 by decide) (Or.inl (by decide)), M0_z (show 1 ≤ 240 by decide) (Or.inl (by decide)), M0_z (show 1 ≤ 242 by decide) (Or.inl (by decide))]
    rfl
  have p8 : (List.range 1).map (fun o => GN ct ek f g (273 + o)) = KL ek (fun o => f (273 + o)) := by
    show [GN ct ek f g 273] = _
    rw [GN_C (by omega) (by omega)]
    rfl
  have p9 : (List.range 2).map (fun o => GN ct ek f g (274 + o)) = Ln9 ct (fun o => f (274 + o)) := by
    show [GN ct ek f g 274, GN ct ek f g 275] = _
    rw [GN_y (by omega), GN_y (by omega)]
    unfold xCell Ln9
    simp only [adN_1 (show 275 < 276 by decide), M0_z (show 1 ≤ 274 by decide) (Or.inr ⟨by decide, by decide⟩), M0_z (show 1 ≤ 275 by decide) (Or.inr ⟨by decide, by decide⟩)]
  show (List.range 276).map (GN ct ek f g) = _
  rw [s2, s3, s4, s5, s6, s7, s8, s9, s10, p0, GN_H (Or.inl rfl), GN_H (Or.inr (Or.inl rfl)), GN_H (Or.inr (Or.inr (Or.inl rfl))), GN_P, p5, p6, p7, p8, p9]
  rfl
end WLN

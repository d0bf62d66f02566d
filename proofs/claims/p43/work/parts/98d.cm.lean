/-! the constructors, part two (laid by wip/p43/spec_init2.py) -/
section CNM
variable {ct : Nat → ClassId} {ek : Nat → Nat}
theorem fm_congr {α β : Type} {f g : α → List β} : ∀ l : List α, (∀ x ∈ l, f x = g x) → l.flatMap f = l.flatMap g
  | [], _ => rfl
  | a :: l, h => by rw [List.flatMap_cons, List.flatMap_cons, h a List.mem_cons_self, fm_congr l (fun x hx => h x (List.mem_cons_of_mem _ hx))]
/-- houses one behind another -/
def HsL (ct : Nat → ClassId) (g : Nat → Nat → Nat) (k : Nat) : va_W := (List.range k).flatMap (fun i => HL ct (g i))
theorem HsL_s {g g' : Nat → Nat → Nat} {f : Nat → Nat} {k : Nat} (h : ∀ i, i < k → g' i = g i) (hk : g' k = f) : HsL ct g' (k + 1) = HsL ct g k ++ HL ct f := by
  unfold HsL
  rw [List.range_succ, List.flatMap_append, List.flatMap_singleton, hk]
  congr 1
  refine fm_congr _ fun i hi => ?_
  rw [h i (List.mem_range.mp hi)]
theorem HL_len {f : Nat → Nat} : (HL ct f).length = 20 := by unfold HL; rw [List.length_map, List.length_range]
theorem HsL_len {g : Nat → Nat → Nat} : ∀ k, (HsL ct g k).length = 20 * k
  | 0 => rfl
  | k + 1 => by rw [HsL_s (g := g) (f := g k) (fun _ _ => rfl) rfl, List.length_append, HsL_len k, HL_len]; omega
def cel3 (ek : Nat → Nat) : va_E := .inr (2, [.ref (ek 3), .int 0, .int 0, .int 0, .int 0, .int 0, .int 0])
def CsL (ek g : Nat → Nat) (k : Nat) : va_W := (List.range k).map (fun i => (g i, cel3 ek))
theorem CsL_s {g g' : Nat → Nat} {q k : Nat} (h : ∀ i, i < k → g' i = g i) (hk : g' k = q) : CsL ek g' (k + 1) = CsL ek g k ++ [(q, cel3 ek)] := by
  unfold CsL
  rw [List.range_succ, List.map_append, List.map_singleton, hk]
  congr 1
  refine List.map_congr_left fun i hi => ?_
  rw [h i (List.mem_range.mp hi)]
theorem CsL_len {g : Nat → Nat} {k : Nat} : (CsL ek g k).length = k := by unfold CsL; rw [List.length_map, List.length_range]
/-- a ring of houses -/
def HiL (ct : Nat → ClassId) (f : Nat → Nat) : va_W := (f 0, .inr (3, [.ref (f 1), .int 0, .int 0])) :: (f 1, .inl (ct 4, 8, .inr (.inr (.inr (.inr (fun i => if i < 8 then some (f (2 + 20 * i)) else none)))))) :: HsL ct (fun i o => f (2 + 20 * i + o)) 8
def hi9 (q a : Nat) (g : Nat → Nat → Nat) : Nat → Nat := fun x => if x = 0 then q else if x = 1 then a else g ((x - 2) / 20) ((x - 2) % 20)
theorem hi9_at {q a i o : Nat} {g : Nat → Nat → Nat} (ho : o < 20) : hi9 q a g (2 + 20 * i + o) = g i o := by
  unfold hi9
  rw [if_neg (by omega), if_neg (by omega), show (2 + 20 * i + o - 2) / 20 = i by omega, show (2 + 20 * i + o - 2) % 20 = o by omega]
theorem HsL_c {g g' : Nat → Nat → Nat} {k : Nat} (h : ∀ i o, i < k → o < 20 → g i o = g' i o) : HsL ct g k = HsL ct g' k := by
  unfold HsL
  refine fm_congr _ fun i hi => ?_
  exact HL_c (fun o ho => h i o (List.mem_range.mp hi) ho)
theorem HiL_e {q a : Nat} {g : Nat → Nat → Nat} : (q, .inr (3, [.ref a, .int 0, .int 0])) :: (a, .inl (ct 4, 8, .inr (.inr (.inr (.inr (fun i => if i < 8 then some (g i 0) else none)))))) :: HsL ct g 8 = HiL ct (hi9 q a g) := by
  unfold HiL
  have e : (fun i => if i < 8 then some (hi9 q a g (2 + 20 * i)) else none) = (fun i => if i < 8 then some (g i 0) else none) := by
    funext i
    rw [show 2 + 20 * i = 2 + 20 * i + 0 by omega, hi9_at (by omega)]
  rw [e, HsL_c (g := fun i o => hi9 q a g (2 + 20 * i + o)) (g' := g) (fun i o _ ho => hi9_at ho)]
  rfl
/-- a text buffer with its changes -/
def TL (ct : Nat → ClassId) (ek f : Nat → Nat) : va_W := (f 0, .inr (7, [.ref (f 1), .ref (f 2), .ref (f 3), .int 0, .int 0, .int 0, .int 0, .int 0])) :: (f 1, .inl (ct 0, 60, .inl zr)) :: (f 2, .inl (ct 3, 30, .inr (.inr (.inr (.inr (fun i => if i < 30 then some (f (4 + i)) else none)))))) :: (f 3, .inl (ct 1, 3, .inl zr)) :: CsL ek (fun i => f (4 + i)) 30
def tl9 (q a1 a2 a3 : Nat) (g : Nat → Nat) : Nat → Nat := fun x => if x = 0 then q else if x = 1 then a1 else if x = 2 then a2 else if x = 3 then a3 else g (x - 4)
theorem tl9_at {q a1 a2 a3 i : Nat} {g : Nat → Nat} : tl9 q a1 a2 a3 g (4 + i) = g i := by
  unfold tl9
  rw [if_neg (by omega), if_neg (by omega), if_neg (by omega), if_neg (by omega), show 4 + i - 4 = i by omega]
theorem TL_e {q a1 a2 a3 : Nat} {g : Nat → Nat} : (q, .inr (7, [.ref a1, .ref a2, .ref a3, .int 0, .int 0, .int 0, .int 0, .int 0])) :: (a1, .inl (ct 0, 60, .inl zr)) :: (a2, .inl (ct 3, 30, .inr (.inr (.inr (.inr (fun i => if i < 30 then some (g i) else none)))))) :: (a3, .inl (ct 1, 3, .inl zr)) :: CsL ek g 30 = TL ct ek (tl9 q a1 a2 a3 g) := by
  unfold TL
  have e : (fun i => tl9 q a1 a2 a3 g (4 + i)) = g := funext fun i => tl9_at
  have e2 : (fun i => if i < 30 then some (tl9 q a1 a2 a3 g (4 + i)) else none) = (fun i => if i < 30 then some (g i) else none) := by
    funext i; rw [tl9_at]
  rw [e, e2]
  rfl
/-- the whole object -/
def XL (ct : Nat → ClassId) (ek f : Nat → Nat) : va_W := [(f 0, .inr (8, [.ref (f 1), .ref (f 21), .ref (f 41), .ref (f 61), .ref (f 75), .ref (f 77), .ref (f 239), .ref (f 273), .ref (f 274), .int 0, .int (-1), .int 0, .int 0, .int 0]))] ++ HL ct (fun o => f (1 + o)) ++ HL ct (fun o => f (21 + o)) ++ HL ct (fun o => f (41 + o)) ++ PL ct (fun o => f (61 + o)) ++ CL ct (fun o => f (75 + o)) ++ HiL ct (fun o => f (77 + o)) ++ TL ct ek (fun o => f (239 + o)) ++ KL ek (fun o => f (273 + o)) ++ Ln9 ct (fun o => f (274 + o))
def x9 (q : Nat) (f1 f2 f3 f4 f5 f6 f7 f8 f9 : Nat → Nat) : Nat → Nat := fun x => if x = 0 then q else if x < 21 then f1 (x - 1) else if x < 41 then f2 (x - 21) else if x < 61 then f3 (x - 41) else if x < 75 then f4 (x - 61) else if x < 77 then f5 (x - 75) else if x < 239 then f6 (x - 77) else if x < 273 then f7 (x - 239) else if x < 274 then f8 (x - 273) else f9 (x - 274)
theorem HiL_c {f f' : Nat → Nat} (h : ∀ k, k < 162 → f k = f' k) : HiL ct f = HiL ct f' := by
  unfold HiL
  have e : (fun i => if i < 8 then some (f (2 + 20 * i)) else none) = (fun i => if i < 8 then some (f' (2 + 20 * i)) else none) := by
    funext i
    by_cases c : i < 8
    · rw [if_pos c, if_pos c, h _ (by omega)]
    · rw [if_neg c, if_neg c]
  rw [e, h 0 (by omega), h 1 (by omega), HsL_c (g' := fun i o => f' (2 + 20 * i + o)) (fun i o hi ho => h _ (by omega))]
theorem TL_c {f f' : Nat → Nat} (h : ∀ k, k < 34 → f k = f' k) : TL ct ek f = TL ct ek f' := by
  unfold TL
  have e : (fun i => if i < 30 then some (f (4 + i)) else none) = (fun i => if i < 30 then some (f' (4 + i)) else none) := by
    funext i
    by_cases c : i < 30
    · rw [if_pos c, if_pos c, h _ (by omega)]
    · rw [if_neg c, if_neg c]
  have e2 : CsL ek (fun i => f (4 + i)) 30 = CsL ek (fun i => f' (4 + i)) 30 := by
    unfold CsL
    refine List.map_congr_left fun i hi => ?_
    have hi := List.mem_range.mp hi
    show (f (4 + i), _) = (f' (4 + i), _)
    rw [h _ (by omega)]
  rw [e, e2, h 0 (by omega), h 1 (by omega), h 2 (by omega), h 3 (by omega)]
theorem XL_e {q : Nat} {f1 f2 f3 f4 f5 f6 f7 f8 f9 : Nat → Nat} : [(q, .inr (8, [.ref (f1 0), .ref (f2 0), .ref (f3 0), .ref (f4 0), .ref (f5 0), .ref (f6 0), .ref (f7 0), .ref (f8 0), .ref (f9 0), .int 0, .int (-1), .int 0, .int 0, .int 0]))] ++ HL ct f1 ++ HL ct f2 ++ HL ct f3 ++ PL ct f4 ++ CL ct f5 ++ HiL ct f6 ++ TL ct ek f7 ++ KL ek f8 ++ Ln9 ct f9 = XL ct ek (x9 q f1 f2 f3 f4 f5 f6 f7 f8 f9) := by
  unfold XL
  generalize hX : x9 q f1 f2 f3 f4 f5 f6 f7 f8 f9 = X
  have e1 : ∀ k, k < 20 → X (1 + k) = f1 k := fun k hk => by
    rw [← hX]; unfold x9
    rw [if_neg (by omega), if_pos (by omega), show 1 + k - 1 = k by omega]
  have e2 : ∀ k, k < 20 → X (21 + k) = f2 k := fun k hk => by
    rw [← hX]; unfold x9
    rw [if_neg (by omega), if_neg (by omega), if_pos (by omega), show 21 + k - 21 = k by omega]
  have e3 : ∀ k, k < 20 → X (41 + k) = f3 k := fun k hk => by
    rw [← hX]; unfold x9
    rw [if_neg (by omega), if_neg (by omega), if_neg (by omega), if_pos (by omega), show 41 + k - 41 = k by omega]
  have e4 : ∀ k, k < 14 → X (61 + k) = f4 k := fun k hk => by
    rw [← hX]; unfold x9
    rw [if_neg (by omega), if_neg (by omega), if_neg (by omega), if_neg (by omega), if_pos (by omega), show 61 + k - 61 = k by omega]
  have e5 : ∀ k, k < 2 → X (75 + k) = f5 k := fun k hk => by
    rw [← hX]; unfold x9
    rw [if_neg (by omega), if_neg (by omega), if_neg (by omega), if_neg (by omega), if_neg (by omega), if_pos (by omega), show 75 + k - 75 = k by omega]
  have e6 : ∀ k, k < 162 → X (77 + k) = f6 k := fun k hk => by
    rw [← hX]; unfold x9
    rw [if_neg (by omega), if_neg (by omega), if_neg (by omega), if_neg (by omega), if_neg (by omega), if_neg (by omega), if_pos (by omega), show 77 + k - 77 = k by omega]
  have e7 : ∀ k, k < 34 → X (239 + k) = f7 k := fun k hk => by
    rw [← hX]; unfold x9
    rw [if_neg (by omega), if_neg (by omega), if_neg (by omega), if_neg (by omega), if_neg (by omega), if_neg (by omega), if_neg (by omega), if_pos (by omega), show 239 + k - 239 = k by omega]
  have e8 : ∀ k, k < 1 → X (273 + k) = f8 k := fun k hk => by
    rw [← hX]; unfold x9
    rw [if_neg (by omega), if_neg (by omega), if_neg (by omega), if_neg (by omega), if_neg (by omega), if_neg (by omega), if_neg (by omega), if_neg (by omega), if_pos (by omega), show 273 + k - 273 = k by omega]
  have e9 : ∀ k, X (274 + k) = f9 k := fun k => by
    rw [← hX]; unfold x9
    rw [if_neg (by omega), if_neg (by omega), if_neg (by omega), if_neg (by omega), if_neg (by omega), if_neg (by omega), if_neg (by omega), if_neg (by omega), if_neg (by omega), show 274 + k - 274 = k by omega]
  have e0 : X 0 = q := by rw [← hX]; rfl
  rw [HL_c (f := fun o => X (1 + o)) e1, HL_c (f := fun o => X (21 + o)) e2, HL_c (f := fun o => X (41 + o)) e3, PL_c (f := fun o => X (61 + o)) e4, HiL_c (f := fun o => X (77 + o)) e6, TL_c (f := fun o => X (239 + o)) e7]
  unfold CL KL Ln9
  dsimp only
  rw [e5 0 (by omega), e5 1 (by omega), e8 0 (by omega), e9 0, e9 1, e0, show X 1 = f1 0 from e1 0 (by omega), show X 21 = f2 0 from e2 0 (by omega), show X 41 = f3 0 from e3 0 (by omega), show X 61 = f4 0 from e4 0 (by omega), show X 77 = f6 0 from e6 0 (by omega), show X 239 = f7 0 from e7 0 (by omega)]
end CNM
theorem ck_X4 : CKI yX4_init cX4_init 2 := ⟨im_yX4_init, in_RX4, co_yX4_init, ⟨by decide +kernel, by decide +kernel, by decide +kernel⟩, by decide, rfl⟩
set_option maxHeartbeats 1000000 in
set_option maxRecDepth 100000 in
theorem c_X4_init (l : Launch) {D : va_G} {ct : Nat → ClassId} {N0 : Nat} {F : State → Prop} (B : va_W) (q : Nat) : MC l yX4_init cX4_init 2 3 161 968 D ct N0 F B q (.inr (3, [.null, .int 0, .int 0])) (HiL ct) := by
  refine msC (own := RX4) (by decide) rfl rfl (Nat.le_of_ble_eq_true rfl) (fun p e s m args below meth c S hr hlocks hmn X0 hP hD hS ls hl => ?_)
  have hx := S.1
  have hb := S.2.1
  refine lv_aload_n hx hb dX4_init_0 rfl (lv_at hl 0 rfl) ?_
  refine oI S ml_RX4_1 hl.1 ⟨by decide, by decide⟩ dX4_init_1 ?_
  refine lv_aload_n hx hb dX4_init_4 rfl (lv_at hl 0 rfl) ?_
  refine lv_bipush (v := 8) hx hb dX4_init_5 (by decide) ?_
  refine nQ 4 S X0 hP hD hS cl_RX4_9 X0.2.2.2.1.2.1 rfl (by decide) (N' := 8) (by decide) (by decide) ⟨by decide, by decide⟩ dX4_init_7 (fun a H hP hD hS => ?_)
  rw [List.append_assoc] at hP hD
  refine pC 0 0 S X0 hP hD hS hmn tyX4 tyX4_ok nmX4 (ci := 3) rfl inX4 fl_RX4_11 (lw' := [(q, .inr (3, [.ref a, .int 0, .int 0])), (a, .inl (ct 4, 8, .inr (.inr (.inr (.inr (fun _ => none))))))]) rfl rfl (by decide) rfl rfl rfl rfl (Nat.le_of_ble_eq_true rfl) dX4_init_10 (fun H locs hP hD hS => ?_)
  refine lv_iconst (v := 0) hx hb dX4_init_13 (by decide) ?_
  refine lv_istore_n (lv' := [(1, .int 0), (0, .ref q)]) hx hb dX4_init_14 rfl hl (by decide) rfl (fun ls hl => ?_)
  have key : ∀ (d k : Nat) (g : Nat → Nat → Nat), k + d = 8 → ∀ (H : Heap) (locs : List Loc) (ls : Array Slot), va_P D vcl (B ++ ((q, .inr (3, [.ref a, .int 0, .int 0])) :: (a, .inl (ct 4, 8, .inr (.inr (.inr (.inr (fun i => if i < k then some (g i 0) else none)))))) :: HsL ct g k)) H → va_D (fr N0) (B ++ ((q, .inr (3, [.ref a, .int 0, .int 0])) :: (a, .inl (ct 4, 8, .inr (.inr (.inr (.inr (fun i => if i < k then some (g i 0) else none)))))) :: HsL ct g k)) → va_S (fr N0) s.heap H locs → lv_has ls 2 [(1, .int (nI k)), (0, .ref q)] → W p l e (rmd 3 161 968) s m args below meth c H locs (1 + 20 * k) (8 + 120 * k) (MQ below (wCq D N0 B q (HiL ct)) args s 161 968 (fr N0)) (F0 m 15 ls []) := by
    intro d
    induction d with
    | zero =>
      intro k g hk H locs ls hP hD hS hl
      obtain rfl : k = 8 := by omega
      refine lv_iload_n hx hb dX4_init_15 rfl (lv_at hl 0 rfl) ?_
      refine lv_bipush (v := nI 8) hx hb dX4_init_16 (by decide) ?_
      refine lv_icmp_ge (tgt := 40) hx hb dX4_init_18 (by decide) (fun _ => ?_) (fun h => absurd (by decide) h)
      replace hP : va_P D vcl (B ++ HiL ct (hi9 q a g)) H := by rw [← HiL_e]; exact hP
      replace hD : va_D (fr N0) (B ++ HiL ct (hi9 q a g)) := by rw [← HiL_e]; exact hD
      exact eC S hr hlocks hP hD hS rfl ⟨by decide, by decide⟩ dX4_init_40
    | succ d ih =>
      intro k g hk H locs ls hP hD hS hl
      have hk8 : k < 8 := by omega
      refine lv_iload_n hx hb dX4_init_15 rfl (lv_at hl 0 rfl) ?_
      refine lv_bipush (v := nI 8) hx hb dX4_init_16 (by decide) ?_
      refine lv_icmp_ge (tgt := 40) hx hb dX4_init_18 (by decide) (fun h => absurd h (nI_ge hk8 (by decide))) (fun _ => ?_)
      refine lv_aload_n hx hb dX4_init_21 rfl (lv_at hl 1 rfl) ?_
      refine gC 0 0 S X0 hP (ci := 3) rfl inX4 fl_RX4_11 rfl (by decide) rfl rfl dX4_init_22 ?_
      refine lv_iload_n hx hb dX4_init_25 rfl (lv_at hl 0 rfl) ?_
      refine nO (C := RX5) (T := TX5) (ci := 4) (ty := tyX5) (fs := [.null, .null, .int 0, .int 0, .int 0]) S X0 hP hD hS inX5 tyX5_ok cl_RX4_9 ib_RX5 in_RX5 rfl (by decide +kernel) ⟨by show _ ≤ 161; omega, by show _ ≤ 968; omega⟩ dX4_init_26 (fun q1 H hP hD hS => ?_)
      refine lv_dup hx hb dX4_init_29 rfl ?_
      refine iN S X0 (c_X5_init l _ q1) ck_X5 nw_RX4_15 hP hD hS hl.1 ⟨by decide, by decide⟩ (Nat.le_of_ble_eq_true rfl) ⟨by show _ ≤ 161; omega, by show _ ≤ 968; omega⟩ dX4_init_30 (fun f1 H locs hf1 hP hD hS => ?_)
      rw [List.append_assoc] at hP hD
      rw [← hf1]
      obtain ⟨g2, hg2⟩ : ∃ g2 : Nat → Nat → Nat, g2 = fun i => if i = k then f1 else g i := ⟨_, rfl⟩
      have hg3 : ∀ i, i < k → g2 i = g i := fun i hi => by rw [hg2]; exact if_neg (by omega)
      have hg4 : g2 k = f1 := by rw [hg2]; exact if_pos rfl
      have hv : ((q, .inr (3, [.ref a, .int 0, .int 0])) :: (a, .inl (ct 4, 8, .inr (.inr (.inr (.inr (fun i => if i < k then some (g i 0) else none)))))) :: (HsL ct g k ++ HL ct f1))[2 + 20 * k]? = some (f1 0, .inr (4, [.ref (f1 (0 + 1)), .ref (f1 (0 + 15)), .int 0, .int 0, .int 0])) := by
        rw [show 2 + 20 * k = 20 * k + 1 + 1 by omega, List.getElem?_cons_succ, List.getElem?_cons_succ, List.getElem?_append_right (by rw [HsL_len]; omega), HsL_len, Nat.sub_self]
        rfl
      have hw : ((q, .inr (3, [.ref a, .int 0, .int 0])) :: (a, .inl (ct 4, 8, .inr (.inr (.inr (.inr (fun i => if i < k then some (g i 0) else none)))))) :: (HsL ct g k ++ HL ct f1)).set 1 (a, .inl (ct 4, 8, .inr (.inr (.inr (.inr (va_up (fun i => if i < k then some (g i 0) else none) k (some (f1 0)))))))) = (q, .inr (3, [.ref a, .int 0, .int 0])) :: (a, .inl (ct 4, 8, .inr (.inr (.inr (.inr (fun i => if i < k + 1 then some (g2 i 0) else none)))))) :: HsL ct g2 (k + 1) := by
        have e : va_up (fun i => if i < k then some (g i 0) else none) k (some (f1 0)) = (fun i => if i < k + 1 then some (g2 i 0) else none) := by
          funext i
          unfold va_up
          by_cases c1 : i = k
          · rw [if_pos c1, if_pos (by omega), c1, hg4]
          · rw [if_neg c1]
            show (if i < k then some (g i 0) else none) = _
            by_cases c2 : i < k
            · rw [if_pos c2, if_pos (by omega), hg3 i c2]
            · rw [if_neg c2, if_neg (by omega)]
        rw [e, HsL_s hg3 hg4]
        rfl
      refine aC 1 (2 + 20 * k) (jn := k) S X0 (lw := (q, .inr (3, [.ref a, .int 0, .int 0])) :: (a, .inl (ct 4, 8, .inr (.inr (.inr (.inr (fun i => if i < k then some (g i 0) else none)))))) :: (HsL ct g k ++ HL ct f1)) hP hD hS rfl (t0 := 4) rfl hv (r := (RX5, TX5, 5)) rfl rfl hk8 (by decide) hw dX4_init_33 (fun H locs hP hD hS => ?_)
      refine lv_iinc (v := nI (k + 1)) (lv' := [(1, .int (nI (k + 1))), (0, .ref q)]) hx hb dX4_init_34 hl (k := 0) rfl (nI_inc _) (by decide) rfl (fun ls hl => ?_)
      refine lv_goto (tgt := 15) hx hb dX4_init_37 (by decide) ?_
      exact W.widen (by omega) (by omega) (ih (k + 1) g2 (by omega) _ _ _ hP hD hS hl)
  refine key 8 0 (fun _ _ => 0) rfl _ _ _ ?_ ?_ hS hl
  · have e : (fun i : Nat => if i < 0 then some ((fun _ _ => 0 : Nat → Nat → Nat) i 0) else none) = (fun _ => none) := by funext i; exact if_neg (Nat.not_lt_zero _)
    rw [e]; exact hP
  · have e : (fun i : Nat => if i < 0 then some ((fun _ _ => 0 : Nat → Nat → Nat) i 0) else none) = (fun _ => none) := by funext i; exact if_neg (Nat.not_lt_zero _)
    rw [e]; exact hD
theorem ck_X9 : CKI yX9_init cX9_init 2 := ⟨im_yX9_init, in_RX9, co_yX9_init, ⟨by decide +kernel, by decide +kernel, by decide +kernel⟩, by decide, rfl⟩
set_option maxHeartbeats 1000000 in
set_option maxRecDepth 100000 in
theorem c_X9_init (l : Launch) {D : va_G} {ct : Nat → ClassId} {N0 : Nat} {F : State → Prop} {ek : Nat → Nat} (cs : Nat → Nat) (hF : ∀ U, F U → FX ek cs N0 U) (B : va_W) (q : Nat) : MC l yX9_init cX9_init 2 2 33 303 D ct N0 F B q (.inr (7, [.null, .null, .null, .int 0, .int 0, .int 0, .int 0, .int 0])) (TL ct ek) := by
  refine msC (own := RX9) (by decide) rfl rfl (Nat.le_of_ble_eq_true rfl) (fun p e s m args below meth c S hr hlocks hmn X0 hP hD hS ls hl => ?_)
  have hx := S.1
  have hb := S.2.1
  refine lv_aload_n hx hb dX9_init_0 rfl (lv_at hl 0 rfl) ?_
  refine oI S ml_RX9_1 hl.1 ⟨by decide, by decide⟩ dX9_init_1 ?_
  refine lv_aload_n hx hb dX9_init_4 rfl (lv_at hl 0 rfl) ?_
  refine lv_bipush (v := 60) hx hb dX9_init_5 (by decide) ?_
  refine nA 0 S X0 hP hD hS (atype := .char) (ty := .char) (a0 := (60, .inl (fun _ => 0))) (N' := 60) rfl ac_char rfl (fun _ _ h => h) (fun _ => rfl) (by decide) (by decide) (by decide) ⟨by decide, by decide⟩ dX9_init_7 (fun a1 H hP hD hS => ?_)
  rw [List.append_assoc] at hP hD
  refine pC 0 0 S X0 hP hD hS hmn tyX9 tyX9_ok nmX9 (ci := 7) rfl inX9 fl_RX9_9 (lw' := [(q, .inr (7, [.ref a1, .null, .null, .int 0, .int 0, .int 0, .int 0, .int 0])), (a1, .inl (ct 0, 60, .inl (fun _ => 0)))]) rfl rfl (by decide) rfl rfl rfl rfl (Nat.le_of_ble_eq_true rfl) dX9_init_9 (fun H locs hP hD hS => ?_)
  refine lv_aload_n hx hb dX9_init_12 rfl (lv_at hl 0 rfl) ?_
  refine lv_bipush (v := 30) hx hb dX9_init_13 (by decide) ?_
  refine nQ 3 S X0 hP hD hS cl_RX9_13 X0.2.2.2.1.1 rfl (by decide) (N' := 30) (by decide) (by decide) ⟨by decide, by decide⟩ dX9_init_15 (fun a2 H hP hD hS => ?_)
  rw [List.append_assoc] at hP hD
  refine pC 0 1 S X0 hP hD hS hmn tyX9 tyX9_ok nmX9 (ci := 7) rfl inX9 fl_RX9_15 (lw' := [(q, .inr (7, [.ref a1, .ref a2, .null, .int 0, .int 0, .int 0, .int 0, .int 0])), (a1, .inl (ct 0, 60, .inl (fun _ => 0))), (a2, .inl (ct 3, 30, .inr (.inr (.inr (.inr (fun _ => none))))))]) rfl rfl (by decide) rfl rfl rfl rfl (Nat.le_of_ble_eq_true rfl) dX9_init_18 (fun H locs hP hD hS => ?_)
  refine lv_aload_n hx hb dX9_init_21 rfl (lv_at hl 0 rfl) ?_
  refine lv_iconst (v := 3) hx hb dX9_init_22 (by decide) ?_
  refine nA 1 S X0 hP hD hS (atype := .int) (ty := .int) (a0 := (3, .inl (fun _ => 0))) (N' := 3) rfl ac_int rfl (fun _ _ h => h) (fun _ => rfl) (by decide) (by decide) (by decide) ⟨by decide, by decide⟩ dX9_init_23 (fun a3 H hP hD hS => ?_)
  rw [List.append_assoc] at hP hD
  refine pC 0 2 S X0 hP hD hS hmn tyX9 tyX9_ok nmX9 (ci := 7) rfl inX9 fl_RX9_19 (lw' := [(q, .inr (7, [.ref a1, .ref a2, .ref a3, .int 0, .int 0, .int 0, .int 0, .int 0])), (a1, .inl (ct 0, 60, .inl (fun _ => 0))), (a2, .inl (ct 3, 30, .inr (.inr (.inr (.inr (fun _ => none)))))), (a3, .inl (ct 1, 3, .inl (fun _ => 0)))]) rfl rfl (by decide) rfl rfl rfl rfl (Nat.le_of_ble_eq_true rfl) dX9_init_25 (fun H locs hP hD hS => ?_)
  refine lv_iconst (v := 0) hx hb dX9_init_28 (by decide) ?_
  refine lv_istore_n (lv' := [(1, .int 0), (0, .ref q)]) hx hb dX9_init_29 rfl hl (by decide) rfl (fun ls hl => ?_)
  have key : ∀ (d k : Nat) (g : Nat → Nat), k + d = 30 → ∀ (H : Heap) (locs : List Loc) (ls : Array Slot), va_P D vcl (B ++ ((q, .inr (7, [.ref a1, .ref a2, .ref a3, .int 0, .int 0, .int 0, .int 0, .int 0])) :: (a1, .inl (ct 0, 60, .inl zr)) :: (a2, .inl (ct 3, 30, .inr (.inr (.inr (.inr (fun i => if i < k then some (g i) else none)))))) :: (a3, .inl (ct 1, 3, .inl zr)) :: CsL ek g k)) H → va_D (fr N0) (B ++ ((q, .inr (7, [.ref a1, .ref a2, .ref a3, .int 0, .int 0, .int 0, .int 0, .int 0])) :: (a1, .inl (ct 0, 60, .inl zr)) :: (a2, .inl (ct 3, 30, .inr (.inr (.inr (.inr (fun i => if i < k then some (g i) else none)))))) :: (a3, .inl (ct 1, 3, .inl zr)) :: CsL ek g k)) → va_S (fr N0) s.heap H locs → lv_has ls 2 [(1, .int (nI k)), (0, .ref q)] → W p l e (rmd 2 33 303) s m args below meth c H locs (3 + k) (93 + 7 * k) (MQ below (wCq D N0 B q (TL ct ek)) args s 33 303 (fr N0)) (F0 m 30 ls []) := by
    intro d
    induction d with
    | zero =>
      intro k g hk H locs ls hP hD hS hl
      obtain rfl : k = 30 := by omega
      refine lv_iload_n hx hb dX9_init_30 rfl (lv_at hl 0 rfl) ?_
      refine lv_bipush (v := nI 30) hx hb dX9_init_31 (by decide) ?_
      refine lv_icmp_ge (tgt := 55) hx hb dX9_init_33 (by decide) (fun _ => ?_) (fun h => absurd (by decide) h)
      replace hP : va_P D vcl (B ++ TL ct ek (tl9 q a1 a2 a3 g)) H := by rw [← TL_e]; exact hP
      replace hD : va_D (fr N0) (B ++ TL ct ek (tl9 q a1 a2 a3 g)) := by rw [← TL_e]; exact hD
      exact eC S hr hlocks hP hD hS rfl ⟨by decide, by decide⟩ dX9_init_55
    | succ d ih =>
      intro k g hk H locs ls hP hD hS hl
      have hk8 : k < 30 := by omega
      refine lv_iload_n hx hb dX9_init_30 rfl (lv_at hl 0 rfl) ?_
      refine lv_bipush (v := nI 30) hx hb dX9_init_31 (by decide) ?_
      refine lv_icmp_ge (tgt := 55) hx hb dX9_init_33 (by decide) (fun h => absurd h (nI_ge hk8 (by decide))) (fun _ => ?_)
      refine lv_aload_n hx hb dX9_init_36 rfl (lv_at hl 1 rfl) ?_
      refine gC 0 1 S X0 hP (ci := 7) rfl inX9 fl_RX9_15 rfl (by decide) rfl rfl dX9_init_37 ?_
      refine lv_iload_n hx hb dX9_init_40 rfl (lv_at hl 0 rfl) ?_
      refine nO (C := RX3) (T := TX3) (ci := 2) (ty := tyX3) (fs := [.null, .int 0, .int 0, .int 0, .int 0, .int 0, .int 0]) S X0 hP hD hS inX3 tyX3_ok cl_RX9_13 ib_RX3 in_RX3 rfl (by decide +kernel) ⟨by show _ ≤ 33; omega, by show _ ≤ 303; omega⟩ dX9_init_41 (fun q1 H hP hD hS => ?_)
      refine lv_dup hx hb dX9_init_44 rfl ?_
      refine iN S X0 (c_X3_init l cs hF _ q1) ck_X3 nw_RX9_23 hP hD hS hl.1 ⟨by decide, by decide⟩ (Nat.le_of_ble_eq_true rfl) ⟨by show _ ≤ 33; omega, by show _ ≤ 303; omega⟩ dX9_init_45 (fun f1 H locs hf1 hP hD hS => ?_)
      rw [List.append_assoc] at hP hD
      rw [← hf1]
      obtain ⟨g2, hg2⟩ : ∃ g2 : Nat → Nat, g2 = fun i => if i = k then f1 0 else g i := ⟨_, rfl⟩
      have hg3 : ∀ i, i < k → g2 i = g i := fun i hi => by rw [hg2]; exact if_neg (by omega)
      have hg4 : g2 k = f1 0 := by rw [hg2]; exact if_pos rfl
      have hv : ((q, .inr (7, [.ref a1, .ref a2, .ref a3, .int 0, .int 0, .int 0, .int 0, .int 0])) :: (a1, .inl (ct 0, 60, .inl zr)) :: (a2, .inl (ct 3, 30, .inr (.inr (.inr (.inr (fun i => if i < k then some (g i) else none)))))) :: (a3, .inl (ct 1, 3, .inl zr)) :: (CsL ek g k ++ KL ek f1))[4 + k]? = some (f1 0, cel3 ek) := by
        rw [show 4 + k = k + 1 + 1 + 1 + 1 by omega, List.getElem?_cons_succ, List.getElem?_cons_succ, List.getElem?_cons_succ, List.getElem?_cons_succ, List.getElem?_append_right (by rw [CsL_len]; omega), CsL_len, Nat.sub_self]
        rfl
      have hw : ((q, .inr (7, [.ref a1, .ref a2, .ref a3, .int 0, .int 0, .int 0, .int 0, .int 0])) :: (a1, .inl (ct 0, 60, .inl zr)) :: (a2, .inl (ct 3, 30, .inr (.inr (.inr (.inr (fun i => if i < k then some (g i) else none)))))) :: (a3, .inl (ct 1, 3, .inl zr)) :: (CsL ek g k ++ KL ek f1)).set 2 (a2, .inl (ct 3, 30, .inr (.inr (.inr (.inr (va_up (fun i => if i < k then some (g i) else none) k (some (f1 0)))))))) = (q, .inr (7, [.ref a1, .ref a2, .ref a3, .int 0, .int 0, .int 0, .int 0, .int 0])) :: (a1, .inl (ct 0, 60, .inl zr)) :: (a2, .inl (ct 3, 30, .inr (.inr (.inr (.inr (fun i => if i < k + 1 then some (g2 i) else none)))))) :: (a3, .inl (ct 1, 3, .inl zr)) :: CsL ek g2 (k + 1) := by
        have e : va_up (fun i => if i < k then some (g i) else none) k (some (f1 0)) = (fun i => if i < k + 1 then some (g2 i) else none) := by
          funext i
          unfold va_up
          by_cases c1 : i = k
          · rw [if_pos c1, if_pos (by omega), c1, hg4]
          · rw [if_neg c1]
            show (if i < k then some (g i) else none) = _
            by_cases c2 : i < k
            · rw [if_pos c2, if_pos (by omega), hg3 i c2]
            · rw [if_neg c2, if_neg (by omega)]
        rw [e, CsL_s hg3 hg4]
        rfl
      refine aC 2 (4 + k) (jn := k) S X0 (lw := (q, .inr (7, [.ref a1, .ref a2, .ref a3, .int 0, .int 0, .int 0, .int 0, .int 0])) :: (a1, .inl (ct 0, 60, .inl zr)) :: (a2, .inl (ct 3, 30, .inr (.inr (.inr (.inr (fun i => if i < k then some (g i) else none)))))) :: (a3, .inl (ct 1, 3, .inl zr)) :: (CsL ek g k ++ KL ek f1)) hP hD hS rfl (t0 := 3) rfl hv (r := (RX3, TX3, 7)) rfl rfl hk8 (by decide) hw dX9_init_48 (fun H locs hP hD hS => ?_)
      refine lv_iinc (v := nI (k + 1)) (lv' := [(1, .int (nI (k + 1))), (0, .ref q)]) hx hb dX9_init_49 hl (k := 0) rfl (nI_inc _) (by decide) rfl (fun ls hl => ?_)
      refine lv_goto (tgt := 30) hx hb dX9_init_52 (by decide) ?_
      exact W.widen (by omega) (by omega) (ih (k + 1) g2 (by omega) _ _ _ hP hD hS hl)
  refine key 30 0 (fun _ => 0) rfl _ _ _ ?_ ?_ hS hl
  · have e : (fun i : Nat => if i < 0 then some ((fun _ => 0 : Nat → Nat) i) else none) = (fun _ => none) := by funext i; exact if_neg (Nat.not_lt_zero _)
    rw [e]; exact hP
  · have e : (fun i : Nat => if i < 0 then some ((fun _ => 0 : Nat → Nat) i) else none) = (fun _ => none) := by funext i; exact if_neg (Nat.not_lt_zero _)
    rw [e]; exact hD

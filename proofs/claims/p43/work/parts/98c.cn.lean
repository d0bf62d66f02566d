/-! the constructors, part one (laid by wip/p43/spec_init.py) -/
section CNL
variable {ct : Nat → ClassId} {ek : Nat → Nat}
abbrev zr : Nat → Int32 := fun _ => 0
def PL (ct : Nat → ClassId) (f : Nat → Nat) : va_W := (List.range 14).map (fun o => (f o, pCell ct f 0 o zr))
def BL (ct : Nat → ClassId) (f : Nat → Nat) : va_W := (List.range 5).map (fun o => (f o, bCell ct f 0 o zr))
def HL (ct : Nat → ClassId) (f : Nat → Nat) : va_W := (List.range 20).map (fun o => (f o, hCell ct f 0 o zr))
def CL (ct : Nat → ClassId) (f : Nat → Nat) : va_W := [(f 0, .inr (1, [.ref (f 1)])), (f 1, .inl (ct 1, 6, .inl zr))]
def Ln9 (ct : Nat → ClassId) (f : Nat → Nat) : va_W := [(f 0, .inr (5, [.ref (f 1), .int 0])), (f 1, .inl (ct 0, 64, .inl zr))]
def KL (ek : Nat → Nat) (f : Nat → Nat) : va_W := [(f 0, .inr (2, [.ref (ek 3), .int 0, .int 0, .int 0, .int 0, .int 0, .int 0]))]
def ML9 (ct : Nat → ClassId) (f : Nat → Nat) : va_W := [(f 0, .inr (9, [.ref (f 1), .ref (f 2), .ref (f 3), .ref (f 4), .int 0, .ref (f 5), .int 0, .ref (f 6), .ref (f 7), .int 0, .ref (f 8), .int 0, .int 0, .int 0, .ref (f 9), .int (-1), .int 0, .int 0, .int 0, .int 0, .int 0])), (f 1, .inl (ct 1, 96, .inl zr)), (f 2, .inl (ct 1, 96, .inl zr)), (f 3, .inl (ct 1, 96, .inl zr)), (f 4, .inl (ct 1, 768, .inl zr)), (f 5, .inl (ct 1, 96, .inl zr)), (f 6, .inl (ct 1, 6, .inl zr)), (f 7, .inl (ct 0, 120, .inl zr)), (f 8, .inl (ct 0, 60, .inl zr)), (f 9, .inl (ct 1, 3, .inl zr))]
/-- what a cell says of addresses, shifted -/
theorem pCell_sh {f f' : Nat → Nat} {b b' o : Nat} {r : Nat → Int32} (h : ∀ k, k < 14 → f (b + k) = f' (b' + k)) : pCell ct f b o r = pCell ct f' b' o r := by
  unfold pCell
  split
  · rw [h 1 (by omega), h 2 (by omega), h 3 (by omega), h 4 (by omega), h 5 (by omega), h 6 (by omega), h 13 (by omega)]
  · rfl
  · have e : (fun i => if i < 6 then some (f (b + 7 + i)) else none) = (fun i => if i < 6 then some (f' (b' + 7 + i)) else none) := by
      funext i
      by_cases c : i < 6
      · rw [if_pos c, if_pos c, Nat.add_assoc, Nat.add_assoc, h _ (by omega)]
      · rw [if_neg c, if_neg c]
    rw [e]
  · rfl
theorem bCell_sh {f f' : Nat → Nat} {b b' o : Nat} {r : Nat → Int32} (h : ∀ k, k < 5 → f (b + k) = f' (b' + k)) : bCell ct f b o r = bCell ct f' b' o r := by
  unfold bCell
  split
  · rw [h 1 (by omega), h 2 (by omega), h 3 (by omega), h 4 (by omega)]
  · rfl
theorem hCell_sh {f f' : Nat → Nat} {b b' o : Nat} {r : Nat → Int32} (h : ∀ k, k < 20 → f (b + k) = f' (b' + k)) : hCell ct f b o r = hCell ct f' b' o r := by
  unfold hCell
  split
  · rw [h 1 (by omega), h 15 (by omega)]
  · split
    · exact pCell_sh (fun k hk => by rw [Nat.add_assoc, Nat.add_assoc]; exact h _ (by omega))
    · exact bCell_sh (fun k hk => by rw [Nat.add_assoc, Nat.add_assoc]; exact h _ (by omega))
theorem PL_c {f f' : Nat → Nat} (h : ∀ k, k < 14 → f k = f' k) : PL ct f = PL ct f' := by
  unfold PL
  refine List.map_congr_left fun o ho => ?_
  have ho := List.mem_range.mp ho
  rw [h o ho, pCell_sh (f' := f') (b' := 0) (fun k hk => by rw [Nat.zero_add]; exact h k hk)]
theorem HL_c {f f' : Nat → Nat} (h : ∀ k, k < 20 → f k = f' k) : HL ct f = HL ct f' := by
  unfold HL
  refine List.map_congr_left fun o ho => ?_
  have ho := List.mem_range.mp ho
  rw [h o ho, hCell_sh (f' := f') (b' := 0) (fun k hk => by rw [Nat.zero_add]; exact h k hk)]
/-- a range in two -/
theorem rg_add {α : Type} (G : Nat → α) (a : Nat) : ∀ b, (List.range (a + b)).map G = (List.range a).map G ++ (List.range b).map (fun o => G (a + o))
  | 0 => by simp
  | b + 1 => by
    rw [show a + (b + 1) = (a + b) + 1 by omega, List.range_succ, List.map_append, rg_add G a b, List.range_succ, List.map_append, List.append_assoc]
    rfl
def pf9 (q a1 a2 a3 a4 a5 h a13 : Nat) : Nat → Nat := fun o => match o with
  | 0 => q
  | 1 => a1
  | 2 => a2
  | 3 => a3
  | 4 => a4
  | 5 => a5
  | 13 => a13
  | o => h + (o - 6)
theorem PL_e {q a1 a2 a3 a4 a5 h a13 : Nat} : [(q, .inr (6, [.ref a1, .ref a2, .ref a3, .ref a4, .ref a5, .ref h, .ref a13, .int 0])), (a1, .inl (ct 1, 6, .inl (fun _ => 0))), (a2, .inl (ct 1, 6, .inl (fun _ => 0))), (a3, .inl (ct 2, 6, .inl (fun _ => 0))), (a4, .inl (ct 1, 6, .inl (fun _ => 0))), (a5, .inl (ct 1, 6, .inl (fun _ => 0))), (h, .inl (ct 5, 6, .inr (.inr (.inr (.inr (fun i => if i < 6 then some (h + 1 + i) else none)))))), (h + 1 + 0, .inl (ct 1, 6, .inl (fun _ => 0))), (h + 1 + 1, .inl (ct 1, 6, .inl (fun _ => 0))), (h + 1 + 2, .inl (ct 1, 6, .inl (fun _ => 0))), (h + 1 + 3, .inl (ct 1, 6, .inl (fun _ => 0))), (h + 1 + 4, .inl (ct 1, 6, .inl (fun _ => 0))), (h + 1 + 5, .inl (ct 1, 6, .inl (fun _ => 0))), (a13, .inl (ct 1, 6, .inl (fun _ => 0)))] = PL ct (pf9 q a1 a2 a3 a4 a5 h a13) := by
  have e : (fun i => if i < 6 then some (h + 1 + i) else none) = (fun i => if i < 6 then some (pf9 q a1 a2 a3 a4 a5 h a13 (0 + 7 + i)) else none) := by
    funext i
    by_cases c : i < 6
    · rw [if_pos c, if_pos c]
      rcases (show i = 0 ∨ i = 1 ∨ i = 2 ∨ i = 3 ∨ i = 4 ∨ i = 5 by omega) with rfl | rfl | rfl | rfl | rfl | rfl <;> rfl
    · rw [if_neg c, if_neg c]
  rw [e]
  rfl
def lf9 (l : List Nat) : Nat → Nat := fun o => l.getD o 0
theorem BL_e {q a1 a2 a3 a4 : Nat} : [(q, .inr (0, [.ref a1, .ref a2, .ref a3, .ref a4, .int 0])), (a1, .inl (ct 1, 6, .inl (fun _ => 0))), (a2, .inl (ct 1, 6, .inl (fun _ => 0))), (a3, .inl (ct 1, 6, .inl (fun _ => 0))), (a4, .inl (ct 1, 6, .inl (fun _ => 0)))] = BL ct (lf9 [q, a1, a2, a3, a4]) := rfl
/-- a house out of its people and its beams -/
def hf9 (q : Nat) (f1 f2 : Nat → Nat) : Nat → Nat := fun o => if o = 0 then q else if o < 15 then f1 (o - 1) else f2 (o - 15)
theorem HL_e {q : Nat} {f1 f2 : Nat → Nat} : [(q, .inr (4, [.ref (f1 0), .ref (f2 0), .int 0, .int 0, .int 0]))] ++ PL ct f1 ++ BL ct f2 = HL ct (hf9 q f1 f2) := by
  have hs : HL ct (hf9 q f1 f2) = (List.range 1).map (fun o => (hf9 q f1 f2 o, hCell ct (hf9 q f1 f2) 0 o zr)) ++ (List.range 14).map (fun o => (hf9 q f1 f2 (1 + o), hCell ct (hf9 q f1 f2) 0 (1 + o) zr)) ++ (List.range 5).map (fun o => (hf9 q f1 f2 (15 + o), hCell ct (hf9 q f1 f2) 0 (15 + o) zr)) := by
    unfold HL
    rw [show 20 = 15 + 5 from rfl, rg_add _ 15 5, show 15 = 1 + 14 from rfl, rg_add _ 1 14]
  rw [hs]
  have e1 : ∀ o, o < 14 → hf9 q f1 f2 (1 + o) = f1 o := fun o ho => by
    unfold hf9; rw [if_neg (by omega), if_pos (by omega), show 1 + o - 1 = o by omega]
  have e2 : ∀ o, hf9 q f1 f2 (15 + o) = f2 o := fun o => by
    unfold hf9; rw [if_neg (by omega), if_neg (by omega), show 15 + o - 15 = o by omega]
  congr 1
  · congr 1
    unfold PL
    refine List.map_congr_left fun o ho => ?_
    have ho := List.mem_range.mp ho
    rw [e1 o ho]
    unfold hCell
    rw [if_neg (by omega), if_pos (by omega), show 1 + o - 1 = o by omega]
    rw [pCell_sh (f := hf9 q f1 f2) (f' := f1) (b := 0 + 1) (b' := 0) (fun k hk => by rw [Nat.zero_add, Nat.zero_add]; exact e1 k hk)]
end CNL
theorem ck_X8 : CKI yX8_init cX8_init 1 := ⟨im_yX8_init, in_RX8, co_yX8_init, ⟨by decide +kernel, by decide +kernel, by decide +kernel⟩, by decide, rfl⟩
set_option maxHeartbeats 1000000 in
set_option maxRecDepth 100000 in
theorem c_X8_init (l : Launch) {D : va_G} {ct : Nat → ClassId} {N0 : Nat} {F : State → Prop} (B : va_W) (q : Nat) : MC l yX8_init cX8_init 1 1 13 78 D ct N0 F B q (.inr (6, [.null, .null, .null, .null, .null, .null, .null, .int 0])) (PL ct) := by
  refine msC (own := RX8) (by decide) rfl rfl (Nat.le_of_ble_eq_true rfl) (fun p e s m args below meth c S hr hlocks hmn X0 hP hD hS ls hl => ?_)
  have hx := S.1
  have hb := S.2.1
  refine lv_aload_n hx hb dX8_init_0 rfl (lv_at hl 0 rfl) ?_
  refine oI S ml_RX8_1 hl.1 ⟨by decide, by decide⟩ dX8_init_1 ?_
  refine lv_aload_n hx hb dX8_init_4 rfl (lv_at hl 0 rfl) ?_
  refine lv_bipush (v := 6) hx hb dX8_init_5 (by decide) ?_
  refine nA 1 S X0 hP hD hS (atype := .int) (ty := .int) (a0 := (6, .inl (fun _ => 0))) (N' := 6) rfl ac_int rfl (fun _ _ h => h) (fun _ => rfl) (by decide) (by decide) (by decide) ⟨by decide, by decide⟩ dX8_init_7 (fun a1 H hP hD hS => ?_)
  rw [List.append_assoc] at hP hD
  refine pC 0 0 S X0 hP hD hS hmn tyX8 tyX8_ok nmX8 (ci := 6) rfl inX8 fl_RX8_9 (lw' := [(q, .inr (6, [.ref a1, .null, .null, .null, .null, .null, .null, .int 0])), (a1, .inl (ct 1, 6, .inl (fun _ => 0)))]) rfl rfl (by decide) rfl rfl rfl rfl (Nat.le_of_ble_eq_true rfl) dX8_init_9 (fun H locs hP hD hS => ?_)
  refine lv_aload_n hx hb dX8_init_12 rfl (lv_at hl 0 rfl) ?_
  refine lv_bipush (v := 6) hx hb dX8_init_13 (by decide) ?_
  refine nA 1 S X0 hP hD hS (atype := .int) (ty := .int) (a0 := (6, .inl (fun _ => 0))) (N' := 6) rfl ac_int rfl (fun _ _ h => h) (fun _ => rfl) (by decide) (by decide) (by decide) ⟨by decide, by decide⟩ dX8_init_15 (fun a2 H hP hD hS => ?_)
  rw [List.append_assoc] at hP hD
  refine pC 0 1 S X0 hP hD hS hmn tyX8 tyX8_ok nmX8 (ci := 6) rfl inX8 fl_RX8_13 (lw' := [(q, .inr (6, [.ref a1, .ref a2, .null, .null, .null, .null, .null, .int 0])), (a1, .inl (ct 1, 6, .inl (fun _ => 0))), (a2, .inl (ct 1, 6, .inl (fun _ => 0)))]) rfl rfl (by decide) rfl rfl rfl rfl (Nat.le_of_ble_eq_true rfl) dX8_init_17 (fun H locs hP hD hS => ?_)
  refine lv_aload_n hx hb dX8_init_20 rfl (lv_at hl 0 rfl) ?_
  refine lv_bipush (v := 6) hx hb dX8_init_21 (by decide) ?_
  refine nA 2 S X0 hP hD hS (atype := .boolean) (ty := .boolean) (a0 := (6, .inl (fun _ => 0))) (N' := 6) rfl ac_boolean rfl (fun _ _ h => h) (fun _ => rfl) (by decide) (by decide) (by decide) ⟨by decide, by decide⟩ dX8_init_23 (fun a3 H hP hD hS => ?_)
  rw [List.append_assoc] at hP hD
  refine pC 0 2 S X0 hP hD hS hmn tyX8 tyX8_ok nmX8 (ci := 6) rfl inX8 fl_RX8_16 (lw' := [(q, .inr (6, [.ref a1, .ref a2, .ref a3, .null, .null, .null, .null, .int 0])), (a1, .inl (ct 1, 6, .inl (fun _ => 0))), (a2, .inl (ct 1, 6, .inl (fun _ => 0))), (a3, .inl (ct 2, 6, .inl (fun _ => 0)))]) rfl rfl (by decide) rfl rfl rfl rfl (Nat.le_of_ble_eq_true rfl) dX8_init_25 (fun H locs hP hD hS => ?_)
  refine lv_aload_n hx hb dX8_init_28 rfl (lv_at hl 0 rfl) ?_
  refine lv_bipush (v := 6) hx hb dX8_init_29 (by decide) ?_
  refine nA 1 S X0 hP hD hS (atype := .int) (ty := .int) (a0 := (6, .inl (fun _ => 0))) (N' := 6) rfl ac_int rfl (fun _ _ h => h) (fun _ => rfl) (by decide) (by decide) (by decide) ⟨by decide, by decide⟩ dX8_init_31 (fun a4 H hP hD hS => ?_)
  rw [List.append_assoc] at hP hD
  refine pC 0 3 S X0 hP hD hS hmn tyX8 tyX8_ok nmX8 (ci := 6) rfl inX8 fl_RX8_20 (lw' := [(q, .inr (6, [.ref a1, .ref a2, .ref a3, .ref a4, .null, .null, .null, .int 0])), (a1, .inl (ct 1, 6, .inl (fun _ => 0))), (a2, .inl (ct 1, 6, .inl (fun _ => 0))), (a3, .inl (ct 2, 6, .inl (fun _ => 0))), (a4, .inl (ct 1, 6, .inl (fun _ => 0)))]) rfl rfl (by decide) rfl rfl rfl rfl (Nat.le_of_ble_eq_true rfl) dX8_init_33 (fun H locs hP hD hS => ?_)
  refine lv_aload_n hx hb dX8_init_36 rfl (lv_at hl 0 rfl) ?_
  refine lv_bipush (v := 6) hx hb dX8_init_37 (by decide) ?_
  refine nA 1 S X0 hP hD hS (atype := .int) (ty := .int) (a0 := (6, .inl (fun _ => 0))) (N' := 6) rfl ac_int rfl (fun _ _ h => h) (fun _ => rfl) (by decide) (by decide) (by decide) ⟨by decide, by decide⟩ dX8_init_39 (fun a5 H hP hD hS => ?_)
  rw [List.append_assoc] at hP hD
  refine pC 0 4 S X0 hP hD hS hmn tyX8 tyX8_ok nmX8 (ci := 6) rfl inX8 fl_RX8_23 (lw' := [(q, .inr (6, [.ref a1, .ref a2, .ref a3, .ref a4, .ref a5, .null, .null, .int 0])), (a1, .inl (ct 1, 6, .inl (fun _ => 0))), (a2, .inl (ct 1, 6, .inl (fun _ => 0))), (a3, .inl (ct 2, 6, .inl (fun _ => 0))), (a4, .inl (ct 1, 6, .inl (fun _ => 0))), (a5, .inl (ct 1, 6, .inl (fun _ => 0)))]) rfl rfl (by decide) rfl rfl rfl rfl (Nat.le_of_ble_eq_true rfl) dX8_init_41 (fun H locs hP hD hS => ?_)
  refine lv_aload_n hx hb dX8_init_44 rfl (lv_at hl 0 rfl) ?_
  refine lv_bipush (v := 6) hx hb dX8_init_45 (by decide) ?_
  refine lv_bipush (v := 6) hx hb dX8_init_47 (by decide) ?_
  refine nM (N := 6) (M := 6) S X0 hP hD hS cl_RX8_26 (by decide) (by decide) (by decide) (by decide) ⟨by decide, by decide⟩ ⟨by decide, by decide⟩ dX8_init_49 (fun h6 H locs hP hD hS => ?_)
  rw [List.append_assoc] at hP hD
  refine pC 0 5 S X0 hP hD hS hmn tyX8 tyX8_ok nmX8 (ci := 6) rfl inX8 fl_RX8_28 (lw' := [(q, .inr (6, [.ref a1, .ref a2, .ref a3, .ref a4, .ref a5, .ref h6, .null, .int 0])), (a1, .inl (ct 1, 6, .inl (fun _ => 0))), (a2, .inl (ct 1, 6, .inl (fun _ => 0))), (a3, .inl (ct 2, 6, .inl (fun _ => 0))), (a4, .inl (ct 1, 6, .inl (fun _ => 0))), (a5, .inl (ct 1, 6, .inl (fun _ => 0))), (h6, .inl (ct 5, 6, .inr (.inr (.inr (.inr (fun i => if i < 6 then some (h6 + 1 + i) else none)))))), (h6 + 1 + 0, .inl (ct 1, 6, .inl (fun _ => 0))), (h6 + 1 + 1, .inl (ct 1, 6, .inl (fun _ => 0))), (h6 + 1 + 2, .inl (ct 1, 6, .inl (fun _ => 0))), (h6 + 1 + 3, .inl (ct 1, 6, .inl (fun _ => 0))), (h6 + 1 + 4, .inl (ct 1, 6, .inl (fun _ => 0))), (h6 + 1 + 5, .inl (ct 1, 6, .inl (fun _ => 0)))]) rfl rfl (by decide) rfl rfl rfl rfl (Nat.le_of_ble_eq_true rfl) dX8_init_53 (fun H locs hP hD hS => ?_)
  refine lv_aload_n hx hb dX8_init_56 rfl (lv_at hl 0 rfl) ?_
  refine lv_bipush (v := 6) hx hb dX8_init_57 (by decide) ?_
  refine nA 1 S X0 hP hD hS (atype := .int) (ty := .int) (a0 := (6, .inl (fun _ => 0))) (N' := 6) rfl ac_int rfl (fun _ _ h => h) (fun _ => rfl) (by decide) (by decide) (by decide) ⟨by decide, by decide⟩ dX8_init_59 (fun a13 H hP hD hS => ?_)
  rw [List.append_assoc] at hP hD
  refine pC 0 6 S X0 hP hD hS hmn tyX8 tyX8_ok nmX8 (ci := 6) rfl inX8 fl_RX8_31 (lw' := [(q, .inr (6, [.ref a1, .ref a2, .ref a3, .ref a4, .ref a5, .ref h6, .ref a13, .int 0])), (a1, .inl (ct 1, 6, .inl (fun _ => 0))), (a2, .inl (ct 1, 6, .inl (fun _ => 0))), (a3, .inl (ct 2, 6, .inl (fun _ => 0))), (a4, .inl (ct 1, 6, .inl (fun _ => 0))), (a5, .inl (ct 1, 6, .inl (fun _ => 0))), (h6, .inl (ct 5, 6, .inr (.inr (.inr (.inr (fun i => if i < 6 then some (h6 + 1 + i) else none)))))), (h6 + 1 + 0, .inl (ct 1, 6, .inl (fun _ => 0))), (h6 + 1 + 1, .inl (ct 1, 6, .inl (fun _ => 0))), (h6 + 1 + 2, .inl (ct 1, 6, .inl (fun _ => 0))), (h6 + 1 + 3, .inl (ct 1, 6, .inl (fun _ => 0))), (h6 + 1 + 4, .inl (ct 1, 6, .inl (fun _ => 0))), (h6 + 1 + 5, .inl (ct 1, 6, .inl (fun _ => 0))), (a13, .inl (ct 1, 6, .inl (fun _ => 0)))]) rfl rfl (by decide) rfl rfl rfl rfl (Nat.le_of_ble_eq_true rfl) dX8_init_61 (fun H locs hP hD hS => ?_)
  replace hP : va_P D vcl (B ++ PL ct (pf9 q a1 a2 a3 a4 a5 h6 a13)) H := by rw [← PL_e]; exact hP
  replace hD : va_D (fr N0) (B ++ PL ct (pf9 q a1 a2 a3 a4 a5 h6 a13)) := by rw [← PL_e]; exact hD
  exact eC S hr hlocks hP hD hS rfl ⟨by decide, by decide⟩ dX8_init_64
theorem ck_X1 : CKI yX1_init cX1_init 1 := ⟨im_yX1_init, in_RX1, co_yX1_init, ⟨by decide +kernel, by decide +kernel, by decide +kernel⟩, by decide, rfl⟩
set_option maxHeartbeats 1000000 in
set_option maxRecDepth 100000 in
theorem c_X1_init (l : Launch) {D : va_G} {ct : Nat → ClassId} {N0 : Nat} {F : State → Prop} (B : va_W) (q : Nat) : MC l yX1_init cX1_init 1 1 4 24 D ct N0 F B q (.inr (0, [.null, .null, .null, .null, .int 0])) (BL ct) := by
  refine msC (own := RX1) (by decide) rfl rfl (Nat.le_of_ble_eq_true rfl) (fun p e s m args below meth c S hr hlocks hmn X0 hP hD hS ls hl => ?_)
  have hx := S.1
  have hb := S.2.1
  refine lv_aload_n hx hb dX1_init_0 rfl (lv_at hl 0 rfl) ?_
  refine oI S ml_RX1_1 hl.1 ⟨by decide, by decide⟩ dX1_init_1 ?_
  refine lv_aload_n hx hb dX1_init_4 rfl (lv_at hl 0 rfl) ?_
  refine lv_bipush (v := 6) hx hb dX1_init_5 (by decide) ?_
  refine nA 1 S X0 hP hD hS (atype := .int) (ty := .int) (a0 := (6, .inl (fun _ => 0))) (N' := 6) rfl ac_int rfl (fun _ _ h => h) (fun _ => rfl) (by decide) (by decide) (by decide) ⟨by decide, by decide⟩ dX1_init_7 (fun a1 H hP hD hS => ?_)
  rw [List.append_assoc] at hP hD
  refine pC 0 0 S X0 hP hD hS hmn tyX1 tyX1_ok nmX1 (ci := 0) rfl inX1 fl_RX1_9 (lw' := [(q, .inr (0, [.ref a1, .null, .null, .null, .int 0])), (a1, .inl (ct 1, 6, .inl (fun _ => 0)))]) rfl rfl (by decide) rfl rfl rfl rfl (Nat.le_of_ble_eq_true rfl) dX1_init_9 (fun H locs hP hD hS => ?_)
  refine lv_aload_n hx hb dX1_init_12 rfl (lv_at hl 0 rfl) ?_
  refine lv_bipush (v := 6) hx hb dX1_init_13 (by decide) ?_
  refine nA 1 S X0 hP hD hS (atype := .int) (ty := .int) (a0 := (6, .inl (fun _ => 0))) (N' := 6) rfl ac_int rfl (fun _ _ h => h) (fun _ => rfl) (by decide) (by decide) (by decide) ⟨by decide, by decide⟩ dX1_init_15 (fun a2 H hP hD hS => ?_)
  rw [List.append_assoc] at hP hD
  refine pC 0 1 S X0 hP hD hS hmn tyX1 tyX1_ok nmX1 (ci := 0) rfl inX1 fl_RX1_13 (lw' := [(q, .inr (0, [.ref a1, .ref a2, .null, .null, .int 0])), (a1, .inl (ct 1, 6, .inl (fun _ => 0))), (a2, .inl (ct 1, 6, .inl (fun _ => 0)))]) rfl rfl (by decide) rfl rfl rfl rfl (Nat.le_of_ble_eq_true rfl) dX1_init_17 (fun H locs hP hD hS => ?_)
  refine lv_aload_n hx hb dX1_init_20 rfl (lv_at hl 0 rfl) ?_
  refine lv_bipush (v := 6) hx hb dX1_init_21 (by decide) ?_
  refine nA 1 S X0 hP hD hS (atype := .int) (ty := .int) (a0 := (6, .inl (fun _ => 0))) (N' := 6) rfl ac_int rfl (fun _ _ h => h) (fun _ => rfl) (by decide) (by decide) (by decide) ⟨by decide, by decide⟩ dX1_init_23 (fun a3 H hP hD hS => ?_)
  rw [List.append_assoc] at hP hD
  refine pC 0 2 S X0 hP hD hS hmn tyX1 tyX1_ok nmX1 (ci := 0) rfl inX1 fl_RX1_16 (lw' := [(q, .inr (0, [.ref a1, .ref a2, .ref a3, .null, .int 0])), (a1, .inl (ct 1, 6, .inl (fun _ => 0))), (a2, .inl (ct 1, 6, .inl (fun _ => 0))), (a3, .inl (ct 1, 6, .inl (fun _ => 0)))]) rfl rfl (by decide) rfl rfl rfl rfl (Nat.le_of_ble_eq_true rfl) dX1_init_25 (fun H locs hP hD hS => ?_)
  refine lv_aload_n hx hb dX1_init_28 rfl (lv_at hl 0 rfl) ?_
  refine lv_bipush (v := 6) hx hb dX1_init_29 (by decide) ?_
  refine nA 1 S X0 hP hD hS (atype := .int) (ty := .int) (a0 := (6, .inl (fun _ => 0))) (N' := 6) rfl ac_int rfl (fun _ _ h => h) (fun _ => rfl) (by decide) (by decide) (by decide) ⟨by decide, by decide⟩ dX1_init_31 (fun a4 H hP hD hS => ?_)
  rw [List.append_assoc] at hP hD
  refine pC 0 3 S X0 hP hD hS hmn tyX1 tyX1_ok nmX1 (ci := 0) rfl inX1 fl_RX1_19 (lw' := [(q, .inr (0, [.ref a1, .ref a2, .ref a3, .ref a4, .int 0])), (a1, .inl (ct 1, 6, .inl (fun _ => 0))), (a2, .inl (ct 1, 6, .inl (fun _ => 0))), (a3, .inl (ct 1, 6, .inl (fun _ => 0))), (a4, .inl (ct 1, 6, .inl (fun _ => 0)))]) rfl rfl (by decide) rfl rfl rfl rfl (Nat.le_of_ble_eq_true rfl) dX1_init_33 (fun H locs hP hD hS => ?_)
  replace hP : va_P D vcl (B ++ BL ct (lf9 [q, a1, a2, a3, a4])) H := by rw [← BL_e]; exact hP
  replace hD : va_D (fr N0) (B ++ BL ct (lf9 [q, a1, a2, a3, a4])) := by rw [← BL_e]; exact hD
  exact eC S hr hlocks hP hD hS rfl ⟨by decide, by decide⟩ dX1_init_36
theorem ck_X2 : CKI yX2_init cX2_init 1 := ⟨im_yX2_init, in_RX2, co_yX2_init, ⟨by decide +kernel, by decide +kernel, by decide +kernel⟩, by decide, rfl⟩
set_option maxHeartbeats 1000000 in
set_option maxRecDepth 100000 in
theorem c_X2_init (l : Launch) {D : va_G} {ct : Nat → ClassId} {N0 : Nat} {F : State → Prop} (B : va_W) (q : Nat) : MC l yX2_init cX2_init 1 1 1 6 D ct N0 F B q (.inr (1, [.null])) (CL ct) := by
  refine msC (own := RX2) (by decide) rfl rfl (Nat.le_of_ble_eq_true rfl) (fun p e s m args below meth c S hr hlocks hmn X0 hP hD hS ls hl => ?_)
  have hx := S.1
  have hb := S.2.1
  refine lv_aload_n hx hb dX2_init_0 rfl (lv_at hl 0 rfl) ?_
  refine oI S ml_RX2_1 hl.1 ⟨by decide, by decide⟩ dX2_init_1 ?_
  refine lv_aload_n hx hb dX2_init_4 rfl (lv_at hl 0 rfl) ?_
  refine lv_bipush (v := 6) hx hb dX2_init_5 (by decide) ?_
  refine nA 1 S X0 hP hD hS (atype := .int) (ty := .int) (a0 := (6, .inl (fun _ => 0))) (N' := 6) rfl ac_int rfl (fun _ _ h => h) (fun _ => rfl) (by decide) (by decide) (by decide) ⟨by decide, by decide⟩ dX2_init_7 (fun a1 H hP hD hS => ?_)
  rw [List.append_assoc] at hP hD
  refine pC 0 0 S X0 hP hD hS hmn tyX2 tyX2_ok nmX2 (ci := 1) rfl inX2 fl_RX2_9 (lw' := [(q, .inr (1, [.ref a1])), (a1, .inl (ct 1, 6, .inl (fun _ => 0)))]) rfl rfl (by decide) rfl rfl rfl rfl (Nat.le_of_ble_eq_true rfl) dX2_init_9 (fun H locs hP hD hS => ?_)
  exact eC (L := CL ct) (f := lf9 [q, a1]) S hr hlocks hP hD hS rfl ⟨by decide, by decide⟩ dX2_init_12
theorem ck_X7 : CKI yX7_init cX7_init 1 := ⟨im_yX7_init, in_RX7, co_yX7_init, ⟨by decide +kernel, by decide +kernel, by decide +kernel⟩, by decide, rfl⟩
set_option maxHeartbeats 1000000 in
set_option maxRecDepth 100000 in
theorem c_X7_init (l : Launch) {D : va_G} {ct : Nat → ClassId} {N0 : Nat} {F : State → Prop} (B : va_W) (q : Nat) : MC l yX7_init cX7_init 1 1 1 64 D ct N0 F B q (.inr (5, [.null, .int 0])) (Ln9 ct) := by
  refine msC (own := RX7) (by decide) rfl rfl (Nat.le_of_ble_eq_true rfl) (fun p e s m args below meth c S hr hlocks hmn X0 hP hD hS ls hl => ?_)
  have hx := S.1
  have hb := S.2.1
  refine lv_aload_n hx hb dX7_init_0 rfl (lv_at hl 0 rfl) ?_
  refine oI S ml_RX7_1 hl.1 ⟨by decide, by decide⟩ dX7_init_1 ?_
  refine lv_aload_n hx hb dX7_init_4 rfl (lv_at hl 0 rfl) ?_
  refine lv_bipush (v := 64) hx hb dX7_init_5 (by decide) ?_
  refine nA 0 S X0 hP hD hS (atype := .char) (ty := .char) (a0 := (64, .inl (fun _ => 0))) (N' := 64) rfl ac_char rfl (fun _ _ h => h) (fun _ => rfl) (by decide) (by decide) (by decide) ⟨by decide, by decide⟩ dX7_init_7 (fun a1 H hP hD hS => ?_)
  rw [List.append_assoc] at hP hD
  refine pC 0 0 S X0 hP hD hS hmn tyX7 tyX7_ok nmX7 (ci := 5) rfl inX7 fl_RX7_9 (lw' := [(q, .inr (5, [.ref a1, .int 0])), (a1, .inl (ct 0, 64, .inl (fun _ => 0)))]) rfl rfl (by decide) rfl rfl rfl rfl (Nat.le_of_ble_eq_true rfl) dX7_init_9 (fun H locs hP hD hS => ?_)
  exact eC (L := Ln9 ct) (f := lf9 [q, a1]) S hr hlocks hP hD hS rfl ⟨by decide, by decide⟩ dX7_init_12
theorem ck_X3 : CKI yX3_init cX3_init 1 := ⟨im_yX3_init, in_RX3, co_yX3_init, ⟨by decide +kernel, by decide +kernel, by decide +kernel⟩, by decide, rfl⟩
set_option maxHeartbeats 1000000 in
set_option maxRecDepth 100000 in
theorem c_X3_init (l : Launch) {D : va_G} {ct : Nat → ClassId} {N0 : Nat} {F : State → Prop} {ek : Nat → Nat} (cs : Nat → Nat) (hF : ∀ U, F U → FX ek cs N0 U) (B : va_W) (q : Nat) : MC l yX3_init cX3_init 1 1 0 0 D ct N0 F B q (.inr (2, [.null, .int 0, .int 0, .int 0, .int 0, .int 0, .int 0])) (KL ek) := by
  refine msC (own := RX3) (by decide) rfl rfl (Nat.le_of_ble_eq_true rfl) (fun p e s m args below meth c S hr hlocks hmn X0 hP hD hS ls hl => ?_)
  have hx := S.1
  have hb := S.2.1
  refine lv_aload_n hx hb dX3_init_0 rfl (lv_at hl 0 rfl) ?_
  refine oI S ml_RX3_1 hl.1 ⟨by decide, by decide⟩ dX3_init_1 ?_
  have FC := hF s X0.2.2.2.2.2
  refine lv_aload_n hx hb dX3_init_4 rfl (lv_at hl 0 rfl) ?_
  refine va_gets (A := fr N0) hx hb (FC.kn (j := 3) (by decide)) hS S.2.2.2.1 (S.2.2.2.2 _ fl_RX3_7) (fun _ h => h) dX3_init_5 ?_
  refine pC 0 0 S X0 hP hD hS hmn tyX3 tyX3_ok nmX3 (ci := 2) rfl inX3 fl_RX3_13 (lw' := [(q, .inr (2, [.ref (ek 3), .int 0, .int 0, .int 0, .int 0, .int 0, .int 0]))]) rfl rfl (by decide) rfl rfl rfl rfl (Nat.le_of_ble_eq_true rfl) dX3_init_8 (fun H locs hP hD hS => ?_)
  exact eC (L := KL ek) (f := fun _ => q) S hr hlocks hP hD hS rfl ⟨by decide, by decide⟩ dX3_init_11
theorem ck_X5 : CKI yX5_init cX5_init 1 := ⟨im_yX5_init, in_RX5, co_yX5_init, ⟨by decide +kernel, by decide +kernel, by decide +kernel⟩, by decide, rfl⟩
set_option maxHeartbeats 1000000 in
set_option maxRecDepth 100000 in
theorem c_X5_init (l : Launch) {D : va_G} {ct : Nat → ClassId} {N0 : Nat} {F : State → Prop} (B : va_W) (q : Nat) : MC l yX5_init cX5_init 1 2 19 115 D ct N0 F B q (.inr (4, [.null, .null, .int 0, .int 0, .int 0])) (HL ct) := by
  refine msC (own := RX5) (by decide) rfl rfl (Nat.le_of_ble_eq_true rfl) (fun p e s m args below meth c S hr hlocks hmn X0 hP hD hS ls hl => ?_)
  have hx := S.1
  have hb := S.2.1
  refine lv_aload_n hx hb dX5_init_0 rfl (lv_at hl 0 rfl) ?_
  refine oI S ml_RX5_1 hl.1 ⟨by decide, by decide⟩ dX5_init_1 ?_
  refine lv_aload_n hx hb dX5_init_4 rfl (lv_at hl 0 rfl) ?_
  refine nO (C := RX8) (T := TX8) (ci := 6) (ty := tyX8) (fs := [.null, .null, .null, .null, .null, .null, .null, .int 0]) S X0 hP hD hS inX8 tyX8_ok cl_RX5_7 ib_RX8 in_RX8 rfl (by decide +kernel) ⟨by decide, by decide⟩ dX5_init_5 (fun q1 H hP hD hS => ?_)
  refine lv_dup hx hb dX5_init_8 rfl ?_
  refine iN S X0 (c_X8_init l _ q1) ck_X8 nw_RX5_9 hP hD hS hl.1 ⟨by decide, by decide⟩ (Nat.le_of_ble_eq_true rfl) ⟨by decide, by decide⟩ dX5_init_9 (fun f1 H locs hf1 hP hD hS => ?_)
  rw [List.append_assoc] at hP hD
  refine pC 0 0 S X0 hP hD hS hmn tyX5 tyX5_ok nmX5 (ci := 4) rfl inX5 fl_RX5_10 (lw' := [(q, .inr (4, [.ref q1, .null, .int 0, .int 0, .int 0]))] ++ PL ct f1) rfl rfl (by decide) rfl rfl rfl rfl (Nat.le_of_ble_eq_true rfl) dX5_init_12 (fun H locs hP hD hS => ?_)
  refine lv_aload_n hx hb dX5_init_15 rfl (lv_at hl 0 rfl) ?_
  refine nO (C := RX1) (T := TX1) (ci := 0) (ty := tyX1) (fs := [.null, .null, .null, .null, .int 0]) S X0 hP hD hS inX1 tyX1_ok cl_RX5_16 ib_RX1 in_RX1 rfl (by decide +kernel) ⟨by decide, by decide⟩ dX5_init_16 (fun q2 H hP hD hS => ?_)
  refine lv_dup hx hb dX5_init_19 rfl ?_
  refine iN S X0 (c_X1_init l _ q2) ck_X1 nw_RX5_18 hP hD hS hl.1 ⟨by decide, by decide⟩ (Nat.le_of_ble_eq_true rfl) ⟨by decide, by decide⟩ dX5_init_20 (fun f2 H locs hf2 hP hD hS => ?_)
  rw [List.append_assoc] at hP hD
  refine pC 0 1 S X0 hP hD hS hmn tyX5 tyX5_ok nmX5 (ci := 4) rfl inX5 fl_RX5_19 (lw' := [(q, .inr (4, [.ref q1, .ref q2, .int 0, .int 0, .int 0]))] ++ PL ct f1 ++ BL ct f2) rfl rfl (by decide) rfl rfl rfl rfl (Nat.le_of_ble_eq_true rfl) dX5_init_23 (fun H locs hP hD hS => ?_)
  subst hf1 hf2
  replace hP : va_P D vcl (B ++ HL ct (hf9 q f1 f2)) H := by rw [← HL_e]; exact hP
  replace hD : va_D (fr N0) (B ++ HL ct (hf9 q f1 f2)) := by rw [← HL_e]; exact hD
  exact eC S hr hlocks hP hD hS rfl ⟨by decide, by decide⟩ dX5_init_26

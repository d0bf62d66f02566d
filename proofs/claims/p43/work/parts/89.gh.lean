/-! the law's helpers, with the class's contracts put in (laid by wip/p43/spec_gh.py) -/
theorem g_person (l : Launch) {D : va_G} {ct : Nat → ClassId} {ek ad : Nat → Nat} {N0 : Nat} {X : va_W} {F : State → Prop} (cs : Nat → Nat) (hF : ∀ U, F U → FX ek cs N0 U) (hY : ∀ U, F U → FY U) (hlt : l.stackTraces = false) (μ : Mem) (x y : Int32) :
    MG l yL_person (.codeWith yL_person cL_person 4 (some .int) [(0, 6, 7, 13)]) 9 2 D ct ek ad N0 X F [.ref (ad 0), .int x, .int y] μ (gQi D ct ek ad N0 X (fun r ν => r = (chG μ (if y = 0 then 0 else 1) x 0 0).1 ∧ ν = (chG μ (if y = 0 then 0 else 1) x 0 0).2)) :=
  h_person l hY μ x y (post := fun σ r τ => CcR τ (askM σ 273 (if y = 0 then 0 else 1) x 0 0) (gn μ) (gm μ) (if y = 0 then 0 else 1) (tN (σ 77 1)) (gu μ) r) (PX := fun σ E τ => E = "java/lang/UnsupportedOperationException" ∧ CcX τ (askM σ 273 (if y = 0 then 0 else 1) x 0 0) (gn μ) (gm μ) (if y = 0 then 0 else 1)) (fun σ C => c_X10_person l σ x y _ _ C.go _ C.gj.1 C.gj.2.1 _ C.gj.2.2.1 C.gj.2.2.2.1 cs hF hY hlt)
    (fun σ r τ C h => ch_q C (by split <;> decide) h)
    (fun σ E τ C h => ch_e C (by split <;> decide) h)
theorem g_friends (l : Launch) {D : va_G} {ct : Nat → ClassId} {ek ad : Nat → Nat} {N0 : Nat} {X : va_W} {F : State → Prop} (cs : Nat → Nat) (hF : ∀ U, F U → FX ek cs N0 U) (hY : ∀ U, F U → FY U) (hlt : l.stackTraces = false) (μ : Mem) (x y z : Int32) :
    MG l yL_friends (.codeWith yL_friends cL_friends 5 (some .int) [(0, 7, 8, 13)]) 9 2 D ct ek ad N0 X F [.ref (ad 0), .int x, .int y, .int z] μ (gQi D ct ek ad N0 X (fun r ν => r = (chG μ 2 x y z).1 ∧ ν = (chG μ 2 x y z).2)) :=
  h_friends l hY μ x y z (post := fun σ r τ => CcR τ (askM σ 273 2 x y z) (gn μ) (gm μ) 2 (tN (σ 77 1)) (gu μ) r) (PX := fun σ E τ => E = "java/lang/UnsupportedOperationException" ∧ CcX τ (askM σ 273 2 x y z) (gn μ) (gm μ) 2) (fun σ C => c_X10_friends l σ x y z _ _ C.go _ C.gj.1 C.gj.2.1 _ C.gj.2.2.1 C.gj.2.2.2.1 cs hF hY hlt)
    (fun σ r τ C h => ch_q C (by decide) h)
    (fun σ E τ C h => ch_e C (by decide) h)
theorem g_round (l : Launch) {D : va_G} {ct : Nat → ClassId} {ek ad : Nat → Nat} {N0 : Nat} {X : va_W} {F : State → Prop} (cs : Nat → Nat) (hF : ∀ U, F U → FX ek cs N0 U) (hY : ∀ U, F U → FY U) (hlt : l.stackTraces = false) (μ : Mem) :
    MG l yL_round (.codeWith yL_round cL_round 2 (some .int) [(0, 4, 5, 13)]) 9 2 D ct ek ad N0 X F [.ref (ad 0)] μ (gQi D ct ek ad N0 X (fun r ν => r = (chG μ 3 0 0 0).1 ∧ ν = (chG μ 3 0 0 0).2)) :=
  h_round l hY μ (post := fun σ r τ => CcR τ (askM σ 273 3 0 0 0) (gn μ) (gm μ) 3 (tN (σ 77 1)) (gu μ) r) (PX := fun σ E τ => E = "java/lang/UnsupportedOperationException" ∧ CcX τ (askM σ 273 3 0 0 0) (gn μ) (gm μ) 3) (fun σ C => c_X10_round l σ _ _ C.go _ C.gj.1 C.gj.2.1 _ C.gj.2.2.1 C.gj.2.2.2.1 cs hF hY hlt)
    (fun σ r τ C h => ch_q C (by decide) h)
    (fun σ E τ C h => ch_e C (by decide) h)
theorem g_fact (l : Launch) {D : va_G} {ct : Nat → ClassId} {ek ad : Nat → Nat} {N0 : Nat} {X : va_W} {F : State → Prop} (cs : Nat → Nat) (hF : ∀ U, F U → FX ek cs N0 U) (hY : ∀ U, F U → FY U) (hlt : l.stackTraces = false) (μ : Mem) (x y : Int32) :
    MG l yL_fact (.codeWith yL_fact cL_fact 4 (some .int) [(0, 6, 7, 13)]) 9 2 D ct ek ad N0 X F [.ref (ad 0), .int x, .int y] μ (gQi D ct ek ad N0 X (fun r ν => r = (chG μ 4 x y 0).1 ∧ ν = (chG μ 4 x y 0).2)) :=
  h_fact l hY μ x y (post := fun σ r τ => CcR τ (askM σ 273 4 x y 0) (gn μ) (gm μ) 4 (tN (σ 77 1)) (gu μ) r) (PX := fun σ E τ => E = "java/lang/UnsupportedOperationException" ∧ CcX τ (askM σ 273 4 x y 0) (gn μ) (gm μ) 4) (fun σ C => c_X10_fact l σ x y _ _ C.go _ C.gj.1 C.gj.2.1 _ C.gj.2.2.1 C.gj.2.2.2.1 cs hF hY hlt)
    (fun σ r τ C h => ch_q C (by decide) h)
    (fun σ E τ C h => ch_e C (by decide) h)
theorem g_beam (l : Launch) {D : va_G} {ct : Nat → ClassId} {ek ad : Nat → Nat} {N0 : Nat} {X : va_W} {F : State → Prop} (cs : Nat → Nat) (hF : ∀ U, F U → FX ek cs N0 U) (hY : ∀ U, F U → FY U) (hlt : l.stackTraces = false) (μ : Mem) (x y z : Int32) :
    MG l yL_beam (.codeWith yL_beam cL_beam 5 (some .int) [(0, 7, 8, 13)]) 9 2 D ct ek ad N0 X F [.ref (ad 0), .int x, .int y, .int z] μ (gQi D ct ek ad N0 X (fun r ν => r = (chG μ 5 x y z).1 ∧ ν = (chG μ 5 x y z).2)) :=
  h_beam l hY μ x y z (post := fun σ r τ => CcR τ (askM σ 273 5 x y z) (gn μ) (gm μ) 5 (tN (σ 77 1)) (gu μ) r) (PX := fun σ E τ => E = "java/lang/UnsupportedOperationException" ∧ CcX τ (askM σ 273 5 x y z) (gn μ) (gm μ) 5) (fun σ C => c_X10_beam l σ x y z _ _ C.go _ C.gj.1 C.gj.2.1 _ C.gj.2.2.1 C.gj.2.2.2.1 cs hF hY hlt)
    (fun σ r τ C h => ch_q C (by decide) h)
    (fun σ E τ C h => ch_e C (by decide) h)
theorem g_remove (l : Launch) {D : va_G} {ct : Nat → ClassId} {ek ad : Nat → Nat} {N0 : Nat} {X : va_W} {F : State → Prop} (cs : Nat → Nat) (hF : ∀ U, F U → FX ek cs N0 U) (hY : ∀ U, F U → FY U) (hlt : l.stackTraces = false) (μ : Mem) (x : Int32) :
    MG l yL_remove (.codeWith yL_remove cL_remove 3 (some .int) [(0, 5, 6, 13)]) 9 2 D ct ek ad N0 X F [.ref (ad 0), .int x] μ (gQi D ct ek ad N0 X (fun r ν => r = (chG μ 6 x 0 0).1 ∧ ν = (chG μ 6 x 0 0).2)) :=
  h_remove l hY μ x (post := fun σ r τ => CcR τ (askM σ 273 6 x 0 0) (gn μ) (gm μ) 6 (tN (σ 77 1)) (gu μ) r) (PX := fun σ E τ => E = "java/lang/UnsupportedOperationException" ∧ CcX τ (askM σ 273 6 x 0 0) (gn μ) (gm μ) 6) (fun σ C => c_X10_remove l σ x _ _ C.go _ C.gj.1 C.gj.2.1 _ C.gj.2.2.1 C.gj.2.2.2.1 cs hF hY hlt)
    (fun σ r τ C h => ch_q C (by decide) h)
    (fun σ E τ C h => ch_e C (by decide) h)
theorem g_habit (l : Launch) {D : va_G} {ct : Nat → ClassId} {ek ad : Nat → Nat} {N0 : Nat} {X : va_W} {F : State → Prop} (cs : Nat → Nat) (hF : ∀ U, F U → FX ek cs N0 U) (hY : ∀ U, F U → FY U) (hlt : l.stackTraces = false) (μ : Mem) (x y : Int32) :
    MG l yL_habit (.codeWith yL_habit cL_habit 4 (some .int) [(0, 6, 7, 13)]) 9 2 D ct ek ad N0 X F [.ref (ad 0), .int x, .int y] μ (gQi D ct ek ad N0 X (fun r ν => r = (chG μ 7 x y 0).1 ∧ ν = (chG μ 7 x y 0).2)) :=
  h_habit l hY μ x y (post := fun σ r τ => CcR τ (askM σ 273 7 x y 0) (gn μ) (gm μ) 7 (tN (σ 77 1)) (gu μ) r) (PX := fun σ E τ => E = "java/lang/UnsupportedOperationException" ∧ CcX τ (askM σ 273 7 x y 0) (gn μ) (gm μ) 7) (fun σ C => c_X10_habit l σ x y _ _ C.go _ C.gj.1 C.gj.2.1 _ C.gj.2.2.1 C.gj.2.2.2.1 cs hF hY hlt)
    (fun σ r τ C h => ch_q C (by decide) h)
    (fun σ E τ C h => ch_e C (by decide) h)
theorem g_of (l : Launch) {D : va_G} {ct : Nat → ClassId} {ek ad : Nat → Nat} {N0 : Nat} {X : va_W} {F : State → Prop} (cs : Nat → Nat) (hF : ∀ U, F U → FX ek cs N0 U) (hY : ∀ U, F U → FY U) (hlt : l.stackTraces = false) (μ : Mem) (x y : Int32) :
    MG l yL_of (.codeWith yL_of cL_of 4 (some .int) [(0, 6, 7, 40), (0, 6, 12, 42)]) 8 2 D ct ek ad N0 X F [.ref (ad 0), .int x, .int y] μ (gQi D ct ek ad N0 X (fun r ν => r = hA (pofT μ x y) (pofV μ (gn μ) x y) ∧ ν = μ)) :=
  h_of l hY μ x y (post := fun σ r τ => τ = σ ∧ pofXT σ x y = 0 ∧ r = pofX σ (gn μ) x y) (PX := fun σ E τ => PXd ["java/lang/IndexOutOfBoundsException", "java/lang/IllegalArgumentException"] (pofXT σ x y) (fun τ => τ = σ) E τ) (fun σ C => c_X10_personOf l σ x y _ _ C.go cs hF hY hlt)
    (fun σ r τ C h => qQ (P := fun τ => τ = σ) (fun z => eqC C z) (q_pof C.gw C.gh).1 (q_pof C.gw C.gh).2 h)
    (fun σ E τ C h => qE (P := fun τ => τ = σ) (by decide) (fun z => eqC C z) (q_pof C.gw C.gh).1 h)
theorem g_weight (l : Launch) {D : va_G} {ct : Nat → ClassId} {ek ad : Nat → Nat} {N0 : Nat} {X : va_W} {F : State → Prop} (cs : Nat → Nat) (hF : ∀ U, F U → FX ek cs N0 U) (hY : ∀ U, F U → FY U) (hlt : l.stackTraces = false) (μ : Mem) (x y : Int32) :
    MG l yL_weight (.codeWith yL_weight cL_weight 4 (some .int) [(0, 6, 7, 40)]) 8 2 D ct ek ad N0 X F [.ref (ad 0), .int x, .int y] μ (gQi D ct ek ad N0 X (fun r ν => r = hA (wgT μ x y) (wgV μ x y) ∧ ν = μ)) :=
  h_weight l hY μ x y (post := fun σ r τ => τ = σ ∧ wgtXT σ x y = 0 ∧ r = σ (1 + 1 + 7 + tN x) (tN y)) (PX := fun σ E τ => PXd ["java/lang/IndexOutOfBoundsException"] (wgtXT σ x y) (fun τ => τ = σ) E τ) (fun σ C => c_X10_weight l σ x y _ _ C.go cs hF hY hlt)
    (fun σ r τ C h => qQ (P := fun τ => τ = σ) (fun z => eqC C z) (q_wgt C.gw C.gh).1 (q_wgt C.gw C.gh).2 h)
    (fun σ E τ C h => qE (P := fun τ => τ = σ) (by decide) (fun z => eqC C z) (q_wgt C.gw C.gh).1 h)
theorem g_beamOf (l : Launch) {D : va_G} {ct : Nat → ClassId} {ek ad : Nat → Nat} {N0 : Nat} {X : va_W} {F : State → Prop} (cs : Nat → Nat) (hF : ∀ U, F U → FX ek cs N0 U) (hY : ∀ U, F U → FY U) (hlt : l.stackTraces = false) (μ : Mem) (x y : Int32) :
    MG l yL_beamOf (.codeWith yL_beamOf cL_beamOf 4 (some .int) [(0, 6, 7, 40), (0, 6, 12, 42)]) 8 2 D ct ek ad N0 X F [.ref (ad 0), .int x, .int y] μ (gQi D ct ek ad N0 X (fun r ν => r = hA (bofT μ x y) (bofV μ x y) ∧ ν = μ)) :=
  h_beamOf l hY μ x y (post := fun σ r τ => τ = σ ∧ bofXT σ x y = 0 ∧ r = bofX σ x y) (PX := fun σ E τ => PXd ["java/lang/IndexOutOfBoundsException", "java/lang/IllegalArgumentException"] (bofXT σ x y) (fun τ => τ = σ) E τ) (fun σ C => c_X10_beamOf l σ x y _ _ C.go cs hF hY hlt)
    (fun σ r τ C h => qQ (P := fun τ => τ = σ) (fun z => eqC C z) (q_bof C.gw C.gh).1 (q_bof C.gw C.gh).2 h)
    (fun σ E τ C h => qE (P := fun τ => τ = σ) (by decide) (fun z => eqC C z) (q_bof C.gw C.gh).1 h)
theorem g_lean (l : Launch) {D : va_G} {ct : Nat → ClassId} {ek ad : Nat → Nat} {N0 : Nat} {X : va_W} {F : State → Prop} (cs : Nat → Nat) (hF : ∀ U, F U → FX ek cs N0 U) (hY : ∀ U, F U → FY U) (hlt : l.stackTraces = false) (μ : Mem) (x : Int32) :
    MG l yL_lean (.codeWith yL_lean cL_lean 3 (some .int) [(0, 5, 6, 40)]) 8 1 D ct ek ad N0 X F [.ref (ad 0), .int x] μ (gQi D ct ek ad N0 X (fun r ν => r = hA ((if one1 μ x = 0 then 1 else 0)) (qV μ x (sdR (μ 277) (tN x))) ∧ ν = μ)) :=
  h_lean l hY μ x (post := fun σ r τ => τ = σ ∧ npT σ x = 0 ∧ r = sgnV (σ (1 + 1 + 1) (tN x)) 0) (PX := fun σ E τ => PXd ["java/lang/IndexOutOfBoundsException"] (npT σ x) (fun τ => τ = σ) E τ) (fun σ C => c_X10_lean l σ x _ _ C.go cs hF hY hlt)
    (fun σ r τ C h => qQ (P := fun τ => τ = σ) (fun z => eqC C z) (npE C) (q_1 C.gw C.gh (fun h5 h6 => q_lean C.gh h6)) h)
    (fun σ E τ C h => qE (P := fun τ => τ = σ) (by decide) (fun z => eqC C z) (npE C) h)
theorem g_mean (l : Launch) {D : va_G} {ct : Nat → ClassId} {ek ad : Nat → Nat} {N0 : Nat} {X : va_W} {F : State → Prop} (cs : Nat → Nat) (hF : ∀ U, F U → FX ek cs N0 U) (hY : ∀ U, F U → FY U) (hlt : l.stackTraces = false) (μ : Mem) (x : Int32) :
    MG l yL_mean (.codeWith yL_mean cL_mean 3 (some .int) [(0, 5, 6, 40)]) 8 1 D ct ek ad N0 X F [.ref (ad 0), .int x] μ (gQi D ct ek ad N0 X (fun r ν => r = hA ((if one1 μ x = 0 then 1 else 0)) (qV μ x (mnR (μ 277) (gn μ) (tN x))) ∧ ν = μ)) :=
  h_mean l hY μ x (post := fun σ r τ => τ = σ ∧ npT σ x = 0 ∧ r = meanV σ (1 + 1) (gn μ) (tN x)) (PX := fun σ E τ => PXd ["java/lang/IndexOutOfBoundsException"] (npT σ x) (fun τ => τ = σ) E τ) (fun σ C => c_X10_mean l σ x _ _ C.go cs hF hY hlt)
    (fun σ r τ C h => qQ (P := fun τ => τ = σ) (fun z => eqC C z) (npE C) (q_1 C.gw C.gh (fun h5 h6 => pr_mean C.gh.1 C.gw.1 h6)) h)
    (fun σ E τ C h => qE (P := fun τ => τ = σ) (by decide) (fun z => eqC C z) (npE C) h)
theorem g_meanAgain (l : Launch) {D : va_G} {ct : Nat → ClassId} {ek ad : Nat → Nat} {N0 : Nat} {X : va_W} {F : State → Prop} (cs : Nat → Nat) (hF : ∀ U, F U → FX ek cs N0 U) (hY : ∀ U, F U → FY U) (hlt : l.stackTraces = false) (μ : Mem) (x : Int32) :
    MG l yL_meanAgain (.codeWith yL_meanAgain cL_meanAgain 3 (some .int) [(0, 5, 6, 40)]) 8 1 D ct ek ad N0 X F [.ref (ad 0), .int x] μ (gQi D ct ek ad N0 X (fun r ν => r = hA ((if one1 μ x = 0 then 1 else 0)) (qV μ x (mnR (μ 277) (gn μ) (tN x))) ∧ ν = μ)) :=
  h_meanAgain l hY μ x (post := fun σ r τ => τ = σ ∧ npT σ x = 0 ∧ r = mAddV (σ (1 + 1 + 1)) (fun q => tN (if q = tN x then σ (1 + 1 + 2) (tN x) + 1 else σ (1 + 1 + 7 + tN x) q)) (gn μ)) (PX := fun σ E τ => PXd ["java/lang/IndexOutOfBoundsException"] (npT σ x) (fun τ => τ = σ) E τ) (fun σ C => c_X10_meanAgain l σ x _ _ C.go (fun q => tN (if q = tN x then σ (1 + 1 + 2) (tN x) + 1 else σ (1 + 1 + 7 + tN x) q)) (fun z => (aga_h C.gw C.gh (hB_p C.gw C.gh z)).1) (fun z => (aga_h C.gw C.gh (hB_p C.gw C.gh z)).2) cs hF hY hlt)
    (fun σ r τ C h => qQ (P := fun τ => τ = σ) (fun z => eqC C z) (npE C) (q_1 C.gw C.gh (fun h5 h6 => aga_e C.gw C.gh h5)) h)
    (fun σ E τ C h => qE (P := fun τ => τ = σ) (by decide) (fun z => eqC C z) (npE C) h)
theorem g_wouldMove (l : Launch) {D : va_G} {ct : Nat → ClassId} {ek ad : Nat → Nat} {N0 : Nat} {X : va_W} {F : State → Prop} (cs : Nat → Nat) (hF : ∀ U, F U → FX ek cs N0 U) (hY : ∀ U, F U → FY U) (hlt : l.stackTraces = false) (μ : Mem) (x : Int32) :
    MG l yL_wouldMove (.codeWith yL_wouldMove cL_wouldMove 3 (some .int) [(0, 5, 6, 40)]) 8 1 D ct ek ad N0 X F [.ref (ad 0), .int x] μ (gQi D ct ek ad N0 X (fun r ν => r = hA ((if one1 μ x = 0 then 1 else 0)) (qV μ x (mvR (μ 277) (gn μ) (tN x))) ∧ ν = μ)) :=
  h_wouldMove l hY μ x (post := fun σ r τ => τ = σ ∧ npT σ x = 0 ∧ r = moveV σ (1 + 1) (gn μ) (tN x)) (PX := fun σ E τ => PXd ["java/lang/IndexOutOfBoundsException"] (npT σ x) (fun τ => τ = σ) E τ) (fun σ C => c_X10_wouldMove l σ x _ _ C.go cs hF hY hlt)
    (fun σ r τ C h => qQ (P := fun τ => τ = σ) (fun z => eqC C z) (npE C) (q_1 C.gw C.gh (fun h5 h6 => pr_move C.gh.1 C.gw.1 C.gw.2.1 h6)) h)
    (fun σ E τ C h => qE (P := fun τ => τ = σ) (by decide) (fun z => eqC C z) (npE C) h)
theorem g_puller (l : Launch) {D : va_G} {ct : Nat → ClassId} {ek ad : Nat → Nat} {N0 : Nat} {X : va_W} {F : State → Prop} (cs : Nat → Nat) (hF : ∀ U, F U → FX ek cs N0 U) (hY : ∀ U, F U → FY U) (hlt : l.stackTraces = false) (μ : Mem) (x : Int32) :
    MG l yL_puller (.codeWith yL_puller cL_puller 3 (some .int) [(0, 5, 6, 40), (0, 5, 11, 65)]) 8 2 D ct ek ad N0 X F [.ref (ad 0), .int x] μ (gQi D ct ek ad N0 X (fun r ν => r = hA (pulT μ (gn μ) x) (pulV μ (gn μ) x) ∧ ν = μ)) :=
  h_puller l hY μ x (post := fun σ r τ => τ = σ ∧ pulXT σ (gn μ) x = 0 ∧ r = pulXS σ (gn μ) x) (PX := fun σ E τ => PXd ["java/lang/IndexOutOfBoundsException", "java/util/NoSuchElementException"] (pulXT σ (gn μ) x) (fun τ => τ = σ) E τ) (fun σ C => c_X10_puller l σ x _ _ C.go cs hF hY hlt)
    (fun σ r τ C h => qQ (P := fun τ => τ = σ) (fun z => eqC C z) (q_pul C.gw C.gh).1 (q_pul C.gw C.gh).2 h)
    (fun σ E τ C h => qE (P := fun τ => τ = σ) (by decide) (fun z => eqC C z) (q_pul C.gw C.gh).1 h)
theorem g_force (l : Launch) {D : va_G} {ct : Nat → ClassId} {ek ad : Nat → Nat} {N0 : Nat} {X : va_W} {F : State → Prop} (cs : Nat → Nat) (hF : ∀ U, F U → FX ek cs N0 U) (hY : ∀ U, F U → FY U) (hlt : l.stackTraces = false) (μ : Mem) (x y : Int32) :
    MG l yL_force (.codeWith yL_force cL_force 4 (some .int) [(0, 6, 7, 40), (0, 6, 12, 42)]) 8 2 D ct ek ad N0 X F [.ref (ad 0), .int x, .int y] μ (gQi D ct ek ad N0 X (fun r ν => r = hA (fceT μ x y) (fceV μ x y) ∧ ν = μ)) :=
  h_force l hY μ x y (post := fun σ r τ => τ = σ ∧ fceXT σ x y = 0 ∧ r = facXF σ x y) (PX := fun σ E τ => PXd ["java/lang/IndexOutOfBoundsException", "java/lang/IllegalArgumentException"] (fceXT σ x y) (fun τ => τ = σ) E τ) (fun σ C => c_X10_force l σ x y _ _ C.go cs hF hY hlt)
    (fun σ r τ C h => qQ (P := fun τ => τ = σ) (fun z => eqC C z) (q_fce C.gw C.gh).1 (q_fce C.gw C.gh).2 h)
    (fun σ E τ C h => qE (P := fun τ => τ = σ) (by decide) (fun z => eqC C z) (q_fce C.gw C.gh).1 h)
theorem g_factsFor (l : Launch) {D : va_G} {ct : Nat → ClassId} {ek ad : Nat → Nat} {N0 : Nat} {X : va_W} {F : State → Prop} (cs : Nat → Nat) (hF : ∀ U, F U → FX ek cs N0 U) (hY : ∀ U, F U → FY U) (hlt : l.stackTraces = false) (μ : Mem) (x y : Int32) :
    MG l yL_factsFor (.codeWith yL_factsFor cL_factsFor 4 (some .int) [(0, 6, 7, 40), (0, 6, 12, 42), (0, 6, 17, 65)]) 8 3 D ct ek ad N0 X F [.ref (ad 0), .int x, .int y] μ (gQi D ct ek ad N0 X (fun r ν => r = hA (facT μ x y) (facV μ x y) ∧ ν = μ)) :=
  h_factsFor l hY μ x y (post := fun σ r τ => τ = σ ∧ facXT σ x y = 0 ∧ r = facX σ x y) (PX := fun σ E τ => PXd ["java/lang/IndexOutOfBoundsException", "java/lang/IllegalArgumentException", "java/util/NoSuchElementException"] (facXT σ x y) (fun τ => τ = σ) E τ) (fun σ C => c_X10_factsFor l σ x y _ _ C.go cs hF hY hlt)
    (fun σ r τ C h => qQ (P := fun τ => τ = σ) (fun z => eqC C z) (q_fac C.gw C.gh).1 (q_fac C.gw C.gh).2 h)
    (fun σ E τ C h => qE (P := fun τ => τ = σ) (by decide) (fun z => eqC C z) (q_fac C.gw C.gh).1 h)
theorem g_tiltIn (l : Launch) {D : va_G} {ct : Nat → ClassId} {ek ad : Nat → Nat} {N0 : Nat} {X : va_W} {F : State → Prop} (cs : Nat → Nat) (hF : ∀ U, F U → FX ek cs N0 U) (hY : ∀ U, F U → FY U) (hlt : l.stackTraces = false) (μ : Mem) (x y : Int32) :
    MG l yL_tiltIn (.codeWith yL_tiltIn cL_tiltIn 4 (some .int) [(0, 6, 7, 40), (0, 6, 12, 42)]) 8 2 D ct ek ad N0 X F [.ref (ad 0), .int x, .int y] μ (gQi D ct ek ad N0 X (fun r ν => r = hA (tinT μ x y) (tinV μ (gn μ) (gm μ) x y) ∧ ν = μ)) :=
  h_tiltIn l hY μ x y (post := fun σ r τ => FcP τ σ ∧ tinXT σ x y = 0 ∧ r = (goK (μ 277) (gn μ) (gm μ) (tN y)).1 (6 + 5 * tN x + 0)) (PX := fun σ E τ => PXd ["java/lang/IndexOutOfBoundsException", "java/lang/IllegalArgumentException"] (tinXT σ x y) (fun τ => τ = σ) E τ) (fun σ C => c_X10_tiltIn l σ x y _ _ C.go (μ 277) C.gw.1 C.gw.2.1 C.gh.1 cs hF hY hlt)
    (fun σ r τ C h => qQ (P := fun τ => FcP τ σ) (fun z => fcC C z) (q_tin (h := μ 277) C.gw C.gh).1 (q_tin (h := μ 277) C.gw C.gh).2 h)
    (fun σ E τ C h => qE (P := fun τ => τ = σ) (by decide) (fun z => eqC C z) (q_tin (h := μ 277) C.gw C.gh).1 h)
theorem g_restsIn (l : Launch) {D : va_G} {ct : Nat → ClassId} {ek ad : Nat → Nat} {N0 : Nat} {X : va_W} {F : State → Prop} (cs : Nat → Nat) (hF : ∀ U, F U → FX ek cs N0 U) (hY : ∀ U, F U → FY U) (hlt : l.stackTraces = false) (μ : Mem) :
    MG l yL_restsIn (.codeWith yL_restsIn cL_restsIn 2 (some .int) [(0, 4, 5, 65)]) 7 1 D ct ek ad N0 X F [.ref (ad 0)] μ (gQi D ct ek ad N0 X (fun r ν => r = hA (rstiT (μ 277) (gn μ) (gm μ)) (rstiV (μ 277) (gn μ) (gm μ)) ∧ ν = μ)) :=
  h_restsIn l hY μ (post := fun σ r τ => FcP τ σ ∧ rstXT (μ 277) (gn μ) (gm μ) = 0 ∧ r = nI (rsR (μ 277) (gn μ) (gm μ) 100 0)) (PX := fun σ E τ => PXd ["java/util/NoSuchElementException"] (rstXT (μ 277) (gn μ) (gm μ)) (fun τ => FcP τ σ) E τ) (fun σ C => c_X10_restsIn l σ _ _ C.go (μ 277) C.gw.1 C.gw.2.1 C.gh.1 cs hF hY hlt)
    (fun σ r τ C h => qQ (P := fun τ => FcP τ σ) (fun z => fcC C z) (q_rst (μ := μ) (n := gn μ) (mb := gm μ)).1 (q_rst (μ := μ) (n := gn μ) (mb := gm μ)).2 h)
    (fun σ E τ C h => qE (P := fun τ => FcP τ σ) (by decide) (fun z => fcC C z) (q_rst (μ := μ) (n := gn μ) (mb := gm μ)).1 h)
theorem g_breaksIn (l : Launch) {D : va_G} {ct : Nat → ClassId} {ek ad : Nat → Nat} {N0 : Nat} {X : va_W} {F : State → Prop} (cs : Nat → Nat) (hF : ∀ U, F U → FX ek cs N0 U) (hY : ∀ U, F U → FY U) (hlt : l.stackTraces = false) (μ : Mem) (x : Int32) :
    MG l yL_breaksIn (.codeWith yL_breaksIn cL_breaksIn 3 (some .int) [(0, 5, 6, 40), (0, 5, 11, 65)]) 8 2 D ct ek ad N0 X F [.ref (ad 0), .int x] μ (gQi D ct ek ad N0 X (fun r ν => r = hA (briT μ (gn μ) (gm μ) x) (briV μ (gn μ) (gm μ) x) ∧ ν = μ)) :=
  h_breaksIn l hY μ x (post := fun σ r τ => FcP τ σ ∧ briXT σ (μ 277) (gn μ) (gm μ) x = 0 ∧ r = nI (briXN (μ 277) (gn μ) (gm μ) x)) (PX := fun σ E τ => PXd ["java/lang/IndexOutOfBoundsException", "java/util/NoSuchElementException"] (briXT σ (μ 277) (gn μ) (gm μ) x) (fun τ => FcP τ σ) E τ) (fun σ C => c_X10_breaksIn l σ x _ _ C.go (μ 277) C.gw.1 C.gw.2.1 C.gh.1 C.gh.2.2.1 cs hF hY hlt)
    (fun σ r τ C h => qQ (P := fun τ => FcP τ σ) (fun z => fcC C z) (q_bri C.gw C.gh).1 (q_bri C.gw C.gh).2 h)
    (fun σ E τ C h => qE (P := fun τ => FcP τ σ) (by decide) (fun z => fcC C z) (q_bri C.gw C.gh).1 h)
theorem g_camp (l : Launch) {D : va_G} {ct : Nat → ClassId} {ek ad : Nat → Nat} {N0 : Nat} {X : va_W} {F : State → Prop} (cs : Nat → Nat) (hF : ∀ U, F U → FX ek cs N0 U) (hY : ∀ U, F U → FY U) (hlt : l.stackTraces = false) (μ : Mem) (x : Int32) :
    MG l yL_camp (.codeWith yL_camp cL_camp 3 (some .int) [(0, 5, 6, 40)]) 8 1 D ct ek ad N0 X F [.ref (ad 0), .int x] μ (gQi D ct ek ad N0 X (fun r ν => r = hA ((if one1 μ x = 0 then 1 else 0)) (qV μ x (cmR (μ 277) (gn μ) (tN x))) ∧ ν = μ)) :=
  h_camp l hY μ x (post := fun σ r τ => τ = σ ∧ npT σ x = 0 ∧ r = campV σ (1 + 1) (gn μ) (tN x)) (PX := fun σ E τ => PXd ["java/lang/IndexOutOfBoundsException"] (npT σ x) (fun τ => τ = σ) E τ) (fun σ C => c_X10_camp l σ x _ _ C.go cs hF hY hlt)
    (fun σ r τ C h => qQ (P := fun τ => τ = σ) (fun z => eqC C z) (npE C) (q_1 C.gw C.gh (fun h5 h6 => camp_e C.gw C.gh h5)) h)
    (fun σ E τ C h => qE (P := fun τ => τ = σ) (by decide) (fun z => eqC C z) (npE C) h)
theorem g_greatest (l : Launch) {D : va_G} {ct : Nat → ClassId} {ek ad : Nat → Nat} {N0 : Nat} {X : va_W} {F : State → Prop} (cs : Nat → Nat) (hF : ∀ U, F U → FX ek cs N0 U) (hY : ∀ U, F U → FY U) (hlt : l.stackTraces = false) (μ : Mem) (x : Int32) :
    MG l yL_greatest (.codeWith yL_greatest cL_greatest 3 (some .int) [(0, 5, 6, 65)]) 7 1 D ct ek ad N0 X F [.ref (ad 0), .int x] μ (gQi D ct ek ad N0 X (fun r ν => r = hA (greT (μ 277) (gn μ) x) (greV (μ 277) (gn μ) x) ∧ ν = μ)) :=
  h_greatest l hY μ x (post := fun σ r τ => τ = σ ∧ greXT σ (gn μ) x = 0 ∧ r = greXS σ (gn μ) x) (PX := fun σ E τ => PXd ["java/util/NoSuchElementException"] (greXT σ (gn μ) x) (fun τ => τ = σ) E τ) (fun σ C => c_X10_greatest l σ x _ _ C.go cs hF hY hlt)
    (fun σ r τ C h => qQ (P := fun τ => τ = σ) (fun z => eqC C z) (q_gre C.gw C.gh).1 (q_gre C.gw C.gh).2 h)
    (fun σ E τ C h => qE (P := fun τ => τ = σ) (by decide) (fun z => eqC C z) (q_gre C.gw C.gh).1 h)
theorem g_ranked (l : Launch) {D : va_G} {ct : Nat → ClassId} {ek ad : Nat → Nat} {N0 : Nat} {X : va_W} {F : State → Prop} (cs : Nat → Nat) (hF : ∀ U, F U → FX ek cs N0 U) (hY : ∀ U, F U → FY U) (hlt : l.stackTraces = false) (μ : Mem) (x y : Int32) :
    MG l yL_ranked (.codeWith yL_ranked cL_ranked 4 (some .int) [(0, 6, 7, 42), (0, 6, 12, 65)]) 7 1 D ct ek ad N0 X F [.ref (ad 0), .int x, .int y] μ (gQi D ct ek ad N0 X (fun r ν => r = hA (ranT (μ 277) (gn μ) x y) (ranV (μ 277) (gn μ) x y) ∧ ν = μ)) :=
  h_ranked l hY μ x y (post := fun σ r τ => τ = σ ∧ ranXT σ (gn μ) x y = 0 ∧ r = ranXS σ (gn μ) x y) (PX := fun σ E τ => PXd ["java/lang/IllegalArgumentException", "java/util/NoSuchElementException"] (ranXT σ (gn μ) x y) (fun τ => τ = σ) E τ) (fun σ C => c_X10_ranked l σ x y _ _ C.go cs hF hY hlt)
    (fun σ r τ C h => qQ (P := fun τ => τ = σ) (fun z => eqC C z) (q_ran C.gw C.gh).1 (q_ran C.gw C.gh).2 h)
    (fun σ E τ C h => qE (P := fun τ => τ = σ) (by decide) (fun z => eqC C z) (q_ran C.gw C.gh).1 h)
theorem g_weakest (l : Launch) {D : va_G} {ct : Nat → ClassId} {ek ad : Nat → Nat} {N0 : Nat} {X : va_W} {F : State → Prop} (cs : Nat → Nat) (hF : ∀ U, F U → FX ek cs N0 U) (hY : ∀ U, F U → FY U) (hlt : l.stackTraces = false) (μ : Mem) (x : Int32) :
    MG l yL_weakest (.codeWith yL_weakest cL_weakest 3 (some .int) [(0, 5, 6, 65)]) 7 1 D ct ek ad N0 X F [.ref (ad 0), .int x] μ (gQi D ct ek ad N0 X (fun r ν => r = hA (weaT (μ 277) (gm μ) x) (weaV (μ 277) (gm μ) x) ∧ ν = μ)) :=
  h_weakest l hY μ x (post := fun σ r τ => τ = σ ∧ weaXT σ (gm μ) x = 0 ∧ r = weaXS σ (gm μ) x) (PX := fun σ E τ => PXd ["java/util/NoSuchElementException"] (weaXT σ (gm μ) x) (fun τ => τ = σ) E τ) (fun σ C => c_X10_weakest l σ x _ _ C.go cs hF hY hlt)
    (fun σ r τ C h => qQ (P := fun τ => τ = σ) (fun z => eqC C z) (q_wea C.gw C.gh).1 (q_wea C.gw C.gh).2 h)
    (fun σ E τ C h => qE (P := fun τ => τ = σ) (by decide) (fun z => eqC C z) (q_wea C.gw C.gh).1 h)
theorem g_append (l : Launch) {D : va_G} {ct : Nat → ClassId} {ek ad : Nat → Nat} {N0 : Nat} {X : va_W} {F : State → Prop} (cs : Nat → Nat) (hF : ∀ U, F U → FX ek cs N0 U) (hY : ∀ U, F U → FY U) (hlt : l.stackTraces = false) (μ : Mem) (x : Int32) (hc : vp_nar .char x = x) :
    MG l yL_append (.codeWith yL_append cL_append 3 (some .int) [(0, 5, 6, 99)]) 7 1 D ct ek ad N0 X F [.ref (ad 0), .int x] μ (gQi D ct ek ad N0 X (fun r ν => r = (apG μ x).1 ∧ ν = (apG μ x).2)) :=
  h_append l hY μ x (post := fun σ r τ => τ = sg (sg σ 240 (gL μ) x) 239 3 (nI (gL μ + 1)) ∧ apeXT (gL μ) = 0 ∧ r = nI (gL μ + 1)) (PX := fun σ E τ => PXd ["java/lang/IllegalStateException"] (apeXT (gL μ)) (fun τ => τ = σ) E τ) (fun σ C => c_X10_append l σ x hc _ C.gt.1 C.gt.2.1 cs hF hY hlt)
    (fun σ r τ C h => ap_q hc C h)
    (fun σ E τ C h => ap_e C h)
theorem g_commands (l : Launch) {D : va_G} {ct : Nat → ClassId} {ek ad : Nat → Nat} {N0 : Nat} {X : va_W} {F : State → Prop} (cs : Nat → Nat) (hF : ∀ U, F U → FX ek cs N0 U) (hY : ∀ U, F U → FY U) (hlt : l.stackTraces = false) (μ : Mem) :
    MG l yL_commands (.codeWith yL_commands cL_commands 2 (some .int) [(0, 4, 5, 42), (0, 4, 10, 13)]) 8 2 D ct ek ad N0 X F [.ref (ad 0)] μ (gQi D ct ek ad N0 X (fun r ν => r = (cmG μ).1 ∧ ν = (cmG μ).2)) :=
  h_commands l hY μ (post := fun σ r τ => CmR τ σ (gL μ) (tN (σ 77 1)) (gu μ) r) (PX := fun σ E τ => (E = "java/lang/IllegalArgumentException" ∧ CmX0 τ σ (gL μ)) ∨ (E = "java/lang/UnsupportedOperationException" ∧ CmX1 τ σ (gL μ))) (fun σ C => c_X10_commands l σ _ _ C.go _ C.gt.1 C.gt.2.1 _ C.gj.1 C.gj.2.1 _ C.gj.2.2.1 C.gj.2.2.2.1 cs hF hY hlt)
    (fun σ r τ C h => cm_q C h)
    (fun σ E τ C h => cm_e C h)
theorem g_reason (l : Launch) {D : va_G} {ct : Nat → ClassId} {ek ad : Nat → Nat} {N0 : Nat} {X : va_W} {F : State → Prop} (cs : Nat → Nat) (hF : ∀ U, F U → FX ek cs N0 U) (hY : ∀ U, F U → FY U) (hlt : l.stackTraces = false) (μ : Mem) (x : Int32) :
    MG l yL_reason (.codeWith yL_reason cL_reason 3 (some .int) [(0, 5, 6, 42), (0, 5, 11, 65)]) 7 1 D ct ek ad N0 X F [.ref (ad 0), .int x] μ (gQi D ct ek ad N0 X (fun r ν => r = hA (reaT μ x) (reaV μ x) ∧ ν = μ)) :=
  h_reason l hY μ x (post := fun σ r τ => τ = σ ∧ reaXT σ x = 0 ∧ r = reaX σ x) (PX := fun σ E τ => PXd ["java/lang/IllegalArgumentException", "java/util/NoSuchElementException"] (reaXT σ x) (fun τ => τ = σ) E τ) (fun σ C => c_X10_reason l σ x cs hF hY hlt)
    (fun σ r τ C h => qQ (P := fun τ => τ = σ) (fun z => eqC C z) (q_rea C.2.2.2.2.2.2.2).1 (q_rea C.2.2.2.2.2.2.2).2 h)
    (fun σ E τ C h => qE (P := fun τ => τ = σ) (by decide) (fun z => eqC C z) (q_rea C.2.2.2.2.2.2.2).1 h)
theorem g_line (l : Launch) {D : va_G} {ct : Nat → ClassId} {ek ad : Nat → Nat} {N0 : Nat} {X : va_W} {F : State → Prop} (cs : Nat → Nat) (hF : ∀ U, F U → FX ek cs N0 U) (hY : ∀ U, F U → FY U) (hlt : l.stackTraces = false) (μ : Mem) (x : Int32) :
    MG l yL_line (.codeWith yL_line cL_line 3 (some .int) [(0, 5, 6, 40)]) 8 1 D ct ek ad N0 X F [.ref (ad 0), .int x] μ (gQi D ct ek ad N0 X (fun r ν => r = (linG μ x).1 ∧ ν = (linG μ x).2)) :=
  h_line l hY μ x (post := fun σ r τ => τ = wpM σ (1 + 1) (gn μ) (tN x) ∧ npT σ x = 0 ∧ r = wpM σ (1 + 1) (gn μ) (tN x) 274 1) (PX := fun σ E τ => PXd ["java/lang/IndexOutOfBoundsException"] (npT σ x) (fun τ => τ = σ) E τ) (fun σ C => c_X10_line l σ x _ _ C.go cs hF hY hlt)
    (fun σ r τ C h => lin_q C h)
    (fun σ E τ C h => lin_e C h)
theorem g_character (l : Launch) {D : va_G} {ct : Nat → ClassId} {ek ad : Nat → Nat} {N0 : Nat} {X : va_W} {F : State → Prop} (cs : Nat → Nat) (hF : ∀ U, F U → FX ek cs N0 U) (hY : ∀ U, F U → FY U) (hlt : l.stackTraces = false) (μ : Mem) (x : Int32) :
    MG l yL_character (.codeWith yL_character cL_character 3 (some .int) [(0, 5, 6, 40)]) 7 1 D ct ek ad N0 X F [.ref (ad 0), .int x] μ (gQi D ct ek ad N0 X (fun r ν => r = hA (chrT μ x) (chrV μ x) ∧ ν = μ)) :=
  h_character l hY μ x (post := fun σ r τ => τ = σ ∧ chrXT σ x = 0 ∧ r = σ 275 (tN x)) (PX := fun σ E τ => PXd ["java/lang/IndexOutOfBoundsException"] (chrXT σ x) (fun τ => τ = σ) E τ) (fun σ C => by
    obtain ⟨L, h1, h2, -⟩ := C.2.2.2.2.2.1
    exact c_X10_character l σ x L h2 h1 C.gc cs hF hY hlt)
    (fun σ r τ C h => qQ (P := fun τ => τ = σ) (fun z => eqC C z) (q_chr C.2.2.2.2.2.1).1 (q_chr C.2.2.2.2.2.1).2 h)
    (fun σ E τ C h => qE (P := fun τ => τ = σ) (by decide) (fun z => eqC C z) (q_chr C.2.2.2.2.2.1).1 h)
theorem g_meanTilt (l : Launch) {D : va_G} {ct : Nat → ClassId} {ek ad : Nat → Nat} {N0 : Nat} {X : va_W} {F : State → Prop} (cs : Nat → Nat) (hF : ∀ U, F U → FX ek cs N0 U) (hY : ∀ U, F U → FY U) (hlt : l.stackTraces = false) (μ : Mem) (hn0 : ¬ gn μ = 0) :
    MG l yL_meanTilt (.codeWith yL_meanTilt cL_meanTilt 2 (some .double) [(0, 4, 5, 118)]) 7 1 D ct ek ad N0 X F [.ref (ad 0)] μ (gQd D ct ek ad N0 X (fun r ν => r = mtV (gn μ) (sumR (fun q => μ 277 (6 + 5 * q + 0)) 0 (gn μ)) ∧ ν = μ)) :=
  h_meanTilt l hY μ (post := fun σ r τ => τ = σ ∧ mtT (gn μ) = 0 ∧ r = mtV (gn μ) (sumR (σ (1 + 1 + 1)) 0 (gn μ))) (PX := fun σ E τ => PXd ["java/lang/ArithmeticException"] (mtT (gn μ)) (fun τ => τ = σ) E τ) (fun σ C => c_X10_meanTilt l σ _ _ C.go (by rw [(sum_e C.gw C.gh).1]; exact sum_120 C.gw) cs hF hY hlt)
    (fun σ r τ C h => ⟨μ, eqC C h.1, by rw [h.2.2, (sum_e C.gw C.gh).1], rfl⟩)
    (fun σ E τ C h => by
    obtain ⟨-, i, h2, h3⟩ := h
    unfold mtT at h3
    rw [if_neg hn0] at h3
    have hi := (List.getElem?_eq_some_iff.mp h2).1
    have i1 : i < 1 := hi
    exact absurd h3.symm (nI_ne0 (by omega) (by omega)))
theorem g_plumbShare (l : Launch) {D : va_G} {ct : Nat → ClassId} {ek ad : Nat → Nat} {N0 : Nat} {X : va_W} {F : State → Prop} (cs : Nat → Nat) (hF : ∀ U, F U → FX ek cs N0 U) (hY : ∀ U, F U → FY U) (hlt : l.stackTraces = false) (μ : Mem) (hn0 : ¬ gn μ = 0) :
    MG l yL_plumbShare (.codeWith yL_plumbShare cL_plumbShare 2 (some .float) [(0, 4, 5, 118)]) 7 1 D ct ek ad N0 X F [.ref (ad 0)] μ (gQf D ct ek ad N0 X (fun r ν => r = psV9 (gn μ) (plmR (fun q => μ 277 (6 + 5 * q + 0)) (gn μ)) ∧ ν = μ)) :=
  h_plumbShare l hY μ (post := fun σ r τ => τ = σ ∧ mtT (gn μ) = 0 ∧ r = psV9 (gn μ) (plmR (σ (1 + 1 + 1)) (gn μ))) (PX := fun σ E τ => PXd ["java/lang/ArithmeticException"] (mtT (gn μ)) (fun τ => τ = σ) E τ) (fun σ C => c_X10_plumbShare l σ _ _ C.go (by rw [(sum_e C.gw C.gh).2]; obtain ⟨j, h1, h2⟩ := plm_6 (f := fun q => μ 277 (6 + 5 * q + 0)) (gn μ); exact ⟨j, by have := C.gw.1.2.1; omega, h2⟩) cs hF hY hlt)
    (fun σ r τ C h => ⟨μ, eqC C h.1, by rw [h.2.2, (sum_e C.gw C.gh).2], rfl⟩)
    (fun σ E τ C h => by
    obtain ⟨-, i, h2, h3⟩ := h
    unfold mtT at h3
    rw [if_neg hn0] at h3
    have hi := (List.getElem?_eq_some_iff.mp h2).1
    have i1 : i < 1 := hi
    exact absurd h3.symm (nI_ne0 (by omega) (by omega)))
theorem g_account (l : Launch) {D : va_G} {ct : Nat → ClassId} {ek ad : Nat → Nat} {N0 : Nat} {X : va_W} {F : State → Prop} (cs : Nat → Nat) (hF : ∀ U, F U → FX ek cs N0 U) (hY : ∀ U, F U → FY U) (hlt : l.stackTraces = false) (μ : Mem) (x : Int32) :
    MG l yL_account (.codeWith yL_account cL_account 3 (some .int) [(0, 5, 6, 42)]) 7 1 D ct ek ad N0 X F [.ref (ad 0), .int x] μ (gQi D ct ek ad N0 X (fun r ν => r = hA (accT x) (accV μ (gn μ) x) ∧ ν = μ)) :=
  h_account l hY μ x (post := fun σ r τ => τ = σ ∧ accT x = 0 ∧ r = accX σ (gn μ) x) (PX := fun σ E τ => PXd ["java/lang/IllegalArgumentException"] (accT x) (fun τ => τ = σ) E τ) (fun σ C => c_X10_account l σ x _ _ C.go cs hF hY hlt)
    (fun σ r τ C h => qQ (P := fun τ => τ = σ) (fun z => eqC C z) rfl (fun z => accE C z) h)
    (fun σ E τ C h => qE (P := fun τ => τ = σ) (by decide) (fun z => eqC C z) rfl h)
theorem g_undo (l : Launch) {D : va_G} {ct : Nat → ClassId} {ek ad : Nat → Nat} {N0 : Nat} {X : va_W} {F : State → Prop} (cs : Nat → Nat) (hF : ∀ U, F U → FX ek cs N0 U) (hY : ∀ U, F U → FY U) (hlt : l.stackTraces = false) (μ : Mem) :
    MG l yL_undo (.codeWith yL_undo cL_undo 2 (some .int) [(0, 4, 5, 99)]) 7 1 D ct ek ad N0 X F [.ref (ad 0)] μ (gQi D ct ek ad N0 X (fun r ν => r = (unG μ).1 ∧ ν = (unG μ).2)) :=
  h_undo l hY μ (post := fun σ r τ => UndQ τ σ (tN (σ 77 1)) (gu μ) ∧ undT (gu μ) = 0 ∧ r = nI (gu μ - 1)) (PX := fun σ E τ => PXd ["java/lang/IllegalStateException"] (undT (gu μ)) (fun τ => τ = σ) E τ) (fun σ C => c_X10_undo l σ _ C.gj.1 C.gj.2.1 _ C.gj.2.2.1 C.gj.2.2.2.1 C.2.1.2.2.2 cs hF hY hlt)
    (fun σ r τ C h => un_q C h)
    (fun σ E τ C h => un_e C h)
theorem g_restore (l : Launch) {D : va_G} {ct : Nat → ClassId} {ek ad : Nat → Nat} {N0 : Nat} {X : va_W} {F : State → Prop} (cs : Nat → Nat) (hF : ∀ U, F U → FX ek cs N0 U) (hY : ∀ U, F U → FY U) (hlt : l.stackTraces = false) (μ : Mem) :
    MG l yL_restore (.codeWith yL_restore cL_restore 2 (some .int) [(0, 4, 5, 99)]) 7 1 D ct ek ad N0 X F [.ref (ad 0)] μ (gQi D ct ek ad N0 X (fun r ν => r = (rsG μ).1 ∧ ν = (rsG μ).2)) :=
  h_restore l hY μ (post := fun σ r τ => RstQ τ σ ∧ rstT σ = 0 ∧ r = σ (41 + 1) 7) (PX := fun σ E τ => PXd ["java/lang/IllegalStateException"] (rstT σ) (fun τ => τ = σ) E τ) (fun σ C => c_X10_restore l σ C.2.1.2.2.1 cs hF hY hlt)
    (fun σ r τ C h => rs_q C h)
    (fun σ E τ C h => rs_e C h)

/-! a kind's place; a house carries out a change (laid by wip/p43/spec_house2.py) -/
set_option maxHeartbeats 1000000 in
set_option maxRecDepth 100000 in
theorem c_Jx29ce0_ordinal_8abf5 (l : Launch) {D : va_G} {ct : Nat → ClassId} {ek ad : Nat → Nat} {N0 : Nat} {X : va_W} {F : State → Prop} (σ : Mem) (cs : Nat → Nat) (hF : ∀ U, F U → FX ek cs N0 U) (j : Nat) (hj : j < 8) : MI l yJx29ce0_ordinal_8abf5 cJx29ce0_ordinal_8abf5 1 (some .int) 0 D ct ek ad N0 X F [.ref (ek j)] σ (fun r τ => r = nI j ∧ τ = σ) := by
  refine ms0 (own := RJx29ce0) (by decide) rfl (Nat.le_of_ble_eq_true rfl) (fun p e s m args below meth c S hr hlocks hnm G hP hS ls hl => ?_)
  have hx := S.1
  have hb := S.2.1
  replace hl : lv_has ls 1 [(0, .ref (ek j))] := hl
  have FC := hF s G.2.2.2.2.2
  refine lv_aload_n hx hb dJx29ce0_ordinal_8abf5_0 rfl (lv_at hl 0 rfl) ?_
  refine vk_getf (A := fr N0) hx hb (FC.ord hj) hS S.2.2.2.1 (S.2.2.2.2 _ fl_RJx29ce0_7) (fun _ h => h) dJx29ce0_ordinal_8abf5_1 ?_
  exact eI S hr hlocks hP hS dJx29ce0_ordinal_8abf5_4 (by first | exact ⟨rfl, rfl⟩ | (refine ⟨?_, rfl⟩; simp []; done) | (simp []; done) | (simp only [↓reduceIte, if_true, if_false, and_self, true_and]; done) | grind [])
theorem ordG : GoodIn BW (va_wsU RX5 52 RX6 RJx29ce0 (⟨RX6, "ordinal", "()I"⟩ : MethodName) yJx29ce0_ordinal_8abf5 (wy yJx29ce0_ordinal_8abf5 cJx29ce0_ordinal_8abf5 1 (some .int))) := by
  intro w hw
  have key : w ∈ BW := by
    simp only [va_wsU, wy, List.mem_append, List.mem_cons, List.not_mem_nil, or_false] at hw
    rcases hw with (rfl | rfl | rfl | rfl | rfl) | rfl | hw
    · exact bw 430 (by decide +kernel) (by decide +kernel)
    · exact bw 431 (by decide +kernel) (by decide +kernel)
    · exact bw 433 (by decide +kernel) (by decide +kernel)
    · exact im_yJx29ce0_ordinal_8abf5
    · exact in_RJx29ce0
    · exact co_yJx29ce0_ordinal_8abf5
    · exact hw
  exact gd key key
theorem cOrd {p : Program} {l : Launch} {e : Env} {R : Room} {s : State} {m : MethodId} {args : Array Value} {below : List Frame} {meth : Method} {c : Code} {H : Heap} {locs : List Loc} {cells slots : Nat} {Q : State → Prop} {cc : ByteArray} {nL : Nat} {pc : Nat} {ls : Array Slot} {rest : List Value} {D : va_G} {ct : Nat → ClassId} {ek ad cs : Nat → Nat} {N0 : Nat} {X : va_W} {F : State → Prop} {σ : Mem} {d0 mc ms j : Nat} (hF : ∀ U, F U → FX ek cs N0 U) (S : CallFix p m c cc nL s args BW RX5) (G : GI D ct ek ad N0 X F s) (FC : FX ek cs N0 s) (hj : j < 8) (hP : wP D ct ek ad X σ H) (hS : va_S (fr N0) s.heap H locs) (hls : ls.size = nL) (hR : R = rmd d0 mc ms) (hd : 0 + 1 ≤ d0) (hrest : (rest.map fun v => v.category).sum ≤ 8) (hcs : cells ≤ mc ∧ slots ≤ ms) (hdg : decode cc pc = .ok (.invokevirtual 52, 3))
    (kk : ∀ (H : Heap) (locs : List Loc), wP D ct ek ad X σ H → va_S (fr N0) s.heap H locs → W p l e R s m args below meth c H locs cells slots Q (F0 m (pc + 3) ls (.int (nI j) :: rest))) : W p l e R s m args below meth c H locs cells slots Q (F0 m pc ls (.ref (ek j) :: rest)) := by
  subst hR
  refine va_calli (va_runU (As := []) (rest := rest) S (c_Jx29ce0_ordinal_8abf5 l (D := D) (ct := ct) (ek := ek) (ad := ad) (N0 := N0) (X := X) (F := F) σ cs hF j hj) (va_cwU 0 S.2.2.2.2 ordG rfl rfl rfl rfl ⟨by decide, by decide, by decide +kernel⟩ ⟨hd, ?_⟩) ⟨GI.blind, va_recvE FC.1 hj hS, fun U hU hW => ⟨rfl, G.at hS hU hW, by rw [hU]; exact hP⟩⟩ rfl rfl hls rfl (lv_room hrest) hdg ⟨hcs.1, hcs.2⟩) hS (fun q _ h => h) (fun q h => h) (fun r u t H1 locs1 ht _ hp hB _ _ hS1 => ?_)
  · show 8 + (1 + 11) + 32 * 0 ≤ 32 * d0
    omega
  · obtain ⟨rfl, rfl⟩ := hp
    exact kk H1 locs1 (by rw [← ht]; exact hB) hS1
/-- a change of kind j, carried out on the house hb -/
def carH (σ : Mem) (hb n mb cb j : Nat) : Mem := match j with
  | 0 => admM σ hb n cb 0
  | 1 => admM σ hb n cb 1
  | 2 => friM σ hb cb
  | 3 => rndM σ hb n mb cb
  | 4 => telM σ hb cb
  | 5 => putM σ hb mb cb
  | 6 => remM σ hb mb cb
  | _ => habM σ hb cb
theorem ok_yX5_carryOut : COK RX5 yX5_carryOut cX5_carryOut 2 none 1 := ⟨im_yX5_carryOut, se_RX5_yX5_carryOut, in_RX5, co_yX5_carryOut, ⟨rfl, by decide +kernel, by decide +kernel, by decide +kernel⟩, by decide⟩
set_option maxHeartbeats 1000000 in
set_option maxRecDepth 100000 in
theorem c_X5_carryOut0 (l : Launch) {D : va_G} {ct : Nat → ClassId} {ek ad : Nat → Nat} {N0 : Nat} {X : va_W} {F : State → Prop} (σ : Mem) (cs : Nat → Nat) (hF : ∀ U, F U → FX ek cs N0 U) (ho : Nat) (hho : isH ho) (cb : Nat) (hcb : isC cb) (n : Nat) (mb : Nat) (hO : HOK σ ho n mb) (hk0 : σ cb 0 = nI 0) : MV l yX5_carryOut cX5_carryOut 2 6 D ct ek ad N0 X F [.ref (ad ho), .ref (ad cb)] σ (fun τ => τ = admM σ ho n cb 0) := by
  refine ms0 (own := RX5) (by decide) rfl (Nat.le_of_ble_eq_true rfl) (fun p e s m args below meth c S hr hlocks hnm G hP hS ls hl => ?_)
  have hx := S.1
  have hb := S.2.1
  replace hl : lv_has ls 2 [(0, .ref (ad ho)), (1, .ref (ad cb))] := hl
  have FC := hF s G.2.2.2.2.2
  refine va_gets (A := fr N0) hx hb FC.sw hS S.2.2.2.1 (S.2.2.2.2 _ fl_RX5_40) (fun _ h => h) dX5_carryOut_0 ?_
  refine lv_aload_n hx hb dX5_carryOut_3 rfl (lv_at hl 1 rfl) ?_
  refine gfN S G hP cb 0 (isC_lt hcb) (oC hcb) rfl inX3 (by decide) nw_RX5_46 rfl (kE hk0 (show 0 < 8 by decide)) dX5_carryOut_4 ?_
  refine cOrd hF S G FC (show 0 < 8 by decide) hP hS hl.1 rfl (by decide) (Nat.le_of_ble_eq_true rfl) ⟨Nat.zero_le _, Nat.zero_le _⟩ dX5_carryOut_7 (fun H locs hP hS => ?_)
  refine kild (A := fr N0) (f := fun j => nI (j + 1)) hx hb FC.swT hS 0 rfl (by decide) (by decide) dX5_carryOut_10 ?_
  refine lv_tableIn (off := 45) (tgt := 56) hx hb dX5_carryOut_11 (by rw [show nI (0 + 1) = 1 from (by decide)]; decide) (by rw [show nI (0 + 1) = 1 from (by decide)]; decide) (by rw [show nI (0 + 1) = 1 from (by decide)]; rfl) (by decide) ?_
  refine lv_aload_n hx hb dX5_carryOut_56 rfl (lv_at hl 0 rfl) ?_
  refine lv_aload_n hx hb dX5_carryOut_57 rfl (lv_at hl 1 rfl) ?_
  refine lv_iconst (v := 0) hx hb dX5_carryOut_58 (by decide) ?_
  refine cVve (As := [.ref (ad cb), .int 0]) S G ho (c_X5_admit l (D := D) (ct := ct) (ek := ek) (ad := ad) (N0 := N0) (X := X) (F := F) σ ho hho cb hcb 0 (by decide) n mb (by first | assumption | omega | (simp [sg_at]; assumption) | (simp [sg_at]; done))) ok_yX5_admit ml_RX5_58 (isHl0 hho) (oH hho) rfl hP hS hl.1 rfl (by decide) rfl rfl (Nat.le_of_ble_eq_true rfl) ⟨Nat.zero_le _, Nat.zero_le _⟩ dX5_carryOut_59 (fun H locs hP hS => ?_)
  refine lv_goto (tgt := 122) hx hb dX5_carryOut_62 (by decide) ?_
  exact eV S hr hlocks hP hS dX5_carryOut_122 (by first | rfl | (simp []; done) | (simp only [↓reduceIte, if_true, if_false]; done) | grind [])

set_option maxHeartbeats 1000000 in
set_option maxRecDepth 100000 in
theorem c_X5_carryOut1 (l : Launch) {D : va_G} {ct : Nat → ClassId} {ek ad : Nat → Nat} {N0 : Nat} {X : va_W} {F : State → Prop} (σ : Mem) (cs : Nat → Nat) (hF : ∀ U, F U → FX ek cs N0 U) (ho : Nat) (hho : isH ho) (cb : Nat) (hcb : isC cb) (n : Nat) (mb : Nat) (hO : HOK σ ho n mb) (hk0 : σ cb 0 = nI 1) : MV l yX5_carryOut cX5_carryOut 2 6 D ct ek ad N0 X F [.ref (ad ho), .ref (ad cb)] σ (fun τ => τ = admM σ ho n cb 1) := by
  refine ms0 (own := RX5) (by decide) rfl (Nat.le_of_ble_eq_true rfl) (fun p e s m args below meth c S hr hlocks hnm G hP hS ls hl => ?_)
  have hx := S.1
  have hb := S.2.1
  replace hl : lv_has ls 2 [(0, .ref (ad ho)), (1, .ref (ad cb))] := hl
  have FC := hF s G.2.2.2.2.2
  refine va_gets (A := fr N0) hx hb FC.sw hS S.2.2.2.1 (S.2.2.2.2 _ fl_RX5_40) (fun _ h => h) dX5_carryOut_0 ?_
  refine lv_aload_n hx hb dX5_carryOut_3 rfl (lv_at hl 1 rfl) ?_
  refine gfN S G hP cb 0 (isC_lt hcb) (oC hcb) rfl inX3 (by decide) nw_RX5_46 rfl (kE hk0 (show 1 < 8 by decide)) dX5_carryOut_4 ?_
  refine cOrd hF S G FC (show 1 < 8 by decide) hP hS hl.1 rfl (by decide) (Nat.le_of_ble_eq_true rfl) ⟨Nat.zero_le _, Nat.zero_le _⟩ dX5_carryOut_7 (fun H locs hP hS => ?_)
  refine kild (A := fr N0) (f := fun j => nI (j + 1)) hx hb FC.swT hS 1 rfl (by decide) (by decide) dX5_carryOut_10 ?_
  refine lv_tableIn (off := 54) (tgt := 65) hx hb dX5_carryOut_11 (by rw [show nI (1 + 1) = 2 from (by decide)]; decide) (by rw [show nI (1 + 1) = 2 from (by decide)]; decide) (by rw [show nI (1 + 1) = 2 from (by decide)]; rfl) (by decide) ?_
  refine lv_aload_n hx hb dX5_carryOut_65 rfl (lv_at hl 0 rfl) ?_
  refine lv_aload_n hx hb dX5_carryOut_66 rfl (lv_at hl 1 rfl) ?_
  refine lv_iconst (v := 1) hx hb dX5_carryOut_67 (by decide) ?_
  refine cVve (As := [.ref (ad cb), .int 1]) S G ho (c_X5_admit l (D := D) (ct := ct) (ek := ek) (ad := ad) (N0 := N0) (X := X) (F := F) σ ho hho cb hcb 1 (by decide) n mb (by first | assumption | omega | (simp [sg_at]; assumption) | (simp [sg_at]; done))) ok_yX5_admit ml_RX5_58 (isHl0 hho) (oH hho) rfl hP hS hl.1 rfl (by decide) rfl rfl (Nat.le_of_ble_eq_true rfl) ⟨Nat.zero_le _, Nat.zero_le _⟩ dX5_carryOut_68 (fun H locs hP hS => ?_)
  refine lv_goto (tgt := 122) hx hb dX5_carryOut_71 (by decide) ?_
  exact eV S hr hlocks hP hS dX5_carryOut_122 (by first | rfl | (simp []; done) | (simp only [↓reduceIte, if_true, if_false]; done) | grind [])

set_option maxHeartbeats 1000000 in
set_option maxRecDepth 100000 in
theorem c_X5_carryOut2 (l : Launch) {D : va_G} {ct : Nat → ClassId} {ek ad : Nat → Nat} {N0 : Nat} {X : va_W} {F : State → Prop} (σ : Mem) (cs : Nat → Nat) (hF : ∀ U, F U → FX ek cs N0 U) (ho : Nat) (hho : isH ho) (cb : Nat) (hcb : isC cb) (n : Nat) (mb : Nat) (hO : HOK σ ho n mb) (hk0 : σ cb 0 = nI 2) : MV l yX5_carryOut cX5_carryOut 2 6 D ct ek ad N0 X F [.ref (ad ho), .ref (ad cb)] σ (fun τ => τ = friM σ ho cb) := by
  refine ms0 (own := RX5) (by decide) rfl (Nat.le_of_ble_eq_true rfl) (fun p e s m args below meth c S hr hlocks hnm G hP hS ls hl => ?_)
  have hx := S.1
  have hb := S.2.1
  replace hl : lv_has ls 2 [(0, .ref (ad ho)), (1, .ref (ad cb))] := hl
  have FC := hF s G.2.2.2.2.2
  refine va_gets (A := fr N0) hx hb FC.sw hS S.2.2.2.1 (S.2.2.2.2 _ fl_RX5_40) (fun _ h => h) dX5_carryOut_0 ?_
  refine lv_aload_n hx hb dX5_carryOut_3 rfl (lv_at hl 1 rfl) ?_
  refine gfN S G hP cb 0 (isC_lt hcb) (oC hcb) rfl inX3 (by decide) nw_RX5_46 rfl (kE hk0 (show 2 < 8 by decide)) dX5_carryOut_4 ?_
  refine cOrd hF S G FC (show 2 < 8 by decide) hP hS hl.1 rfl (by decide) (Nat.le_of_ble_eq_true rfl) ⟨Nat.zero_le _, Nat.zero_le _⟩ dX5_carryOut_7 (fun H locs hP hS => ?_)
  refine kild (A := fr N0) (f := fun j => nI (j + 1)) hx hb FC.swT hS 2 rfl (by decide) (by decide) dX5_carryOut_10 ?_
  refine lv_tableIn (off := 63) (tgt := 74) hx hb dX5_carryOut_11 (by rw [show nI (2 + 1) = 3 from (by decide)]; decide) (by rw [show nI (2 + 1) = 3 from (by decide)]; decide) (by rw [show nI (2 + 1) = 3 from (by decide)]; rfl) (by decide) ?_
  refine lv_aload_n hx hb dX5_carryOut_74 rfl (lv_at hl 0 rfl) ?_
  refine lv_aload_n hx hb dX5_carryOut_75 rfl (lv_at hl 1 rfl) ?_
  refine cVve (As := [.ref (ad cb)]) S G ho (c_X5_befriend l (D := D) (ct := ct) (ek := ek) (ad := ad) (N0 := N0) (X := X) (F := F) σ ho hho cb hcb n mb (by first | assumption | omega | (simp [sg_at]; assumption) | (simp [sg_at]; done))) ok_yX5_befriend ml_RX5_62 (isHl0 hho) (oH hho) rfl hP hS hl.1 rfl (by decide) rfl rfl (Nat.le_of_ble_eq_true rfl) ⟨Nat.zero_le _, Nat.zero_le _⟩ dX5_carryOut_76 (fun H locs hP hS => ?_)
  refine lv_goto (tgt := 122) hx hb dX5_carryOut_79 (by decide) ?_
  exact eV S hr hlocks hP hS dX5_carryOut_122 (by first | rfl | (simp []; done) | (simp only [↓reduceIte, if_true, if_false]; done) | grind [])

set_option maxHeartbeats 1000000 in
set_option maxRecDepth 100000 in
theorem c_X5_carryOut3 (l : Launch) {D : va_G} {ct : Nat → ClassId} {ek ad : Nat → Nat} {N0 : Nat} {X : va_W} {F : State → Prop} (σ : Mem) (cs : Nat → Nat) (hF : ∀ U, F U → FX ek cs N0 U) (ho : Nat) (hho : isH ho) (cb : Nat) (hcb : isC cb) (n : Nat) (mb : Nat) (hO : HOK σ ho n mb) (hk0 : σ cb 0 = nI 3) : MV l yX5_carryOut cX5_carryOut 2 6 D ct ek ad N0 X F [.ref (ad ho), .ref (ad cb)] σ (fun τ => τ = rndM σ ho n mb cb) := by
  refine ms0 (own := RX5) (by decide) rfl (Nat.le_of_ble_eq_true rfl) (fun p e s m args below meth c S hr hlocks hnm G hP hS ls hl => ?_)
  have hx := S.1
  have hb := S.2.1
  replace hl : lv_has ls 2 [(0, .ref (ad ho)), (1, .ref (ad cb))] := hl
  have FC := hF s G.2.2.2.2.2
  refine va_gets (A := fr N0) hx hb FC.sw hS S.2.2.2.1 (S.2.2.2.2 _ fl_RX5_40) (fun _ h => h) dX5_carryOut_0 ?_
  refine lv_aload_n hx hb dX5_carryOut_3 rfl (lv_at hl 1 rfl) ?_
  refine gfN S G hP cb 0 (isC_lt hcb) (oC hcb) rfl inX3 (by decide) nw_RX5_46 rfl (kE hk0 (show 3 < 8 by decide)) dX5_carryOut_4 ?_
  refine cOrd hF S G FC (show 3 < 8 by decide) hP hS hl.1 rfl (by decide) (Nat.le_of_ble_eq_true rfl) ⟨Nat.zero_le _, Nat.zero_le _⟩ dX5_carryOut_7 (fun H locs hP hS => ?_)
  refine kild (A := fr N0) (f := fun j => nI (j + 1)) hx hb FC.swT hS 3 rfl (by decide) (by decide) dX5_carryOut_10 ?_
  refine lv_tableIn (off := 71) (tgt := 82) hx hb dX5_carryOut_11 (by rw [show nI (3 + 1) = 4 from (by decide)]; decide) (by rw [show nI (3 + 1) = 4 from (by decide)]; decide) (by rw [show nI (3 + 1) = 4 from (by decide)]; rfl) (by decide) ?_
  refine lv_aload_n hx hb dX5_carryOut_82 rfl (lv_at hl 0 rfl) ?_
  refine lv_aload_n hx hb dX5_carryOut_83 rfl (lv_at hl 1 rfl) ?_
  refine cVve (As := [.ref (ad cb)]) S G ho (c_X5_passRound l (D := D) (ct := ct) (ek := ek) (ad := ad) (N0 := N0) (X := X) (F := F) σ ho hho cb hcb n mb (by first | assumption | omega | (simp [sg_at]; assumption) | (simp [sg_at]; done))) ok_yX5_passRound ml_RX5_66 (isHl0 hho) (oH hho) rfl hP hS hl.1 rfl (by decide) rfl rfl (Nat.le_of_ble_eq_true rfl) ⟨Nat.zero_le _, Nat.zero_le _⟩ dX5_carryOut_84 (fun H locs hP hS => ?_)
  refine lv_goto (tgt := 122) hx hb dX5_carryOut_87 (by decide) ?_
  exact eV S hr hlocks hP hS dX5_carryOut_122 (by first | rfl | (simp []; done) | (simp only [↓reduceIte, if_true, if_false]; done) | grind [])

set_option maxHeartbeats 1000000 in
set_option maxRecDepth 100000 in
theorem c_X5_carryOut4 (l : Launch) {D : va_G} {ct : Nat → ClassId} {ek ad : Nat → Nat} {N0 : Nat} {X : va_W} {F : State → Prop} (σ : Mem) (cs : Nat → Nat) (hF : ∀ U, F U → FX ek cs N0 U) (ho : Nat) (hho : isH ho) (cb : Nat) (hcb : isC cb) (n : Nat) (mb : Nat) (hO : HOK σ ho n mb) (hk0 : σ cb 0 = nI 4) : MV l yX5_carryOut cX5_carryOut 2 6 D ct ek ad N0 X F [.ref (ad ho), .ref (ad cb)] σ (fun τ => τ = telM σ ho cb) := by
  refine ms0 (own := RX5) (by decide) rfl (Nat.le_of_ble_eq_true rfl) (fun p e s m args below meth c S hr hlocks hnm G hP hS ls hl => ?_)
  have hx := S.1
  have hb := S.2.1
  replace hl : lv_has ls 2 [(0, .ref (ad ho)), (1, .ref (ad cb))] := hl
  have FC := hF s G.2.2.2.2.2
  refine va_gets (A := fr N0) hx hb FC.sw hS S.2.2.2.1 (S.2.2.2.2 _ fl_RX5_40) (fun _ h => h) dX5_carryOut_0 ?_
  refine lv_aload_n hx hb dX5_carryOut_3 rfl (lv_at hl 1 rfl) ?_
  refine gfN S G hP cb 0 (isC_lt hcb) (oC hcb) rfl inX3 (by decide) nw_RX5_46 rfl (kE hk0 (show 4 < 8 by decide)) dX5_carryOut_4 ?_
  refine cOrd hF S G FC (show 4 < 8 by decide) hP hS hl.1 rfl (by decide) (Nat.le_of_ble_eq_true rfl) ⟨Nat.zero_le _, Nat.zero_le _⟩ dX5_carryOut_7 (fun H locs hP hS => ?_)
  refine kild (A := fr N0) (f := fun j => nI (j + 1)) hx hb FC.swT hS 4 rfl (by decide) (by decide) dX5_carryOut_10 ?_
  refine lv_tableIn (off := 79) (tgt := 90) hx hb dX5_carryOut_11 (by rw [show nI (4 + 1) = 5 from (by decide)]; decide) (by rw [show nI (4 + 1) = 5 from (by decide)]; decide) (by rw [show nI (4 + 1) = 5 from (by decide)]; rfl) (by decide) ?_
  refine lv_aload_n hx hb dX5_carryOut_90 rfl (lv_at hl 0 rfl) ?_
  refine lv_aload_n hx hb dX5_carryOut_91 rfl (lv_at hl 1 rfl) ?_
  refine cVve (As := [.ref (ad cb)]) S G ho (c_X5_tell l (D := D) (ct := ct) (ek := ek) (ad := ad) (N0 := N0) (X := X) (F := F) σ ho hho cb hcb n mb (by first | assumption | omega | (simp [sg_at]; assumption) | (simp [sg_at]; done))) ok_yX5_tell ml_RX5_69 (isHl0 hho) (oH hho) rfl hP hS hl.1 rfl (by decide) rfl rfl (Nat.le_of_ble_eq_true rfl) ⟨Nat.zero_le _, Nat.zero_le _⟩ dX5_carryOut_92 (fun H locs hP hS => ?_)
  refine lv_goto (tgt := 122) hx hb dX5_carryOut_95 (by decide) ?_
  exact eV S hr hlocks hP hS dX5_carryOut_122 (by first | rfl | (simp []; done) | (simp only [↓reduceIte, if_true, if_false]; done) | grind [])

set_option maxHeartbeats 1000000 in
set_option maxRecDepth 100000 in
theorem c_X5_carryOut5 (l : Launch) {D : va_G} {ct : Nat → ClassId} {ek ad : Nat → Nat} {N0 : Nat} {X : va_W} {F : State → Prop} (σ : Mem) (cs : Nat → Nat) (hF : ∀ U, F U → FX ek cs N0 U) (ho : Nat) (hho : isH ho) (cb : Nat) (hcb : isC cb) (n : Nat) (mb : Nat) (hO : HOK σ ho n mb) (hk0 : σ cb 0 = nI 5) : MV l yX5_carryOut cX5_carryOut 2 6 D ct ek ad N0 X F [.ref (ad ho), .ref (ad cb)] σ (fun τ => τ = putM σ ho mb cb) := by
  refine ms0 (own := RX5) (by decide) rfl (Nat.le_of_ble_eq_true rfl) (fun p e s m args below meth c S hr hlocks hnm G hP hS ls hl => ?_)
  have hx := S.1
  have hb := S.2.1
  replace hl : lv_has ls 2 [(0, .ref (ad ho)), (1, .ref (ad cb))] := hl
  have FC := hF s G.2.2.2.2.2
  refine va_gets (A := fr N0) hx hb FC.sw hS S.2.2.2.1 (S.2.2.2.2 _ fl_RX5_40) (fun _ h => h) dX5_carryOut_0 ?_
  refine lv_aload_n hx hb dX5_carryOut_3 rfl (lv_at hl 1 rfl) ?_
  refine gfN S G hP cb 0 (isC_lt hcb) (oC hcb) rfl inX3 (by decide) nw_RX5_46 rfl (kE hk0 (show 5 < 8 by decide)) dX5_carryOut_4 ?_
  refine cOrd hF S G FC (show 5 < 8 by decide) hP hS hl.1 rfl (by decide) (Nat.le_of_ble_eq_true rfl) ⟨Nat.zero_le _, Nat.zero_le _⟩ dX5_carryOut_7 (fun H locs hP hS => ?_)
  refine kild (A := fr N0) (f := fun j => nI (j + 1)) hx hb FC.swT hS 5 rfl (by decide) (by decide) dX5_carryOut_10 ?_
  refine lv_tableIn (off := 87) (tgt := 98) hx hb dX5_carryOut_11 (by rw [show nI (5 + 1) = 6 from (by decide)]; decide) (by rw [show nI (5 + 1) = 6 from (by decide)]; decide) (by rw [show nI (5 + 1) = 6 from (by decide)]; rfl) (by decide) ?_
  refine lv_aload_n hx hb dX5_carryOut_98 rfl (lv_at hl 0 rfl) ?_
  refine lv_aload_n hx hb dX5_carryOut_99 rfl (lv_at hl 1 rfl) ?_
  refine cVve (As := [.ref (ad cb)]) S G ho (c_X5_putBeam l (D := D) (ct := ct) (ek := ek) (ad := ad) (N0 := N0) (X := X) (F := F) σ ho hho cb hcb n mb (by first | assumption | omega | (simp [sg_at]; assumption) | (simp [sg_at]; done))) ok_yX5_putBeam ml_RX5_72 (isHl0 hho) (oH hho) rfl hP hS hl.1 rfl (by decide) rfl rfl (Nat.le_of_ble_eq_true rfl) ⟨Nat.zero_le _, Nat.zero_le _⟩ dX5_carryOut_100 (fun H locs hP hS => ?_)
  refine lv_goto (tgt := 122) hx hb dX5_carryOut_103 (by decide) ?_
  exact eV S hr hlocks hP hS dX5_carryOut_122 (by first | rfl | (simp []; done) | (simp only [↓reduceIte, if_true, if_false]; done) | grind [])

set_option maxHeartbeats 1000000 in
set_option maxRecDepth 100000 in
theorem c_X5_carryOut6 (l : Launch) {D : va_G} {ct : Nat → ClassId} {ek ad : Nat → Nat} {N0 : Nat} {X : va_W} {F : State → Prop} (σ : Mem) (cs : Nat → Nat) (hF : ∀ U, F U → FX ek cs N0 U) (ho : Nat) (hho : isH ho) (cb : Nat) (hcb : isC cb) (n : Nat) (mb : Nat) (hO : HOK σ ho n mb) (hk0 : σ cb 0 = nI 6) : MV l yX5_carryOut cX5_carryOut 2 6 D ct ek ad N0 X F [.ref (ad ho), .ref (ad cb)] σ (fun τ => τ = remM σ ho mb cb) := by
  refine ms0 (own := RX5) (by decide) rfl (Nat.le_of_ble_eq_true rfl) (fun p e s m args below meth c S hr hlocks hnm G hP hS ls hl => ?_)
  have hx := S.1
  have hb := S.2.1
  replace hl : lv_has ls 2 [(0, .ref (ad ho)), (1, .ref (ad cb))] := hl
  have FC := hF s G.2.2.2.2.2
  refine va_gets (A := fr N0) hx hb FC.sw hS S.2.2.2.1 (S.2.2.2.2 _ fl_RX5_40) (fun _ h => h) dX5_carryOut_0 ?_
  refine lv_aload_n hx hb dX5_carryOut_3 rfl (lv_at hl 1 rfl) ?_
  refine gfN S G hP cb 0 (isC_lt hcb) (oC hcb) rfl inX3 (by decide) nw_RX5_46 rfl (kE hk0 (show 6 < 8 by decide)) dX5_carryOut_4 ?_
  refine cOrd hF S G FC (show 6 < 8 by decide) hP hS hl.1 rfl (by decide) (Nat.le_of_ble_eq_true rfl) ⟨Nat.zero_le _, Nat.zero_le _⟩ dX5_carryOut_7 (fun H locs hP hS => ?_)
  refine kild (A := fr N0) (f := fun j => nI (j + 1)) hx hb FC.swT hS 6 rfl (by decide) (by decide) dX5_carryOut_10 ?_
  refine lv_tableIn (off := 95) (tgt := 106) hx hb dX5_carryOut_11 (by rw [show nI (6 + 1) = 7 from (by decide)]; decide) (by rw [show nI (6 + 1) = 7 from (by decide)]; decide) (by rw [show nI (6 + 1) = 7 from (by decide)]; rfl) (by decide) ?_
  refine lv_aload_n hx hb dX5_carryOut_106 rfl (lv_at hl 0 rfl) ?_
  refine lv_aload_n hx hb dX5_carryOut_107 rfl (lv_at hl 1 rfl) ?_
  refine cVve (As := [.ref (ad cb)]) S G ho (c_X5_takeBeam l (D := D) (ct := ct) (ek := ek) (ad := ad) (N0 := N0) (X := X) (F := F) σ ho hho cb hcb n mb (by first | assumption | omega | (simp [sg_at]; assumption) | (simp [sg_at]; done))) ok_yX5_takeBeam ml_RX5_75 (isHl0 hho) (oH hho) rfl hP hS hl.1 rfl (by decide) rfl rfl (Nat.le_of_ble_eq_true rfl) ⟨Nat.zero_le _, Nat.zero_le _⟩ dX5_carryOut_108 (fun H locs hP hS => ?_)
  refine lv_goto (tgt := 122) hx hb dX5_carryOut_111 (by decide) ?_
  exact eV S hr hlocks hP hS dX5_carryOut_122 (by first | rfl | (simp []; done) | (simp only [↓reduceIte, if_true, if_false]; done) | grind [])

set_option maxHeartbeats 1000000 in
set_option maxRecDepth 100000 in
theorem c_X5_carryOut7 (l : Launch) {D : va_G} {ct : Nat → ClassId} {ek ad : Nat → Nat} {N0 : Nat} {X : va_W} {F : State → Prop} (σ : Mem) (cs : Nat → Nat) (hF : ∀ U, F U → FX ek cs N0 U) (ho : Nat) (hho : isH ho) (cb : Nat) (hcb : isC cb) (n : Nat) (mb : Nat) (hO : HOK σ ho n mb) (hk0 : σ cb 0 = nI 7) : MV l yX5_carryOut cX5_carryOut 2 6 D ct ek ad N0 X F [.ref (ad ho), .ref (ad cb)] σ (fun τ => τ = habM σ ho cb) := by
  refine ms0 (own := RX5) (by decide) rfl (Nat.le_of_ble_eq_true rfl) (fun p e s m args below meth c S hr hlocks hnm G hP hS ls hl => ?_)
  have hx := S.1
  have hb := S.2.1
  replace hl : lv_has ls 2 [(0, .ref (ad ho)), (1, .ref (ad cb))] := hl
  have FC := hF s G.2.2.2.2.2
  refine va_gets (A := fr N0) hx hb FC.sw hS S.2.2.2.1 (S.2.2.2.2 _ fl_RX5_40) (fun _ h => h) dX5_carryOut_0 ?_
  refine lv_aload_n hx hb dX5_carryOut_3 rfl (lv_at hl 1 rfl) ?_
  refine gfN S G hP cb 0 (isC_lt hcb) (oC hcb) rfl inX3 (by decide) nw_RX5_46 rfl (kE hk0 (show 7 < 8 by decide)) dX5_carryOut_4 ?_
  refine cOrd hF S G FC (show 7 < 8 by decide) hP hS hl.1 rfl (by decide) (Nat.le_of_ble_eq_true rfl) ⟨Nat.zero_le _, Nat.zero_le _⟩ dX5_carryOut_7 (fun H locs hP hS => ?_)
  refine kild (A := fr N0) (f := fun j => nI (j + 1)) hx hb FC.swT hS 7 rfl (by decide) (by decide) dX5_carryOut_10 ?_
  refine lv_tableIn (off := 103) (tgt := 114) hx hb dX5_carryOut_11 (by rw [show nI (7 + 1) = 8 from (by decide)]; decide) (by rw [show nI (7 + 1) = 8 from (by decide)]; decide) (by rw [show nI (7 + 1) = 8 from (by decide)]; rfl) (by decide) ?_
  refine lv_aload_n hx hb dX5_carryOut_114 rfl (lv_at hl 0 rfl) ?_
  refine lv_aload_n hx hb dX5_carryOut_115 rfl (lv_at hl 1 rfl) ?_
  refine cVve (As := [.ref (ad cb)]) S G ho (c_X5_setHabit l (D := D) (ct := ct) (ek := ek) (ad := ad) (N0 := N0) (X := X) (F := F) σ ho hho cb hcb n mb (by first | assumption | omega | (simp [sg_at]; assumption) | (simp [sg_at]; done))) ok_yX5_setHabit ml_RX5_78 (isHl0 hho) (oH hho) rfl hP hS hl.1 rfl (by decide) rfl rfl (Nat.le_of_ble_eq_true rfl) ⟨Nat.zero_le _, Nat.zero_le _⟩ dX5_carryOut_116 (fun H locs hP hS => ?_)
  refine lv_goto (tgt := 122) hx hb dX5_carryOut_119 (by decide) ?_
  exact eV S hr hlocks hP hS dX5_carryOut_122 (by first | rfl | (simp []; done) | (simp only [↓reduceIte, if_true, if_false]; done) | grind [])
theorem c_X5_carryOut (l : Launch) {D : va_G} {ct : Nat → ClassId} {ek ad : Nat → Nat} {N0 : Nat} {X : va_W} {F : State → Prop} (σ : Mem) (cs : Nat → Nat) (hF : ∀ U, F U → FX ek cs N0 U) (ho : Nat) (hho : isH ho) (cb : Nat) (hcb : isC cb) (n mb : Nat) (hO : HOK σ ho n mb) (j : Nat) (hj : j < 8) (hk0 : σ cb 0 = nI j) : MV l yX5_carryOut cX5_carryOut 2 6 D ct ek ad N0 X F [.ref (ad ho), .ref (ad cb)] σ (fun τ => τ = carH σ ho n mb cb j) := by
  rcases (show j = 0 ∨ j = 1 ∨ j = 2 ∨ j = 3 ∨ j = 4 ∨ j = 5 ∨ j = 6 ∨ j = 7 by omega) with rfl | rfl | rfl | rfl | rfl | rfl | rfl | rfl
  · exact c_X5_carryOut0 l σ cs hF ho hho cb hcb n mb hO hk0
  · exact c_X5_carryOut1 l σ cs hF ho hho cb hcb n mb hO hk0
  · exact c_X5_carryOut2 l σ cs hF ho hho cb hcb n mb hO hk0
  · exact c_X5_carryOut3 l σ cs hF ho hho cb hcb n mb hO hk0
  · exact c_X5_carryOut4 l σ cs hF ho hho cb hcb n mb hO hk0
  · exact c_X5_carryOut5 l σ cs hF ho hho cb hcb n mb hO hk0
  · exact c_X5_carryOut6 l σ cs hF ho hho cb hcb n mb hO hk0
  · exact c_X5_carryOut7 l σ cs hF ho hho cb hcb n mb hO hk0

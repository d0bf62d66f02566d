/-! the law, from its second object on (laid by wip/p43/spec_lo.py) -/
set_option maxHeartbeats 40000000 in
set_option maxRecDepth 100000 in
/-- from the second object on -/
theorem law_o {p : Program} {l : Launch} {e : Env} {s : State} {m : MethodId} {below : List Frame} {meth : Method} {c : Code} {Q : State → Prop} {D : va_G} {ct : Nat → ClassId} {ek ad : Nat → Nat} {N0 : Nat} {F : State → Prop} {cs : Nat → Nat} {b LL dg : Nat} {xs : Nat → Int32} (S : CallFix p m c cL_law 11 s #[.ref b] BW RL) (hF : ∀ U, F U → FX ek cs N0 U) (hY : ∀ U, F U → FY U) (hZ : ∀ U, F U → SBF dg N0 U) (hCX : ∀ U, F U → CX ct U) (hSX : ∀ U, F U → SX b LL xs N0 U) (hLL : LL ≤ 260) (hlt : l.stackTraces = false) (G : GI D ct ek ad N0 [] F s)
    (kE : ∀ (H : Heap) (locs : List Loc) (ls : Array Slot) (cells slots : Nat), va_S (fr N0) s.heap H locs → cells ≤ room_1.cells ∧ slots ≤ room_1.slots → W p l e room_1 s m #[.ref b] below meth c H locs cells slots Q (F0 m 787 ls [.int 1])) :
    ∀ (H : Heap) (locs : List Loc) (ls : Array Slot), wG D ct ek ad [] M0 H → va_S (fr N0) s.heap H locs → lv_has ls 11 [(2, .ref (ad 0)), (0, .ref b)] → W p l e room_1 s m #[.ref b] below meth c H locs 1000 (6 * 1000) Q (F0 m 537 ls []) := by
  intro H locs ls hP hS hl
  have hx := S.1
  have hb := S.2.1
  have X0 := G.x hCX
  have hI0 : MkI M0 0 0 := ⟨by decide, by decide, by decide⟩
  refine lv_aload_n hx hb dL_law_537 rfl (lv_at hl 0 rfl) ?_
  refine lv_aload_n hx hb dL_law_538 rfl (lv_at hl 1 rfl) ?_
  refine gcS (As := [.ref (ad 0), .ref b]) 1050 S G (k_makes l cs hF hY hlt M0 b LL xs (by first | assumption | omega | decide) (by first | assumption | omega | decide) (by first | assumption | omega | decide)) cks_yL_makes ml_RL_299 hP hS hl.1 ⟨by decide, by decide⟩ rfl (by rfl) (Nat.le_of_ble_eq_true rfl) ⟨by omega, (by show _ ≤ 600390; omega), (by show _ ≤ 7289640; omega)⟩ dL_law_539 (fun r_1 ν_2 H locs hq_3 hP hS => ?_)
  obtain ⟨erM, hM2, hML⟩ := hq_3
  obtain ⟨σM, -, CM⟩ := id hP
  obtain ⟨hh, ehh⟩ : ∃ hh : Nat → Int32, hh = ν_2 277 := ⟨_, rfl⟩
  have hA : OA ν_2 hh := ⟨fun _ _ => by rw [ehh], hM2, by rw [CM.gt.2.2.1, hML]; rfl⟩
  have hh2 : 2 ≤ tN (hh 0) := by rw [ehh]; exact hM2
  refine lv_tope (y := 1) erM ?_
  refine lv_if_ne (tgt := 547) hx hb dL_law_542 (by decide) (fun c_542 => ?_) (fun c_542 => absurd c_542 (by decide))
  refine lv_aload_n hx hb dL_law_547 rfl (lv_at hl 0 rfl) ?_
  refine gAsk 2050 S G hF hY hlt ml_RL_266 hA.n0 hP hS hl.1 ⟨by decide, by decide⟩ (Nat.le_of_ble_eq_true rfl) ⟨by omega, (by show _ ≤ 600390; omega), (by show _ ≤ 7289640; omega)⟩ dL_law_548 (fun ν_4 H locs hE_5 hP hS => ?_)
  rw [show aS ν_2 = aR hh from hA.s]
  have hA1 := hA.e hE_5
  refine lv_lstore_n (lv' := [(3, .long (aR hh)), (2, .ref (ad 0)), (0, .ref b)]) hx hb dL_law_551 rfl hl (by decide) rfl (fun ls hl => ?_)
  refine lv_aload_n hx hb dL_law_552 rfl (lv_at hl 1 rfl) ?_
  refine gAsk 3050 S G hF hY hlt ml_RL_266 hA1.n0 hP hS hl.1 ⟨by decide, by decide⟩ (Nat.le_of_ble_eq_true rfl) ⟨by omega, (by show _ ≤ 600390; omega), (by show _ ≤ 7289640; omega)⟩ dL_law_553 (fun ν_6 H locs hE_7 hP hS => ?_)
  rw [show aS ν_4 = aR hh from hA1.s]
  have hA2 := hA1.e hE_7
  refine lv_lload_n hx hb dL_law_556 rfl (lv_at hl 0 rfl) ?_
  refine W.lcmp hx hb dL_law_557 ?_
  refine lv_if_ne (tgt := 568) hx hb dL_law_558 (by decide) (fun c_558 => absurd lg_rf c_558) (fun c_558 => ?_)
  refine lv_aload_n hx hb dL_law_561 rfl (lv_at hl 1 rfl) ?_
  refine gcS (As := [.ref (ad 0)]) 6450 S G (k_refused l cs hF hY hlt ν_6 dg (by first | assumption | omega | decide) (by first | assumption | omega | decide) hA2.2.1 hA2.2.2) cks_yL_refused ml_RL_303 hP hS hl.1 ⟨by decide, by decide⟩ rfl (by rfl) (Nat.le_of_ble_eq_true rfl) ⟨by omega, (by show _ ≤ 600390; omega), (by show _ ≤ 7289640; omega)⟩ dL_law_562 (fun r_8 ν_9 H locs hq_10 hP hS => ?_)
  obtain ⟨erR, hE3⟩ := hq_10
  have hA3 := hA2.e hE3
  refine lv_tope (y := 1) erR ?_
  refine lv_if_ne (tgt := 570) hx hb dL_law_565 (by decide) (fun c_565 => ?_) (fun c_565 => absurd c_565 (by decide))
  refine lv_aload_n hx hb dL_law_570 rfl (lv_at hl 1 rfl) ?_
  refine gcV (As := []) (fs := []) (gp := fun r ν => r = ν_9 277 0 ∧ ν = savM ν_9) S G 0 (post := fun σ r τ => SavQ τ σ ∧ r = σ (1 + 1) 7) (fun σ C => c_X10_save l σ _ _ C.go) (fun σ r τ C h => sv_q C h) ok_yX10_save ml_RL_296 (by decide) oXe rfl hP hS hl.1 ⟨by decide, by decide⟩ rfl (by rfl) (Nat.le_of_ble_eq_true rfl) ⟨(by show _ ≤ 600390; omega), (by show _ ≤ 7289640; omega)⟩ dL_law_571 (fun r_11 ν_12 H locs hq_13 hP hS => ?_)
  obtain ⟨hq_13a, hq_13b⟩ := hq_13; subst r_11; subst ν_12
  have hB0 := hA3.sv
  refine lv_tope (y := hh 0) (hA3.1 0 (by decide)) ?_
  refine lv_istore (lv' := [(5, .int (hh 0)), (3, .long (aR hh)), (2, .ref (ad 0)), (0, .ref b)]) hx hb dL_law_574 hl (by decide) rfl (fun ls hl => ?_)
  refine lv_iload hx hb dL_law_576 (lv_at hl 0 rfl) ?_
  refine lv_aload_n hx hb dL_law_578 rfl (lv_at hl 2 rfl) ?_
  refine lv_iconst (v := 0) hx hb dL_law_579 (by decide) ?_
  refine gcH (As := [.ref (ad 0), .int 0]) 6451 S G (g_account l cs hF hY hlt (savM ν_9) (0)) ckh_account ml_RL_201 hP hS hl.1 ⟨by decide, by decide⟩ rfl (by rfl) (Nat.le_of_ble_eq_true rfl) ⟨by omega, (by show _ ≤ 600390; omega), (by show _ ≤ 7289640; omega)⟩ dL_law_580 (fun r_14 ν_15 H locs hq_16 hP hS => ?_)
  obtain ⟨hq_16a, hq_16b⟩ := hq_16; subst r_14; subst ν_15
  refine lv_tope (y := hh 0) (hA_0 (T := accT 0) rfl ((if_pos rfl).trans (hB0.1.1 0 (by decide)))) ?_
  refine lv_icmp_ne (tgt := 595) hx hb dL_law_583 (by decide) (fun c_583 => absurd rfl c_583) (fun c_583 => ?_)
  refine lv_aload_n hx hb dL_law_586 rfl (lv_at hl 2 rfl) ?_
  refine gAsk 7451 S G hF hY hlt ml_RL_266 hB0.1.n0 hP hS hl.1 ⟨by decide, by decide⟩ (Nat.le_of_ble_eq_true rfl) ⟨by omega, (by show _ ≤ 600390; omega), (by show _ ≤ 7289640; omega)⟩ dL_law_587 (fun ν_17 H locs hE_18 hP hS => ?_)
  rw [show aS (savM ν_9) = aR hh from hB0.1.s]
  have hB1 := hB0.e hE_18
  refine lv_lload_n hx hb dL_law_590 rfl (lv_at hl 1 rfl) ?_
  refine W.lcmp hx hb dL_law_591 ?_
  refine lv_if_eq (tgt := 597) hx hb dL_law_592 (by decide) (fun c_592 => ?_) (fun c_592 => absurd lg_rf c_592)
  refine lv_bipush (v := 9) hx hb dL_law_597 (by decide) ?_
  refine wa_nw 7453 S X0 G hP hS ⟨by omega, (by show _ ≤ 600390; omega), (by show _ ≤ 7289640; omega)⟩ dL_law_599 (fun qw H GW hP hS => ?_)
  refine lv_astore (lv' := [(6, .ref qw), (5, .int (hh 0)), (3, .long (aR hh)), (2, .ref (ad 0)), (0, .ref b)]) hx hb dL_law_601 hl (by decide) rfl (fun ls hl => ?_)
  refine lv_iconst (v := 0) hx hb dL_law_603 (by decide) ?_
  refine lv_istore (lv' := [(7, .int 0), (6, .ref qw), (5, .int (hh 0)), (3, .long (aR hh)), (2, .ref (ad 0)), (0, .ref b)]) hx hb dL_law_604 hl (by decide) rfl (fun ls hl => ?_)
  obtain ⟨σB, -, CB⟩ := id hP
  have hu8 := CB.gj.2.2.2.1
  refine lv_iconst (v := 0) hx hb dL_law_606 (by decide) ?_
  refine lv_istore (lv' := [(8, .int 0), (7, .int 0), (6, .ref qw), (5, .int (hh 0)), (3, .long (aR hh)), (2, .ref (ad 0)), (0, .ref b)]) hx hb dL_law_607 hl (by decide) rfl (fun ls hl => ?_)
  have key_609 : ∀ (d k : Nat), k + d = 8 → ∀ (dd : Nat), ∀ (v : Nat → Int64), ∀ (ν : Mem), (OI ν hh k dd v) → ∀ (H : Heap) (locs : List Loc) (ls : Array Slot), wG D ct ek ad (waX ct qw v) ν H → va_S (fr N0) s.heap H locs → lv_has ls 11 [(8, .int (nI k)), (7, .int (nI dd)), (6, .ref qw), (5, .int (hh 0)), (3, .long (aR hh)), (2, .ref (ad 0)), (0, .ref b)] → W p l e room_1 s m #[.ref b] below meth c H locs (2200 * k + 8000) (6 * (2200 * k + 8000)) Q (F0 m 609 ls []) := by
    intro d
    induction d with
    | zero =>
      intro k9 hk
      obtain rfl : 8 = k9 := by omega
      intro dd v ν hν H locs ls hP hS hl
      refine lv_iload hx hb dL_law_609 (lv_at hl 0 rfl) ?_
      refine lv_bipush (v := 8) hx hb dL_law_611 (by decide) ?_
      refine lv_icmp_ge (tgt := 676) hx hb dL_law_613 (by decide) (fun c_613 => ?_) (fun c_613 => absurd (nI_le (a := 8) (b := 8) (by decide) (by decide)) c_613)
      refine lv_iconst (v := 1) hx hb dL_law_676 (by decide) ?_
      refine lv_istore (lv' := [(8, .int 1), (7, .int (nI dd)), (6, .ref qw), (5, .int (hh 0)), (3, .long (aR hh)), (2, .ref (ad 0)), (0, .ref b)]) hx hb dL_law_677 hl (by decide) rfl (fun ls hl => ?_)
      have key_679 : ∀ (d k : Nat), k + d = dd → ∀ (νu : Mem), (OU νu hh (gu ν) dd k v) → ∀ (H : Heap) (locs : List Loc) (ls : Array Slot), wG D ct ek ad (waX ct qw v) νu H → va_S (fr N0) s.heap H locs → lv_has ls 11 [(8, .int (nI (k + 1))), (7, .int (nI dd)), (6, .ref qw), (5, .int (hh 0)), (3, .long (aR hh)), (2, .ref (ad 0)), (0, .ref b)] → W p l e room_1 s m #[.ref b] below meth c H locs (1100 * k + 25610) (6 * (1100 * k + 25610)) Q (F0 m 679 ls []) := by
        intro d
        induction d with
        | zero =>
          intro k9 hk
          obtain rfl : dd = k9 := by omega
          intro νu hνu H locs ls hP hS hl
          have hd1 := hνu.2.1
          have hd2 := hνu.2.2.1
          have hd8 := hνu.2.2.2.1
          refine lv_iload hx hb dL_law_679 (lv_at hl 0 rfl) ?_
          refine lv_iload hx hb dL_law_681 (lv_at hl 1 rfl) ?_
          refine lv_icmp_gt (tgt := 736) hx hb dL_law_683 (by decide) (fun c_683 => ?_) (fun c_683 => absurd (nI_lt (by omega) (by omega)) c_683)
          refine lv_aload_n hx hb dL_law_736 rfl (lv_at hl 5 rfl) ?_
          refine gcH (As := [.ref (ad 0)]) (1100 * dd + 25611) S (GW _) (g_restore l cs hF hY hlt νu) ckh_restore ml_RL_294 hP hS hl.1 ⟨by decide, by decide⟩ rfl (by rfl) (Nat.le_of_ble_eq_true rfl) ⟨by omega, (by show _ ≤ 600390; omega), (by show _ ≤ 7289640; omega)⟩ dL_law_737 (fun r_19 ν_20 H locs hq_21 hP hS => ?_)
          obtain ⟨hq_21a, hq_21b⟩ := hq_21
          obtain ⟨p1, p2, p3⟩ := rs_B hνu.1.1 hνu.1.2.1 hνu.1.2.2 hh2
          rw [← hq_21b] at p2 p3
          have er9 := hq_21a.trans p1
          refine lv_tope (y := hh 0) er9 ?_
          refine lv_iload hx hb dL_law_740 (lv_at hl 3 rfl) ?_
          refine lv_icmp_ne (tgt := 786) hx hb dL_law_742 (by decide) (fun c_742 => absurd rfl c_742) (fun c_742 => ?_)
          refine lv_aload_n hx hb dL_law_745 rfl (lv_at hl 5 rfl) ?_
          refine gcH (As := [.ref (ad 0)]) (1100 * dd + 25612) S (GW _) (g_undo l cs hF hY hlt ν_20) ckh_undo ml_RL_292 hP hS hl.1 ⟨by decide, by decide⟩ rfl (by rfl) (Nat.le_of_ble_eq_true rfl) ⟨by omega, (by show _ ≤ 600390; omega), (by show _ ≤ 7289640; omega)⟩ dL_law_746 (fun r_22 ν_23 H locs hq_24 hP hS => ?_)
          obtain ⟨hq_24a, hq_24b⟩ := hq_24
          obtain ⟨z1, z2⟩ := un_z p3
          have eu8 := hq_24a.trans z1
          have p5 : OB ν_23 hh := by rw [hq_24b, z2]; exact p2
          refine lv_tope (y := (-1001)) eu8 ?_
          refine lv_sipush (v := (-1001)) hx hb dL_law_749 (by decide) ?_
          refine lv_icmp_ne (tgt := 786) hx hb dL_law_752 (by decide) (fun c_752 => absurd (by decide) c_752) (fun c_752 => ?_)
          refine lv_aload_n hx hb dL_law_755 rfl (lv_at hl 5 rfl) ?_
          refine gAsk (1100 * dd + 26612) S (GW _) hF hY hlt ml_RL_266 p5.1.n0 hP hS hl.1 ⟨by decide, by decide⟩ (Nat.le_of_ble_eq_true rfl) ⟨by omega, (by show _ ≤ 600390; omega), (by show _ ≤ 7289640; omega)⟩ dL_law_756 (fun ν_25 H locs hE_26 hP hS => ?_)
          rw [show aS ν_23 = aR hh from p5.1.s]
          have p6 := p5.e hE_26
          refine lv_lload_n hx hb dL_law_759 rfl (lv_at hl 4 rfl) ?_
          refine W.lcmp hx hb dL_law_760 ?_
          refine lv_if_ne (tgt := 786) hx hb dL_law_761 (by decide) (fun c_761 => absurd lg_rf c_761) (fun c_761 => ?_)
          refine lv_aload_n hx hb dL_law_764 rfl (lv_at hl 5 rfl) ?_
          refine gcH (As := [.ref (ad 0)]) (1100 * dd + 26613) S (GW _) (g_restore l cs hF hY hlt ν_25) ckh_restore ml_RL_294 hP hS hl.1 ⟨by decide, by decide⟩ rfl (by rfl) (Nat.le_of_ble_eq_true rfl) ⟨by omega, (by show _ ≤ 600390; omega), (by show _ ≤ 7289640; omega)⟩ dL_law_765 (fun r_27 ν_28 H locs hq_29 hP hS => ?_)
          obtain ⟨hq_29a, hq_29b⟩ := hq_29
          obtain ⟨q1, q2, q3⟩ := rs_B p6.2.1 p6.2.2 p6.1.2.2 hh2
          rw [← hq_29b] at q2 q3
          have er7 := hq_29a.trans q1
          refine lv_tope (y := hh 0) er7 ?_
          refine lv_iload hx hb dL_law_768 (lv_at hl 3 rfl) ?_
          refine lv_icmp_ne (tgt := 786) hx hb dL_law_770 (by decide) (fun c_770 => absurd rfl c_770) (fun c_770 => ?_)
          refine lv_aload_n hx hb dL_law_773 rfl (lv_at hl 5 rfl) ?_
          refine gAsk (1100 * dd + 27613) S (GW _) hF hY hlt ml_RL_266 q2.1.n0 hP hS hl.1 ⟨by decide, by decide⟩ (Nat.le_of_ble_eq_true rfl) ⟨by omega, (by show _ ≤ 600390; omega), (by show _ ≤ 7289640; omega)⟩ dL_law_774 (fun ν_30 H locs hE_31 hP hS => ?_)
          rw [show aS ν_28 = aR hh from q2.1.s]
          refine lv_lload_n hx hb dL_law_777 rfl (lv_at hl 4 rfl) ?_
          refine W.lcmp hx hb dL_law_778 ?_
          refine lv_if_ne (tgt := 786) hx hb dL_law_779 (by decide) (fun c_779 => absurd lg_rf c_779) (fun c_779 => ?_)
          refine lv_iconst (v := 1) hx hb dL_law_782 (by decide) ?_
          refine lv_goto (tgt := 787) hx hb dL_law_783 (by decide) ?_
          exact kE _ _ _ _ _ hS ⟨(by show _ ≤ 600390; omega), (by show _ ≤ 7289640; omega)⟩
        | succ d ih =>
          intro k hk νu hνu H locs ls hP hS hl
          have hkn : k < dd := by omega
          have hd1 := hνu.2.1
          have hd2 := hνu.2.2.1
          have hd8 := hνu.2.2.2.1
          refine lv_iload hx hb dL_law_679 (lv_at hl 0 rfl) ?_
          refine lv_iload hx hb dL_law_681 (lv_at hl 1 rfl) ?_
          refine lv_icmp_gt (tgt := 736) hx hb dL_law_683 (by decide) (fun c_683 => absurd c_683 (nI_nlt (by omega) (by omega))) (fun c_683 => ?_)
          refine lv_aload_n hx hb dL_law_686 rfl (lv_at hl 5 rfl) ?_
          refine gcH (As := [.ref (ad 0)]) (1100 * k + 25611) S (GW _) (g_undo l cs hF hY hlt νu) ckh_undo ml_RL_292 hP hS hl.1 ⟨by decide, by decide⟩ rfl (by rfl) (Nat.le_of_ble_eq_true rfl) ⟨by omega, (by show _ ≤ 600390; omega), (by show _ ≤ 7289640; omega)⟩ dL_law_687 (fun r_32 ν_33 H locs hq_34 hP hS => ?_)
          obtain ⟨hq_34a, hq_34b⟩ := hq_34
          obtain ⟨p1, p2, p3, p4⟩ := hνu.s hkn
          rw [← hq_34b] at p2 p3 p4
          have eu9 := hq_34a.trans p1
          refine lv_tope (y := nI (gu ν - (k + 1))) eu9 ?_
          refine lv_istore (lv' := [(9, .int (nI (gu ν - (k + 1)))), (8, .int (nI (k + 1))), (7, .int (nI dd)), (6, .ref qw), (5, .int (hh 0)), (3, .long (aR hh)), (2, .ref (ad 0)), (0, .ref b)]) hx hb dL_law_690 hl (by decide) rfl (fun ls hl => ?_)
          refine lv_iload hx hb dL_law_692 (lv_at hl 0 rfl) ?_
          refine lv_iload hx hb dL_law_694 (lv_at hl 2 rfl) ?_
          refine lv_iload hx hb dL_law_696 (lv_at hl 1 rfl) ?_
          refine nsub hx hb dd (k + 1) dL_law_698 rfl rfl (by omega) ?_
          refine lv_icmp_lt (tgt := 728) hx hb dL_law_699 (by decide) (fun c_699 => absurd c_699 (nI_nlt (by omega) (by omega))) (fun c_699 => ?_)
          refine lv_iload hx hb dL_law_702 (lv_at hl 0 rfl) ?_
          refine lv_bipush (v := 8) hx hb dL_law_704 (by decide) ?_
          refine lv_iload hx hb dL_law_706 (lv_at hl 1 rfl) ?_
          refine nsub hx hb 8 (k + 1) dL_law_708 (by decide) rfl (by omega) ?_
          refine lv_icmp_gt (tgt := 728) hx hb dL_law_709 (by decide) (fun c_709 => absurd c_709 (nI_nlt (by omega) (by omega))) (fun c_709 => ?_)
          refine lv_aload_n hx hb dL_law_712 rfl (lv_at hl 6 rfl) ?_
          refine gAsk (1100 * k + 26611) S (GW _) hF hY hlt ml_RL_266 p4 hP hS hl.1 ⟨by decide, by decide⟩ (Nat.le_of_ble_eq_true rfl) ⟨by omega, (by show _ ≤ 600390; omega), (by show _ ≤ 7289640; omega)⟩ dL_law_713 (fun ν_35 H locs hE_36 hP hS => ?_)
          rw [show aS ν_33 = v (dd - (k + 1)) from p3]
          have hOU2 := p2.e hE_36
          refine lv_aload hx hb dL_law_716 (lv_at hl 3 rfl) ?_
          refine lv_iload hx hb dL_law_718 (lv_at hl 2 rfl) ?_
          refine lv_iload hx hb dL_law_720 (lv_at hl 1 rfl) ?_
          refine nsub hx hb dd (k + 1) dL_law_722 rfl rfl (by omega) ?_
          refine wa_ld S (GW _) hP (by omega) dL_law_723 ?_
          refine W.lcmp hx hb dL_law_724 ?_
          refine lv_if_eq (tgt := 730) hx hb dL_law_725 (by decide) (fun c_725 => ?_) (fun c_725 => absurd lg_rf c_725)
          refine lv_iinc (v := nI ((k + 1) + 1)) (lv' := [(8, .int (nI ((k + 1) + 1))), (9, .int (nI (gu ν - (k + 1)))), (7, .int (nI dd)), (6, .ref qw), (5, .int (hh 0)), (3, .long (aR hh)), (2, .ref (ad 0)), (0, .ref b)]) hx hb dL_law_730 hl (k := 1) rfl (nI_inc _) (by decide) rfl (fun ls hl => ?_)
          refine lv_goto (tgt := 679) hx hb dL_law_733 (by decide) ?_
          refine W.widen (k := (1100 * (k + 1) + 25610)) (n := 6 * (1100 * (k + 1) + 25610)) (by omega) (by omega) ?_
          exact ih (k + 1) (by omega) _ hOU2 _ _ _ hP hS (lv_v (lv_sub (l' := [(8, .int (nI ((k + 1) + 1))), (7, .int (nI dd)), (6, .ref qw), (5, .int (hh 0)), (3, .long (aR hh)), (2, .ref (ad 0)), (0, .ref b)]) hl [0, 2, 3, 4, 5, 6, 7] rfl) rfl)
      refine W.widen (k := (1100 * 0 + 25610)) (n := 6 * (1100 * 0 + 25610)) (by omega) (by omega) ?_
      exact key_679 dd 0 (by omega) _ (hν.ud (by decide)) _ _ _ hP hS (lv_v (lv_sub (l' := [(8, .int 1), (7, .int (nI dd)), (6, .ref qw), (5, .int (hh 0)), (3, .long (aR hh)), (2, .ref (ad 0)), (0, .ref b)]) hl [0, 1, 2, 3, 4, 5, 6] rfl) rfl)
    | succ d ih =>
      intro k hk dd v ν hν H locs ls hP hS hl
      have hkn : k < 8 := by omega
      refine lv_iload hx hb dL_law_609 (lv_at hl 0 rfl) ?_
      refine lv_bipush (v := 8) hx hb dL_law_611 (by decide) ?_
      refine lv_icmp_ge (tgt := 676) hx hb dL_law_613 (by decide) (fun c_613 => absurd c_613 (nI_ge (b := 8) (by omega) (by decide))) (fun c_613 => ?_)
      refine lv_aload_n hx hb dL_law_616 rfl (lv_at hl 5 rfl) ?_
      refine gAsk (2200 * k + 9000) S (GW _) hF hY hlt ml_RL_266 hν.n0 hP hS hl.1 ⟨by decide, by decide⟩ (Nat.le_of_ble_eq_true rfl) ⟨by omega, (by show _ ≤ 600390; omega), (by show _ ≤ 7289640; omega)⟩ dL_law_617 (fun ν_37 H locs hE_38 hP hS => ?_)
      have hIa := hν.e hE_38
      have hEa := hE_38
      obtain ⟨σa, -, Ca⟩ := id hP
      refine lv_lstore (lv' := [(9, .long (aS ν)), (8, .int (nI k)), (7, .int (nI dd)), (6, .ref qw), (5, .int (hh 0)), (3, .long (aR hh)), (2, .ref (ad 0)), (0, .ref b)]) hx hb dL_law_620 hl (by decide) rfl (fun ls hl => ?_)
      refine lv_aload_n hx hb dL_law_622 rfl (lv_at hl 6 rfl) ?_
      refine lv_aload_n hx hb dL_law_623 rfl (lv_at hl 7 rfl) ?_
      refine lv_bipush (v := 20) hx hb dL_law_624 (by decide) ?_
      refine lv_iload hx hb dL_law_626 (lv_at hl 1 rfl) ?_
      refine nadd hx hb 20 k dL_law_628 (by decide) rfl ?_
      refine gcS (As := [.ref b, .int (nI (20 + k))]) (2200 * k + 9000) S (GW _) (k_at l cs hF hY hlt ν_37 b LL xs (by first | assumption | omega | decide) (by first | assumption | omega | decide) (20 + k) (by first | assumption | omega | decide)) cks_yL_at ml_RL_161 hP hS hl.1 ⟨by decide, by decide⟩ rfl (by rfl) (Nat.le_of_ble_eq_true rfl) ⟨by omega, (by show _ ≤ 600390; omega), (by show _ ≤ 7289640; omega)⟩ dL_law_629 (fun r_39 ν_40 H locs hq_41 hP hS => ?_)
      obtain ⟨hq_41a, hq_41b⟩ := hq_41; subst r_39; subst ν_40
      refine lv_iload hx hb dL_law_632 (lv_at hl 1 rfl) ?_
      refine lv_sipush (v := 977) hx hb dL_law_634 (by decide) ?_
      refine nmul hx hb k 977 dL_law_637 rfl (by decide) ?_
      refine lv_ixor hx hb dL_law_638 ?_
      refine gcS (As := [.ref (ad 0), .int ((atV LL xs (20 + k)) ^^^ (nI (k * 977)))]) (2200 * k + 9090) S (GW _) (k_changes l cs hF hY hlt ν_37 dg (by first | assumption | omega | decide) (by first | assumption | omega | decide) ((atV LL xs (20 + k)) ^^^ (nI (k * 977))) hIa.L0) cks_yL_changes ml_RL_307 hP hS hl.1 ⟨by decide, by decide⟩ rfl (by rfl) (Nat.le_of_ble_eq_true rfl) ⟨by omega, (by show _ ≤ 600390; omega), (by show _ ≤ 7289640; omega)⟩ dL_law_639 (fun r_42 ν_43 H locs hq_44 hP hS => ?_)
      have hqC := hq_44
      obtain ⟨σc, -, Cc⟩ := id hP
      refine lv_if_eq (tgt := 658) hx hb dL_law_642 (by decide) (fun c_642 => ?_) (fun c_642 => ?_)
      · have hc0 := (hqC.resolve_left (fun z => absurd (z.1.symm.trans c_642) (by decide))).2
        have hIc := hIa.e hc0
        refine lv_aload_n hx hb dL_law_658 rfl (lv_at hl 6 rfl) ?_
        refine gAsk (2200 * k + 10090) S (GW _) hF hY hlt ml_RL_266 hIc.n0 hP hS hl.1 ⟨by decide, by decide⟩ (Nat.le_of_ble_eq_true rfl) ⟨by omega, (by show _ ≤ 600390; omega), (by show _ ≤ 7289640; omega)⟩ dL_law_659 (fun ν_45 H locs hE_46 hP hS => ?_)
        rw [show aS ν_43 = aS ν from (aS_E hc0).trans (aS_E hEa)]
        have hI3 := (hIc.e hE_46).nx
        refine lv_lload hx hb dL_law_662 (lv_at hl 0 rfl) ?_
        refine W.lcmp hx hb dL_law_664 ?_
        refine lv_if_eq (tgt := 670) hx hb dL_law_665 (by decide) (fun c_665 => ?_) (fun c_665 => absurd lg_rf c_665)
        refine lv_iinc (v := nI (k + 1)) (lv' := [(8, .int (nI (k + 1))), (9, .long (aS ν)), (7, .int (nI dd)), (6, .ref qw), (5, .int (hh 0)), (3, .long (aR hh)), (2, .ref (ad 0)), (0, .ref b)]) hx hb dL_law_670 hl (k := 1) rfl (nI_inc _) (by decide) rfl (fun ls hl => ?_)
        refine lv_goto (tgt := 609) hx hb dL_law_673 (by decide) ?_
        refine W.widen (k := (2200 * (k + 1) + 8000)) (n := 6 * (2200 * (k + 1) + 8000)) (by omega) (by omega) ?_
        exact ih (k + 1) (by omega) dd v _ hI3 _ _ _ hP hS (lv_v (lv_sub (l' := [(8, .int (nI (k + 1))), (7, .int (nI dd)), (6, .ref qw), (5, .int (hh 0)), (3, .long (aR hh)), (2, .ref (ad 0)), (0, .ref b)]) hl [0, 2, 3, 4, 5, 6, 7] rfl) rfl)
      · have hc1 := (hqC.resolve_right (fun z => c_642 z.1)).2
        have hI2 := hIa.c hkn Ca.gj.2.2.2.2 Cc.gt.2.2.1 hc1 (x := aS ν) (aS_E hEa).symm
        refine lv_aload hx hb dL_law_645 (lv_at hl 3 rfl) ?_
        refine lv_iload hx hb dL_law_647 (lv_at hl 2 rfl) ?_
        refine lv_iinc (v := nI (dd + 1)) (lv' := [(7, .int (nI (dd + 1))), (9, .long (aS ν)), (8, .int (nI k)), (6, .ref qw), (5, .int (hh 0)), (3, .long (aR hh)), (2, .ref (ad 0)), (0, .ref b)]) hx hb dL_law_649 hl (k := 2) rfl (nI_inc _) (by decide) rfl (fun ls hl => ?_)
        refine lv_lload hx hb dL_law_652 (lv_at hl 1 rfl) ?_
        refine wa_st S (GW _) hP hS (by have := hν.2.1; omega) dL_law_654 (fun H locs hP hS => ?_)
        refine lv_goto (tgt := 670) hx hb dL_law_655 (by decide) ?_
        refine lv_iinc (v := nI (k + 1)) (lv' := [(8, .int (nI (k + 1))), (7, .int (nI (dd + 1))), (9, .long (aS ν)), (6, .ref qw), (5, .int (hh 0)), (3, .long (aR hh)), (2, .ref (ad 0)), (0, .ref b)]) hx hb dL_law_670 hl (k := 2) rfl (nI_inc _) (by decide) rfl (fun ls hl => ?_)
        refine lv_goto (tgt := 609) hx hb dL_law_673 (by decide) ?_
        refine W.widen (k := (2200 * (k + 1) + 8000)) (n := 6 * (2200 * (k + 1) + 8000)) (by omega) (by omega) ?_
        exact ih (k + 1) (by omega) (dd + 1) (vp_updL v dd (aS ν)) _ hI2 _ _ _ hP hS (lv_v (lv_sub (l' := [(8, .int (nI (k + 1))), (7, .int (nI (dd + 1))), (6, .ref qw), (5, .int (hh 0)), (3, .long (aR hh)), (2, .ref (ad 0)), (0, .ref b)]) hl [0, 1, 3, 4, 5, 6, 7] rfl) rfl)
  refine W.widen (k := (2200 * 0 + 8000)) (n := 6 * (2200 * 0 + 8000)) (by omega) (by omega) ?_
  exact key_609 8 0 (by omega) 0 (fun _ => 0) _ (hB1.st hu8) _ _ _ hP hS (lv_v (lv_sub (l' := [(8, .int 0), (7, .int 0), (6, .ref qw), (5, .int (hh 0)), (3, .long (aR hh)), (2, .ref (ad 0)), (0, .ref b)]) hl [0, 1, 2, 3, 4, 5, 6] rfl) rfl)

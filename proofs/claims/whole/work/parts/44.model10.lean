/-! the reference: its commands (laid by wip/whole/spec_model10.py) -/
theorem ok_yX11_commands : COK RX11 yX11_commands cX11_commands 6 (some .int) 0 := ⟨im_yX11_commands, se_RX11_yX11_commands, in_RX11, co_yX11_commands, ⟨rfl, by decide +kernel, by decide +kernel, by decide +kernel⟩, by decide⟩
set_option maxHeartbeats 1000000 in
set_option maxRecDepth 100000 in
theorem c_X11_commands (l : Launch) {D : va_G} {ct : Nat → ClassId} {ek ad : Nat → Nat} {N0 : Nat} {X : va_W} {F : State → Prop} (σ : Mem) (cs : Nat → Nat) (hF : ∀ U, F U → FX ek cs N0 U) (L : Nat) (hL : σ 276 11 = nI L) (hL6 : L ≤ 60) (hz : ∀ j, j < 60 → vp_nar .char (σ 284 j) = σ 284 j) (hR : RW (σ 277)) (u : Nat) (hu : σ 276 4 = nI u) (hu8 : u ≤ 8) : MI l yX11_commands cX11_commands 6 (some .int) 7 D ct ek ad N0 X F [.ref (ad 276)] σ (fun r τ => CmdQ τ σ L u r) := by
  refine ms0 (own := RX11) (by decide) rfl (Nat.le_of_ble_eq_true rfl) (fun p e s m args below meth c S hr hlocks hnm G hP hS ls hl => ?_)
  have hx := S.1
  have hb := S.2.1
  replace hl : lv_has ls 6 [(0, .ref (ad 276))] := hl
  have FC := hF s G.2.2.2.2.2
  have e84 : cs1 σ 284 = σ 284 := cs1_c (by decide) (by decide)
  have e11 : cs1 σ 276 11 = nI L := (cs1_j (by decide) (by decide) (by decide)).trans hL
  refine lv_aload_n hx hb dX11_commands_0 rfl (lv_at hl 0 rfl) ?_
  refine cVve (As := []) S G 276 (c_X11_tries l (D := D) (ct := ct) (ek := ek) (ad := ad) (N0 := N0) (X := X) (F := F) σ) ok_yX11_tries ml_RX11_116 (by decide) oM rfl hP hS hl.1 rfl (by decide) rfl rfl (Nat.le_of_ble_eq_true rfl) ⟨Nat.zero_le _, Nat.zero_le _⟩ dX11_commands_1 (fun H locs hP hS => ?_)
  refine lv_aload_n hx hb dX11_commands_4 rfl (lv_at hl 0 rfl) ?_
  refine lv_iconst (v := 0) hx hb dX11_commands_5 (by decide) ?_
  refine pf S G hP hS 276 12 (x := 0) tyX11 tyX11_ok nmX11 (by decide) oM rfl inX11 (by decide) fl_RX11_206 rfl rfl rfl rfl (Nat.le_of_ble_eq_true rfl) oM dX11_commands_6 (fun H locs hP hS => ?_)
  refine lv_aload_n hx hb dX11_commands_9 rfl (lv_at hl 0 rfl) ?_
  refine lv_iconst (v := (-1)) hx hb dX11_commands_10 (by decide) ?_
  refine pf S G hP hS 276 15 (x := (-1)) tyX11 tyX11_ok nmX11 (by decide) oM rfl inX11 (by decide) fl_RX11_38 rfl rfl rfl rfl (Nat.le_of_ble_eq_true rfl) oM dX11_commands_11 (fun H locs hP hS => ?_)
  replace hP : wP D ct ek ad X (cs1 σ) H := hP
  refine lv_aload_n hx hb dX11_commands_14 rfl (lv_at hl 0 rfl) ?_
  refine cVi (As := []) S G 276 (c_X11_isCommand l (D := D) (ct := ct) (ek := ek) (ad := ad) (N0 := N0) (X := X) (F := F) (cs1 σ) cs (by first | assumption | omega | (simp [sg_at]; assumption) | (simp [sg_at]; done)) 0 cs1_12 L e11 (Nat.zero_le _) hL6 (by rw [e84]; exact hz)) ok_yX11_isCommand ml_RX11_230 (by decide) oM rfl hP hS hl.1 rfl (by decide) rfl rfl (Nat.le_of_ble_eq_true rfl) ⟨Nat.zero_le _, Nat.zero_le _⟩ dX11_commands_15 (fun r_3 τ_4 H locs hp_r_3 hP hS => ?_)
  have hq1 : CmQ τ_4 (cs1 σ) (σ 284) L 0 r_3 := CmQ.T hp_r_3 e84
  refine lv_istore_n (lv' := [(1, .int r_3), (0, .ref (ad 276))]) hx hb dX11_commands_18 rfl hl (by decide) rfl (fun ls hl => ?_)
  have key_19 : ∀ (d k : Nat), k + d = L + 2 → ∀ (i9 : Int32), ∀ (e9 : Nat), (1 ≤ d ∧ (¬ i9 = 0 → L + 2 ≤ d + e9)) → (e9 ≤ L) → (prs (σ 284) L d i9 e9 = prs (σ 284) L (L + 2) (cmV (σ 284) L 0) (cmE (σ 284) L 0)) → ∀ (τ : Mem), (CmP τ (cs1 σ) e9) → ∀ (H : Heap) (locs : List Loc) (ls : Array Slot), wP D ct ek ad X τ H → va_S (fr N0) s.heap H locs → lv_has ls 6 [(1, .int i9), (0, .ref (ad 276))] → W p l e (rmd 7 0 0) s m args below meth c H locs 0 0 (MQ below (wQi D ct ek ad N0 X (fun r τ => CmdQ τ σ L u r)) args s 0 0 (fr N0)) (F0 m 19 ls []) := by
    intro d
    induction d with
    | zero =>
      intro k9 hk
      obtain rfl : L + 2 = k9 := by omega
      intro i9 e9 hde heL hpr τ hτ H locs ls hP hS hl
      exact absurd hde.1 (by omega)
    | succ d ih =>
      intro k hk i9 e9 hde heL hpr τ hτ H locs ls hP hS hl
      have hkn : k < L + 2 := by omega
      refine lv_iload_n hx hb dX11_commands_19 rfl (lv_at hl 0 rfl) ?_
      refine lv_if_eq (tgt := 59) hx hb dX11_commands_20 (by decide) (fun c_20 => ?_) (fun c_20 => ?_)
      · have hP0 : cmP σ L = (0, e9) := by show prs (σ 284) L (L + 2) (cmV (σ 284) L 0) (cmE (σ 284) L 0) = _; rw [← hpr, c_20, prs_0]
        refine lv_iload_n hx hb dX11_commands_59 rfl (lv_at hl 0 rfl) ?_
        refine lv_if_ne (tgt := 82) hx hb dX11_commands_60 (by decide) (fun c_60 => absurd c_20 c_60) (fun c_60 => ?_)
        refine lv_aload_n hx hb dX11_commands_63 rfl (lv_at hl 1 rfl) ?_
        refine lv_aload_n hx hb dX11_commands_64 rfl (lv_at hl 1 rfl) ?_
        refine gf S G hP 276 12 (by decide) oM rfl inX11 (by decide) fl_RX11_206 rfl rfl dX11_commands_65 ?_
        refine lv_tope (y := nI e9) hτ.2.2 ?_
        refine pf S G hP hS 276 15 (x := nI e9) tyX11 tyX11_ok nmX11 (by decide) oM rfl inX11 (by decide) fl_RX11_38 rfl rfl rfl rfl (Nat.le_of_ble_eq_true rfl) oM dX11_commands_68 (fun H locs hP hS => ?_)
        refine lv_aload_n hx hb dX11_commands_71 rfl (lv_at hl 1 rfl) ?_
        refine lv_iconst (v := 0) hx hb dX11_commands_72 (by decide) ?_
        refine pf S G hP hS 276 11 (x := 0) tyX11 tyX11_ok nmX11 (by decide) oM rfl inX11 (by decide) fl_RX11_203 rfl rfl rfl rfl (Nat.le_of_ble_eq_true rfl) oM dX11_commands_73 (fun H locs hP hS => ?_)
        refine lv_aload_n hx hb dX11_commands_76 rfl (lv_at hl 1 rfl) ?_
        refine lv_iconst (v := 1) hx hb dX11_commands_77 (by decide) ?_
        refine cVie (As := [.int 1]) S G 276 (c_X11_raises l (D := D) (ct := ct) (ek := ek) (ad := ad) (N0 := N0) (X := X) (F := F) (sg (sg τ 276 15 (nI e9)) 276 11 0) 1) ok_yX11_raises ml_RX11_64 (by decide) oM rfl hP hS hl.1 rfl (by decide) rfl rfl (Nat.le_of_ble_eq_true rfl) ⟨Nat.zero_le _, Nat.zero_le _⟩ dX11_commands_78 (fun H locs hP hS => ?_)
        exact eI S hr hlocks hP hS dX11_commands_81 (Cmd_1 hτ hP0)
      · refine lv_aload_n hx hb dX11_commands_23 rfl (lv_at hl 1 rfl) ?_
        refine gf S G hP 276 12 (by decide) oM rfl inX11 (by decide) fl_RX11_206 rfl rfl dX11_commands_24 ?_
        refine lv_tope (y := nI e9) hτ.2.2 ?_
        refine lv_aload_n hx hb dX11_commands_27 rfl (lv_at hl 1 rfl) ?_
        refine gf S G hP 276 11 (by decide) oM rfl inX11 (by decide) fl_RX11_203 rfl rfl dX11_commands_28 ?_
        refine lv_tope (y := nI L) ((hτ.2.1 11 (by decide) (by decide)).trans e11) ?_
        refine lv_icmp_ge (tgt := 59) hx hb dX11_commands_31 (by decide) (fun c_31 => ?_) (fun c_31 => ?_)
        · have hP0 : cmP σ L = (i9, e9) := by show prs (σ 284) L (L + 2) (cmV (σ 284) L 0) (cmE (σ 284) L 0) = _; rw [← hpr, prs_s, if_neg c_20, if_pos c_31]
          refine lv_iload_n hx hb dX11_commands_59 rfl (lv_at hl 0 rfl) ?_
          refine lv_if_ne (tgt := 82) hx hb dX11_commands_60 (by decide) (fun c_60 => ?_) (fun c_60 => absurd c_60 c_20)
          refine lv_aload_n hx hb dX11_commands_82 rfl (lv_at hl 1 rfl) ?_
          refine lv_iconst (v := 0) hx hb dX11_commands_83 (by decide) ?_
          refine pf S G hP hS 276 12 (x := 0) tyX11 tyX11_ok nmX11 (by decide) oM rfl inX11 (by decide) fl_RX11_206 rfl rfl rfl rfl (Nat.le_of_ble_eq_true rfl) oM dX11_commands_84 (fun H locs hP hS => ?_)
          refine lv_iconst (v := 0) hx hb dX11_commands_87 (by decide) ?_
          refine lv_istore_n (lv' := [(2, .int 0), (1, .int i9), (0, .ref (ad 276))]) hx hb dX11_commands_88 rfl hl (by decide) rfl (fun ls hl => ?_)
          refine lv_iconst (v := 1) hx hb dX11_commands_89 (by decide) ?_
          refine lv_istore_n (lv' := [(3, .int 1), (2, .int 0), (1, .int i9), (0, .ref (ad 276))]) hx hb dX11_commands_90 rfl hl (by decide) rfl (fun ls hl => ?_)
          refine lv_iconst (v := 1) hx hb dX11_commands_91 (by decide) ?_
          refine lv_istore (lv' := [(4, .int 1), (3, .int 1), (2, .int 0), (1, .int i9), (0, .ref (ad 276))]) hx hb dX11_commands_92 hl (by decide) rfl (fun ls hl => ?_)
          have key_94 : ∀ (d2 k2 : Nat), k2 + d2 = L + 2 → ∀ (m9 : Int32), ∀ (f9 : Int32), ∀ (i8 : Int32), ∀ (e8 : Nat), ∀ (c8 : Nat), ∀ (ρ : Mem), (M2 ρ (cs1 σ) (σ 284) L d2 (cmX σ L) m9 f9 e8 c8) → ∀ (H : Heap) (locs : List Loc) (ls : Array Slot), wP D ct ek ad X ρ H → va_S (fr N0) s.heap H locs → lv_has ls 6 [(4, .int m9), (3, .int f9), (2, .int (nI c8)), (1, .int i8), (0, .ref (ad 276))] → W p l e (rmd 7 0 0) s m args below meth c H locs 0 0 (MQ below (wQi D ct ek ad N0 X (fun r τ => CmdQ τ σ L u r)) args s 0 0 (fr N0)) (F0 m 94 ls []) := by
            intro d2
            induction d2 with
            | zero =>
              intro k9 hk
              obtain rfl : L + 2 = k9 := by omega
              intro m9 f9 i8 e8 c8 ρ hρ H locs ls hP hS hl
              exact absurd hρ M2_z
            | succ d2 ih =>
              intro k2 hk m9 f9 i8 e8 c8 ρ hρ H locs ls hP hS hl
              have hk2n : k2 < L + 2 := by omega
              refine lv_iload hx hb dX11_commands_94 (lv_at hl 0 rfl) ?_
              refine lv_if_eq (tgt := 139) hx hb dX11_commands_96 (by decide) (fun c_96 => ?_) (fun c_96 => ?_)
              · refine lv_aload_n hx hb dX11_commands_139 rfl (lv_at hl 4 rfl) ?_
                refine lv_iconst (v := 0) hx hb dX11_commands_140 (by decide) ?_
                refine pf S G hP hS 276 11 (x := 0) tyX11 tyX11_ok nmX11 (by decide) oM rfl inX11 (by decide) fl_RX11_203 rfl rfl rfl rfl (Nat.le_of_ble_eq_true rfl) oM dX11_commands_141 (fun H locs hP hS => ?_)
                refine lv_iload_n hx hb dX11_commands_144 rfl (lv_at hl 1 rfl) ?_
                refine lv_if_eq (tgt := 154) hx hb dX11_commands_145 (by decide) (fun c_145 => ?_) (fun c_145 => ?_)
                · refine lv_aload_n hx hb dX11_commands_154 rfl (lv_at hl 4 rfl) ?_
                  refine lv_iload_n hx hb dX11_commands_155 rfl (lv_at hl 2 rfl) ?_
                  refine pf S G hP hS 276 18 (x := nI c8) tyX11 tyX11_ok nmX11 (by decide) oM rfl inX11 (by decide) fl_RX11_57 rfl rfl rfl rfl (Nat.le_of_ble_eq_true rfl) oM dX11_commands_156 (fun H locs hP hS => ?_)
                  refine lv_iconst (v := 0) hx hb dX11_commands_159 (by decide) ?_
                  refine lv_istore (lv' := [(5, .int 0), (4, .int m9), (3, .int f9), (2, .int (nI c8)), (1, .int i8), (0, .ref (ad 276))]) hx hb dX11_commands_160 hl (by decide) rfl (fun ls hl => ?_)
                  have key_162 : ∀ (d3 k3 : Nat), k3 + d3 = 96 → ∀ (H : Heap) (locs : List Loc) (ls : Array Slot), wP D ct ek ad X (sb (sg (sg ρ 276 11 0) 276 18 (nI c8)) 277 (fil (ρ 278) (ρ 277) k3)) H → va_S (fr N0) s.heap H locs → lv_has ls 6 [(5, .int (nI k3)), (4, .int m9), (3, .int f9), (2, .int (nI c8)), (1, .int i8), (0, .ref (ad 276))] → W p l e (rmd 7 0 0) s m args below meth c H locs 0 0 (MQ below (wQi D ct ek ad N0 X (fun r τ => CmdQ τ σ L u r)) args s 0 0 (fr N0)) (F0 m 162 ls []) := by
                    intro d3
                    induction d3 with
                    | zero =>
                      intro k9 hk
                      obtain rfl : 96 = k9 := by omega
                      intro  H locs ls hP hS hl
                      refine lv_iload hx hb dX11_commands_162 (lv_at hl 0 rfl) ?_
                      refine lv_bipush (v := 96) hx hb dX11_commands_164 (by decide) ?_
                      refine lv_icmp_ge (tgt := 189) hx hb dX11_commands_166 (by decide) (fun c_166 => ?_) (fun c_166 => absurd (by decide) c_166)
                      refine lv_aload_n hx hb dX11_commands_189 rfl (lv_at hl 5 rfl) ?_
                      refine lv_iconst (v := 2) hx hb dX11_commands_190 (by decide) ?_
                      refine cVie (As := [.int 2]) S G 276 (c_X11_raises l (D := D) (ct := ct) (ek := ek) (ad := ad) (N0 := N0) (X := X) (F := F) (sb (sg (sg ρ 276 11 0) 276 18 (nI c8)) 277 (fil (ρ 278) (ρ 277) 96)) 2) ok_yX11_raises ml_RX11_64 (by decide) oM rfl hP hS hl.1 rfl (by decide) rfl rfl (Nat.le_of_ble_eq_true rfl) ⟨Nat.zero_le _, Nat.zero_le _⟩ dX11_commands_191 (fun H locs hP hS => ?_)
                      exact eI S hr hlocks hP hS dX11_commands_194 (Cmd_2 hρ c_96 c_145 (by rw [hP0]; exact c_20))
                    | succ d3 ih =>
                      intro k3 hk  H locs ls hP hS hl
                      have hk3n : k3 < 96 := by omega
                      refine lv_iload hx hb dX11_commands_162 (lv_at hl 0 rfl) ?_
                      refine lv_bipush (v := 96) hx hb dX11_commands_164 (by decide) ?_
                      refine lv_icmp_ge (tgt := 189) hx hb dX11_commands_166 (by decide) (fun c_166 => absurd c_166 (nI_ge (b := 96) (by omega) (by omega))) (fun c_166 => ?_)
                      refine lv_aload_n hx hb dX11_commands_169 rfl (lv_at hl 5 rfl) ?_
                      refine gf S G hP 276 0 (by decide) oM rfl inX11 (by decide) fl_RX11_9 rfl rfl dX11_commands_170 ?_
                      refine lv_iload hx hb dX11_commands_173 (lv_at hl 0 rfl) ?_
                      refine lv_aload_n hx hb dX11_commands_175 rfl (lv_at hl 5 rfl) ?_
                      refine gf S G hP 276 1 (by decide) oM rfl inX11 (by decide) fl_RX11_13 rfl rfl dX11_commands_176 ?_
                      refine lv_iload hx hb dX11_commands_179 (lv_at hl 0 rfl) ?_
                      refine ald S G hP 278 k3 (by decide) (aM278 _) rfl (by omega) (by decide) dX11_commands_181 ?_
                      refine lv_tope (y := ρ 278 k3) (by simp only [sg_at, sbAp]; simp) ?_
                      refine ast S G hP hS 277 k3 (by decide) aM277 rfl (by omega) (by decide) dX11_commands_182 (fun H locs hP hS => ?_)
                      refine lv_iinc (v := nI (k3 + 1)) (lv' := [(5, .int (nI (k3 + 1))), (4, .int m9), (3, .int f9), (2, .int (nI c8)), (1, .int i8), (0, .ref (ad 276))]) hx hb dX11_commands_183 hl (k := 0) rfl (nI_inc _) (by decide) rfl (fun ls hl => ?_)
                      refine lv_goto (tgt := 162) hx hb dX11_commands_186 (by decide) ?_
                      exact ih (k3 + 1) (by omega)  _ _ _ (wP_e hP (by rw [sg_sb, fil_s rfl])) hS (by first | (refine lv_v (lv_sub (l' := [(5, .int (nI (k3 + 1))), (4, .int m9), (3, .int f9), (2, .int (nI c8)), (1, .int i8), (0, .ref (ad 276))]) hl [0, 1, 2, 3, 4, 5] rfl) ?_; simp [fo, c_20, c_31, c_60, c_96, c_145, c_166]; done) | exact lv_sub hl [0, 1, 2, 3, 4, 5] rfl)
                  exact key_162 96 0 (by omega)  _ _ _ (wP_e hP (by funext c j; simp only [sbAp, fil_0, sg_at]; grind)) hS (lv_sub hl [0, 1, 2, 3, 4, 5] rfl)
                · refine lv_aload_n hx hb dX11_commands_148 rfl (lv_at hl 4 rfl) ?_
                  refine lv_iload_n hx hb dX11_commands_149 rfl (lv_at hl 2 rfl) ?_
                  refine cVie (As := [.int (nI c8)]) S G 276 (c_X11_keeps l (D := D) (ct := ct) (ek := ek) (ad := ad) (N0 := N0) (X := X) (F := F) (sg ρ 276 11 0) (nI c8) u (by simp only [sg_at]; simp; exact ((XM_cs hρ.1).1 4 (by omega)).trans hu) (by omega)) ok_yX11_keeps ml_RX11_60 (by decide) oM rfl hP hS hl.1 rfl (by decide) rfl rfl (Nat.le_of_ble_eq_true rfl) ⟨Nat.zero_le _, Nat.zero_le _⟩ dX11_commands_150 (fun H locs hP hS => ?_)
                  exact eI S hr hlocks hP hS dX11_commands_153 (Cmd_3 hρ c_96 c_145 (by rw [hP0]; exact c_20))
              · have hg := M2_r hρ c_96
                have hT2 : ρ 284 = σ 284 := (hρ.1.1 284 (by decide) (by decide) (by decide) (by decide)).trans e84
                have h112 : ρ 276 11 = nI L := (hρ.1.2 11 (by omega)).trans e11
                refine lv_aload_n hx hb dX11_commands_99 rfl (lv_at hl 4 rfl) ?_
                refine cVi (As := []) S G 276 (c_X11_isCommand l (D := D) (ct := ct) (ek := ek) (ad := ad) (N0 := N0) (X := X) (F := F) ρ cs (by first | assumption | omega | (simp [sg_at]; assumption) | (simp [sg_at]; done)) e8 hg.1 L h112 hg.2.1 hL6 (by rw [hT2]; exact hz)) ok_yX11_isCommand ml_RX11_230 (by decide) oM rfl hP hS hl.1 rfl (by decide) rfl rfl (Nat.le_of_ble_eq_true rfl) ⟨Nat.zero_le _, Nat.zero_le _⟩ dX11_commands_100 (fun r_11 τ_12 H locs hp_r_11 hP hS => ?_)
                have hq3 : CmQ τ_12 ρ (σ 284) L e8 r_11 := CmQ.T hp_r_11 hT2
                have hm1 := M2_1 hL6 hρ c_96 hq3
                refine lv_istore_n (lv' := [(1, .int r_11), (4, .int m9), (3, .int f9), (2, .int (nI c8)), (0, .ref (ad 276))]) hx hb dX11_commands_103 rfl hl (by decide) rfl (fun ls hl => ?_)
                refine lv_aload_n hx hb dX11_commands_104 rfl (lv_at hl 4 rfl) ?_
                refine cVi (As := []) S G 276 (c_X11_carries l (D := D) (ct := ct) (ek := ek) (ad := ad) (N0 := N0) (X := X) (F := F) τ_12 (kf (σ 284) L e8) hm1.2.1 hm1.2.2.1 hm1.2.2.2.1 ((cmN (σ 284) L e8).getD 0 0) ((cmN (σ 284) L e8).getD 1 0) ((cmN (σ 284) L e8).getD 2 0) hm1.2.2.2.2.1 hm1.2.2.2.2.2.1 hm1.2.2.2.2.2.2.1) ok_yX11_carries ml_RX11_233 (by decide) oM rfl hP hS hl.1 rfl (by decide) rfl rfl (Nat.le_of_ble_eq_true rfl) ⟨Nat.zero_le _, Nat.zero_le _⟩ dX11_commands_105 (fun r_13 τ_14 H locs hp_r_13 hP hS => ?_)
                have hs3 : r_13 = (stE (σ 284) L (ρ 277) e8).1 ∧ StM τ_14 τ_12 (stE (σ 284) L (ρ 277) e8) := by have h9 := hp_r_13; rw [hm1.2.2.2.2.2.2.2] at h9; exact h9
                refine lv_istore_n (lv' := [(3, .int r_13), (1, .int r_11), (4, .int m9), (2, .int (nI c8)), (0, .ref (ad 276))]) hx hb dX11_commands_108 rfl hl (by decide) rfl (fun ls hl => ?_)
                refine lv_iload_n hx hb dX11_commands_109 rfl (lv_at hl 0 rfl) ?_
                refine lv_if_eq (tgt := 116) hx hb dX11_commands_110 (by decide) (fun c_110 => ?_) (fun c_110 => ?_)
                · refine lv_iload_n hx hb dX11_commands_116 rfl (lv_at hl 0 rfl) ?_
                  refine lv_if_eq (tgt := 133) hx hb dX11_commands_117 (by decide) (fun c_117 => ?_) (fun c_117 => absurd c_110 c_117)
                  refine lv_iconst (v := 0) hx hb dX11_commands_133 (by decide) ?_
                  refine lv_istore (lv' := [(4, .int 0), (3, .int r_13), (1, .int r_11), (2, .int (nI c8)), (0, .ref (ad 276))]) hx hb dX11_commands_134 hl (by decide) rfl (fun ls hl => ?_)
                  refine lv_goto (tgt := 94) hx hb dX11_commands_136 (by decide) ?_
                  exact ih (k2 + 1) (by omega) 0 _ _ e8 c8 _ (M2_A hρ c_96 hq3 hs3 c_110) _ _ _ hP hS (by first | (refine lv_v (lv_sub (l' := [(4, .int 0), (3, .int r_13), (2, .int (nI c8)), (1, .int r_11), (0, .ref (ad 276))]) hl [0, 1, 3, 2, 4] rfl) ?_; simp [fo, c_20, c_31, c_60, c_96, c_110, c_117]; done) | exact lv_sub hl [0, 1, 3, 2, 4] rfl)
                · refine lv_iinc (v := nI (c8 + 1)) (lv' := [(2, .int (nI (c8 + 1))), (3, .int r_13), (1, .int r_11), (4, .int m9), (0, .ref (ad 276))]) hx hb dX11_commands_113 hl (k := 3) rfl (nI_inc _) (by decide) rfl (fun ls hl => ?_)
                  refine lv_iload_n hx hb dX11_commands_116 rfl (lv_at hl 1 rfl) ?_
                  refine lv_if_eq (tgt := 133) hx hb dX11_commands_117 (by decide) (fun c_117 => absurd c_117 c_110) (fun c_117 => ?_)
                  have hd3 := M2_d hρ c_96 hq3 hs3 c_110
                  refine lv_aload_n hx hb dX11_commands_120 rfl (lv_at hl 4 rfl) ?_
                  refine lv_bipush (v := 59) hx hb dX11_commands_121 (by decide) ?_
                  refine cVie (As := [.int 59]) S G 276 (c_X11_takes l (D := D) (ct := ct) (ek := ek) (ad := ad) (N0 := N0) (X := X) (F := F) τ_14 59 (cmE (σ 284) L e8) hd3.1 L (hd3.2.2.2.2.2.2.trans h112) ((cm_le hg.2.1 hL6).2) hL6) ok_yX11_takes ml_RX11_209 (by decide) oM rfl hP hS hl.1 rfl (by decide) rfl rfl (Nat.le_of_ble_eq_true rfl) ⟨Nat.zero_le _, Nat.zero_le _⟩ dX11_commands_123 (fun H locs hP hS => ?_)
                  refine lv_tope (y := nxV (σ 284) L (cmE (σ 284) L e8) 59) (by rw [hd3.2.2.2.2.2.1, hT2]) ?_
                  rw [hd3.2.2.2.2.2.1, hT2] at hP
                  replace hP : wP D ct ek ad X (sg τ_14 276 12 (nI (nxE (σ 284) L (cmE (σ 284) L e8) 59))) H := hP
                  refine lv_if_eq (tgt := 133) hx hb dX11_commands_126 (by decide) (fun c_126 => ?_) (fun c_126 => ?_)
                  · refine lv_iconst (v := 0) hx hb dX11_commands_133 (by decide) ?_
                    refine lv_istore (lv' := [(4, .int 0), (2, .int (nI (c8 + 1))), (3, .int r_13), (1, .int r_11), (0, .ref (ad 276))]) hx hb dX11_commands_134 hl (by decide) rfl (fun ls hl => ?_)
                    refine lv_goto (tgt := 94) hx hb dX11_commands_136 (by decide) ?_
                    exact ih (k2 + 1) (by omega) 0 _ _ e8 (c8 + 1) _ (M2_B hρ c_96 hq3 hs3 c_110 c_126) _ _ _ hP hS (by first | (refine lv_v (lv_sub (l' := [(4, .int 0), (3, .int r_13), (2, .int (nI (c8 + 1))), (1, .int r_11), (0, .ref (ad 276))]) hl [0, 2, 1, 3, 4] rfl) ?_; simp [fo, c_20, c_31, c_60, c_96, c_110, c_117, c_126]; done) | exact lv_sub hl [0, 2, 1, 3, 4] rfl)
                  · refine lv_iconst (v := 1) hx hb dX11_commands_129 (by decide) ?_
                    refine lv_goto (tgt := 134) hx hb dX11_commands_130 (by decide) ?_
                    refine lv_istore (lv' := [(4, .int 1), (2, .int (nI (c8 + 1))), (3, .int r_13), (1, .int r_11), (0, .ref (ad 276))]) hx hb dX11_commands_134 hl (by decide) rfl (fun ls hl => ?_)
                    refine lv_goto (tgt := 94) hx hb dX11_commands_136 (by decide) ?_
                    exact ih (k2 + 1) (by omega) 1 _ _ (cmE (σ 284) L e8 + 1) (c8 + 1) _ (M2_C hL6 hρ c_96 hq3 hs3 c_110 c_126) _ _ _ hP hS (by first | (refine lv_v (lv_sub (l' := [(4, .int 1), (3, .int r_13), (2, .int (nI (c8 + 1))), (1, .int r_11), (0, .ref (ad 276))]) hl [0, 2, 1, 3, 4] rfl) ?_; simp [fo, c_20, c_31, c_60, c_96, c_110, c_117, c_126]; done) | exact lv_sub hl [0, 2, 1, 3, 4] rfl)
          exact key_94 (L + 2) 0 (by omega) 1 1 i9 0 0 _ (M2_i hL6 hR hτ (by rw [hP0]; exact c_20)) _ _ _ hP hS (lv_v (lv_sub (l' := [(4, .int 1), (3, .int 1), (2, .int 0), (1, .int i9), (0, .ref (ad 276))]) hl [0, 1, 2, 3, 4] rfl) rfl)
        · have hT : τ 284 = σ 284 := (hτ.1 284 (by decide) (by decide)).trans e84
          have h11 : τ 276 11 = nI L := (hτ.2.1 11 (by decide) (by decide)).trans e11
          have hlt : e9 < L := by have : ¬ L ≤ e9 := fun z => c_31 (nI_le z (by omega)); omega
          refine lv_aload_n hx hb dX11_commands_34 rfl (lv_at hl 1 rfl) ?_
          refine lv_bipush (v := 59) hx hb dX11_commands_35 (by decide) ?_
          refine cVie (As := [.int 59]) S G 276 (c_X11_takes l (D := D) (ct := ct) (ek := ek) (ad := ad) (N0 := N0) (X := X) (F := F) τ 59 e9 hτ.2.2 L ((hτ.2.1 11 (by decide) (by decide)).trans e11) heL hL6) ok_yX11_takes ml_RX11_209 (by decide) oM rfl hP hS hl.1 rfl (by decide) rfl rfl (Nat.le_of_ble_eq_true rfl) ⟨Nat.zero_le _, Nat.zero_le _⟩ dX11_commands_37 (fun H locs hP hS => ?_)
          refine lv_tope (y := nxV (σ 284) L e9 59) (by rw [hT]) ?_
          rw [hT] at hP
          replace hP : wP D ct ek ad X (sg τ 276 12 (nI (nxE (σ 284) L e9 59))) H := hP
          refine lv_if_eq (tgt := 54) hx hb dX11_commands_40 (by decide) (fun c_40 => ?_) (fun c_40 => ?_)
          · refine lv_iconst (v := 0) hx hb dX11_commands_54 (by decide) ?_
            refine lv_istore_n (lv' := [(1, .int 0), (0, .ref (ad 276))]) hx hb dX11_commands_55 rfl hl (by decide) rfl (fun ls hl => ?_)
            refine lv_goto (tgt := 19) hx hb dX11_commands_56 (by decide) ?_
            exact ih (k + 1) (by omega) 0 e9 (⟨by have := hde.2 c_20; omega, fun h => absurd rfl h⟩) heL (by rw [prs_0, ← hpr, prs_s, if_neg c_20, if_neg c_31, if_pos c_40]) _ (by rw [nx_e0 c_40]; exact CmP_at hτ) _ _ _ hP hS (by first | (refine lv_v (lv_sub (l' := [(1, .int 0), (0, .ref (ad 276))]) hl [0, 1] rfl) ?_; simp [fo, c_20, c_31, c_40]; done) | exact lv_sub hl [0, 1] rfl)
          · refine lv_aload_n hx hb dX11_commands_43 rfl (lv_at hl 1 rfl) ?_
            refine cVi (As := []) S G 276 (c_X11_isCommand l (D := D) (ct := ct) (ek := ek) (ad := ad) (N0 := N0) (X := X) (F := F) (sg τ 276 12 (nI (nxE (σ 284) L e9 59))) cs (by first | assumption | omega | (simp [sg_at]; assumption) | (simp [sg_at]; done)) (e9 + 1) (by rw [sg_ss, nx_e1 c_40]) L (by simp only [sg_at]; simp; exact h11) hlt hL6 (by rw [sg_n (by decide), hT]; exact hz)) ok_yX11_isCommand ml_RX11_230 (by decide) oM rfl hP hS hl.1 rfl (by decide) rfl rfl (Nat.le_of_ble_eq_true rfl) ⟨Nat.zero_le _, Nat.zero_le _⟩ dX11_commands_44 (fun r_19 τ_20 H locs hp_r_19 hP hS => ?_)
            have hq2 : CmQ τ_20 (sg τ 276 12 (nI (nxE (σ 284) L e9 59))) (σ 284) L (e9 + 1) r_19 := CmQ.T hp_r_19 (by rw [sg_n (by decide), hT])
            refine lv_if_eq (tgt := 54) hx hb dX11_commands_47 (by decide) (fun c_47 => ?_) (fun c_47 => ?_)
            · refine lv_iconst (v := 0) hx hb dX11_commands_54 (by decide) ?_
              refine lv_istore_n (lv' := [(1, .int 0), (0, .ref (ad 276))]) hx hb dX11_commands_55 rfl hl (by decide) rfl (fun ls hl => ?_)
              refine lv_goto (tgt := 19) hx hb dX11_commands_56 (by decide) ?_
              exact ih (k + 1) (by omega) 0 (cmE (σ 284) L (e9 + 1)) (⟨by have := hde.2 c_20; omega, fun _ => by have := hde.2 c_20; have := (cm_le (T := σ 284) (a := e9 + 1) (by omega) hL6).1; omega⟩) ((cm_le (by omega) hL6).2) (by rw [← hpr, prs_s, if_neg c_20, if_neg c_31, if_neg c_40, (show cmV (σ 284) L (e9 + 1) = 0 from hq2.1.symm.trans c_47)]) _ (CmP_tr hq2.2.1 (CmP_at hτ)) _ _ _ hP hS (by first | (refine lv_v (lv_sub (l' := [(1, .int 0), (0, .ref (ad 276))]) hl [0, 1] rfl) ?_; simp [fo, c_20, c_31, c_40, c_47]; done) | exact lv_sub hl [0, 1] rfl)
            · refine lv_iconst (v := 1) hx hb dX11_commands_50 (by decide) ?_
              refine lv_goto (tgt := 55) hx hb dX11_commands_51 (by decide) ?_
              refine lv_istore_n (lv' := [(1, .int 1), (0, .ref (ad 276))]) hx hb dX11_commands_55 rfl hl (by decide) rfl (fun ls hl => ?_)
              refine lv_goto (tgt := 19) hx hb dX11_commands_56 (by decide) ?_
              exact ih (k + 1) (by omega) 1 (cmE (σ 284) L (e9 + 1)) (⟨by have := hde.2 c_20; omega, fun _ => by have := hde.2 c_20; have := (cm_le (T := σ 284) (a := e9 + 1) (by omega) hL6).1; omega⟩) ((cm_le (by omega) hL6).2) (by rw [← hpr, prs_s, if_neg c_20, if_neg c_31, if_neg c_40, (show cmV (σ 284) L (e9 + 1) = 1 from cmV_b.resolve_left (fun z => c_47 (hq2.1.trans z)))]) _ (CmP_tr hq2.2.1 (CmP_at hτ)) _ _ _ hP hS (by first | (refine lv_v (lv_sub (l' := [(1, .int 1), (0, .ref (ad 276))]) hl [0, 1] rfl) ?_; simp [fo, c_20, c_31, c_40, c_47]; done) | exact lv_sub hl [0, 1] rfl)
  exact key_19 (L + 2) 0 (by omega) r_3 (cmE (σ 284) L 0) (⟨by omega, fun _ => by omega⟩) ((cm_le (Nat.zero_le _) hL6).2) (by rw [hq1.1]) _ hq1.2.1 _ _ _ hP hS (lv_sub hl [0, 1] rfl)

/-! the reference: the walks, on (laid by wip/whole/spec_model2.py) -/
theorem ok_yX11_goesBy : COK RX11 yX11_goesBy cX11_goesBy 4 (some .int) 0 := ⟨im_yX11_goesBy, se_RX11_yX11_goesBy, in_RX11, co_yX11_goesBy, ⟨rfl, by decide +kernel, by decide +kernel, by decide +kernel⟩, by decide⟩
set_option maxHeartbeats 1000000 in
set_option maxRecDepth 100000 in
theorem c_X11_goesBy (l : Launch) {D : va_G} {ct : Nat → ClassId} {ek ad : Nat → Nat} {N0 : Nat} {X : va_W} {F : State → Prop} (σ : Mem) (n : Nat) (mb : Nat) (hR : RowOK (σ 277) n mb) : MI l yX11_goesBy cX11_goesBy 4 (some .int) 4 D ct ek ad N0 X F [.ref (ad 276)] σ (fun r τ => r = gmV (σ 277) n n ∧ τ = goM σ n mb) := by
  refine ms0 (own := RX11) (by decide) rfl (Nat.le_of_ble_eq_true rfl) (fun p e s m args below meth c S hr hlocks hnm G hP hS ls hl => ?_)
  have hx := S.1
  have hb := S.2.1
  replace hl : lv_has ls 4 [(0, .ref (ad 276))] := hl
  have hn := hR.1
  have hn6 := hR.2.1
  have hm := hR.2.2.1
  have hm6 := hR.2.2.2.1
  have hBq := hR.2.2.2.2.2.2
  refine lv_iconst (v := 0) hx hb dX11_goesBy_0 (by decide) ?_
  refine lv_istore_n (lv' := [(1, .int 0), (0, .ref (ad 276))]) hx hb dX11_goesBy_1 rfl hl (by decide) rfl (fun ls hl => ?_)
  refine lv_iconst (v := 0) hx hb dX11_goesBy_2 (by decide) ?_
  refine lv_istore_n (lv' := [(2, .int 0), (1, .int 0), (0, .ref (ad 276))]) hx hb dX11_goesBy_3 rfl hl (by decide) rfl (fun ls hl => ?_)
  have key_4 : ∀ (d k : Nat), k + d = n → ∀ (H : Heap) (locs : List Loc) (ls : Array Slot), wP D ct ek ad X (sb σ 282 (fil (mvR (σ 277) n) (σ 282) k)) H → va_S (fr N0) s.heap H locs → lv_has ls 4 [(2, .int (nI k)), (1, .int 0), (0, .ref (ad 276))] → W p l e (rmd 4 0 0) s m args below meth c H locs 0 0 (MQ below (wQi D ct ek ad N0 X (fun r τ => r = gmV (σ 277) n n ∧ τ = goM σ n mb)) args s 0 0 (fr N0)) (F0 m 4 ls []) := by
    intro d
    induction d with
    | zero =>
      intro k9 hk
      obtain rfl : n = k9 := by omega
      intro  H locs ls hP hS hl
      refine lv_iload_n hx hb dX11_goesBy_4 rfl (lv_at hl 0 rfl) ?_
      refine lv_aload_n hx hb dX11_goesBy_5 rfl (lv_at hl 2 rfl) ?_
      refine gf S G hP 276 0 (by decide) oM rfl inX11 (by decide) fl_RX11_9 rfl rfl dX11_goesBy_6 ?_
      refine lv_iconst (v := 0) hx hb dX11_goesBy_9 (by decide) ?_
      refine ald S G hP 277 0 (by decide) (aM277 _) (by decide) (by omega) (by decide) dX11_goesBy_10 ?_
      refine lv_icmp_ge (tgt := 31) hx hb dX11_goesBy_11 (by decide) (fun c_11 => ?_) (fun c_11 => absurd (by rw [(show (sb σ 282 (fil (mvR (σ 277) n) (σ 282) n)) 277 0 = nI n from by rw [sb_n (by decide)]; exact hn)]; exact nI_le (by omega) (by omega)) c_11)
      refine lv_iconst (v := 0) hx hb dX11_goesBy_31 (by decide) ?_
      refine lv_istore_n (lv' := [(2, .int 0), (1, .int 0), (0, .ref (ad 276))]) hx hb dX11_goesBy_32 rfl hl (by decide) rfl (fun ls hl => ?_)
      have key_33 : ∀ (d k : Nat), k + d = n → ∀ (H : Heap) (locs : List Loc) (ls : Array Slot), wP D ct ek ad X (sb (sb σ 282 (fil (mvR (σ 277) n) (σ 282) n)) 277 (gpK (mvR (σ 277) n) (σ 277) k)) H → va_S (fr N0) s.heap H locs → lv_has ls 4 [(2, .int (nI k)), (1, .int (gmV (σ 277) n k)), (0, .ref (ad 276))] → W p l e (rmd 4 0 0) s m args below meth c H locs 0 0 (MQ below (wQi D ct ek ad N0 X (fun r τ => r = gmV (σ 277) n n ∧ τ = goM σ n mb)) args s 0 0 (fr N0)) (F0 m 33 ls []) := by
        intro d
        induction d with
        | zero =>
          intro k9 hk
          obtain rfl : n = k9 := by omega
          intro  H locs ls hP hS hl
          refine lv_iload_n hx hb dX11_goesBy_33 rfl (lv_at hl 0 rfl) ?_
          refine lv_aload_n hx hb dX11_goesBy_34 rfl (lv_at hl 2 rfl) ?_
          refine gf S G hP 276 0 (by decide) oM rfl inX11 (by decide) fl_RX11_9 rfl rfl dX11_goesBy_35 ?_
          refine lv_iconst (v := 0) hx hb dX11_goesBy_38 (by decide) ?_
          refine ald S G hP 277 0 (by decide) (aM277 _) (by decide) (by omega) (by decide) dX11_goesBy_39 ?_
          refine lv_icmp_ge (tgt := 145) hx hb dX11_goesBy_40 (by decide) (fun c_40 => ?_) (fun c_40 => absurd (by rw [(show (sb (sb σ 282 (fil (mvR (σ 277) n) (σ 282) n)) 277 (gpK (mvR (σ 277) n) (σ 277) n)) 277 0 = nI n from by rw [sb_s, gpK_out (by omega) _ (by omega)]; exact hn)]; exact nI_le (by omega) (by omega)) c_40)
          refine lv_iconst (v := 0) hx hb dX11_goesBy_145 (by decide) ?_
          refine lv_istore_n (lv' := [(2, .int 0), (1, .int (gmV (σ 277) n n)), (0, .ref (ad 276))]) hx hb dX11_goesBy_146 rfl hl (by decide) rfl (fun ls hl => ?_)
          have key_147 : ∀ (d k : Nat), k + d = mb → ∀ (r : Nat → Int32), ∀ (b : Nat), ∀ (m9 : Nat), (b + d = m9) → (r 1 = nI m9) → (m9 ≤ 6) → (∀ q, q < m9 → okB r q) → (gbw d r b m9 = gbN (σ 277) n mb) → ∀ (H : Heap) (locs : List Loc) (ls : Array Slot), wP D ct ek ad X (sb (sb σ 282 (fil (mvR (σ 277) n) (σ 282) n)) 277 r) H → va_S (fr N0) s.heap H locs → lv_has ls 4 [(2, .int (nI b)), (1, .int (gmV (σ 277) n n)), (0, .ref (ad 276))] → W p l e (rmd 4 0 0) s m args below meth c H locs 0 0 (MQ below (wQi D ct ek ad N0 X (fun r τ => r = gmV (σ 277) n n ∧ τ = goM σ n mb)) args s 0 0 (fr N0)) (F0 m 147 ls []) := by
            intro d
            induction d with
            | zero =>
              intro k9 hk
              obtain rfl : mb = k9 := by omega
              intro r b m9 hb9 hr1 hm9 hok hgb H locs ls hP hS hl
              refine lv_iload_n hx hb dX11_goesBy_147 rfl (lv_at hl 0 rfl) ?_
              refine lv_aload_n hx hb dX11_goesBy_148 rfl (lv_at hl 2 rfl) ?_
              refine gf S G hP 276 0 (by decide) oM rfl inX11 (by decide) fl_RX11_9 rfl rfl dX11_goesBy_149 ?_
              refine lv_iconst (v := 1) hx hb dX11_goesBy_152 (by decide) ?_
              refine ald S G hP 277 1 (by decide) (aM277 _) (by decide) (by omega) (by decide) dX11_goesBy_153 ?_
              refine lv_tope (y := nI m9) (by rw [sb_s]; exact hr1) ?_
              refine lv_icmp_ge (tgt := 246) hx hb dX11_goesBy_154 (by decide) (fun c_154 => ?_) (fun c_154 => absurd (nI_le (by omega) (by omega)) c_154)
              refine lv_aload_n hx hb dX11_goesBy_246 rfl (lv_at hl 2 rfl) ?_
              refine gf S G hP 276 0 (by decide) oM rfl inX11 (by decide) fl_RX11_9 rfl rfl dX11_goesBy_247 ?_
              refine lv_iconst (v := 2) hx hb dX11_goesBy_250 (by decide) ?_
              refine lv_dup2_11 hx hb dX11_goesBy_251 rfl rfl ?_
              refine ald S G hP 277 2 (by decide) (aM277 _) (by decide) (by omega) (by decide) dX11_goesBy_252 ?_
              refine lv_tope (y := r 2) (by rw [sb_s]) ?_
              refine lv_iconst (v := 1) hx hb dX11_goesBy_253 (by decide) ?_
              refine lv_iadd hx hb dX11_goesBy_254 ?_
              refine ast S G hP hS 277 2 (by decide) aM277 (by decide) (by omega) (by decide) dX11_goesBy_255 (fun H locs hP hS => ?_)
              refine lv_iload_n hx hb dX11_goesBy_256 rfl (lv_at hl 1 rfl) ?_
              exact eI S hr hlocks hP hS dX11_goesBy_257 (by refine ⟨rfl, ?_⟩; rw [sg_sb]; unfold goM goR; rw [← hgb]; rfl)
            | succ d ih =>
              intro k hk r b m9 hb9 hr1 hm9 hok hgb H locs ls hP hS hl
              have hkn : k < mb := by omega
              refine lv_iload_n hx hb dX11_goesBy_147 rfl (lv_at hl 0 rfl) ?_
              refine lv_aload_n hx hb dX11_goesBy_148 rfl (lv_at hl 2 rfl) ?_
              refine gf S G hP 276 0 (by decide) oM rfl inX11 (by decide) fl_RX11_9 rfl rfl dX11_goesBy_149 ?_
              refine lv_iconst (v := 1) hx hb dX11_goesBy_152 (by decide) ?_
              refine ald S G hP 277 1 (by decide) (aM277 _) (by decide) (by omega) (by decide) dX11_goesBy_153 ?_
              refine lv_tope (y := nI m9) (by rw [sb_s]; exact hr1) ?_
              refine lv_icmp_ge (tgt := 246) hx hb dX11_goesBy_154 (by decide) (fun c_154 => absurd c_154 (nI_ge (by omega) (by omega))) (fun c_154 => ?_)
              refine lv_aload_n hx hb dX11_goesBy_157 rfl (lv_at hl 2 rfl) ?_
              refine lv_iload_n hx hb dX11_goesBy_158 rfl (lv_at hl 0 rfl) ?_
              refine cVie (As := [.int (nI b)]) S G 276 (c_X11_apart l (D := D) (ct := ct) (ek := ek) (ad := ad) (N0 := N0) (X := X) (F := F) (sb (sb σ 282 (fil (mvR (σ 277) n) (σ 282) n)) 277 r) b (by omega) (by rw [sb_s]; exact hok b (by omega))) ok_yX11_apart ml_RX11_135 (by decide) oM rfl hP hS hl.1 rfl (by decide) rfl rfl (Nat.le_of_ble_eq_true rfl) ⟨Nat.zero_le _, Nat.zero_le _⟩ dX11_goesBy_159 (fun H locs hP hS => ?_)
              refine lv_tope (y := apR r b) (by rw [sb_s]) ?_
              refine lv_aload_n hx hb dX11_goesBy_162 rfl (lv_at hl 2 rfl) ?_
              refine lv_iload_n hx hb dX11_goesBy_163 rfl (lv_at hl 0 rfl) ?_
              refine lv_iconst (v := 2) hx hb dX11_goesBy_164 (by decide) ?_
              refine cVie (As := [.int (nI b), .int (nI 2)]) S G 276 (c_X11_beam l (D := D) (ct := ct) (ek := ek) (ad := ad) (N0 := N0) (X := X) (F := F) (sb (sb σ 282 (fil (mvR (σ 277) n) (σ 282) n)) 277 r) b (by omega) 2 (by omega)) ok_yX11_beam ml_RX11_79 (by decide) oM rfl hP hS hl.1 rfl (by decide) rfl rfl (Nat.le_of_ble_eq_true rfl) ⟨Nat.zero_le _, Nat.zero_le _⟩ dX11_goesBy_165 (fun H locs hP hS => ?_)
              refine lv_tope (y := r (72 + 4 * b + 2)) (by rw [sb_s]) ?_
              refine lv_icmp_le (tgt := 175) hx hb dX11_goesBy_168 (by decide) (fun c_168 => ?_) (fun c_168 => ?_)
              · refine lv_iconst (v := 0) hx hb dX11_goesBy_175 (by decide) ?_
                refine lv_istore_n (lv' := [(3, .int 0), (2, .int (nI b)), (1, .int (gmV (σ 277) n n)), (0, .ref (ad 276))]) hx hb dX11_goesBy_176 rfl hl (by decide) rfl (fun ls hl => ?_)
                refine lv_iload_n hx hb dX11_goesBy_177 rfl (lv_at hl 0 rfl) ?_
                refine lv_if_eq (tgt := 191) hx hb dX11_goesBy_178 (by decide) (fun c_178 => ?_) (fun c_178 => absurd (by decide) c_178)
                refine lv_iload_n hx hb dX11_goesBy_191 rfl (lv_at hl 0 rfl) ?_
                refine lv_if_eq (tgt := 212) hx hb dX11_goesBy_192 (by decide) (fun c_192 => ?_) (fun c_192 => absurd (by decide) c_192)
                replace hP := wP_e hP (show _ = sb (sb σ 282 (fil (mvR (σ 277) n) (σ 282) n)) 277 (crkR r b) from by rw [crkR, if_pos c_168])
                refine lv_aload_n hx hb dX11_goesBy_212 rfl (lv_at hl 3 rfl) ?_
                refine lv_iload_n hx hb dX11_goesBy_213 rfl (lv_at hl 1 rfl) ?_
                refine lv_iconst (v := 3) hx hb dX11_goesBy_214 (by decide) ?_
                refine cVie (As := [.int (nI b), .int (nI 3)]) S G 276 (c_X11_beam l (D := D) (ct := ct) (ek := ek) (ad := ad) (N0 := N0) (X := X) (F := F) (sb (sb σ 282 (fil (mvR (σ 277) n) (σ 282) n)) 277 (crkR r b)) b (by omega) 3 (by omega)) ok_yX11_beam ml_RX11_79 (by decide) oM rfl hP hS hl.1 rfl (by decide) rfl rfl (Nat.le_of_ble_eq_true rfl) ⟨Nat.zero_le _, Nat.zero_le _⟩ dX11_goesBy_215 (fun H locs hP hS => ?_)
                refine lv_tope (y := crkR r b (72 + 4 * b + 3)) (by rw [sb_s]) ?_
                refine lv_iconst (v := 3) hx hb dX11_goesBy_218 (by decide) ?_
                refine lv_icmp_ne (tgt := 240) hx hb dX11_goesBy_219 (by decide) (fun c_219 => ?_) (fun c_219 => ?_)
                · refine lv_iinc (v := nI (b + 1)) (lv' := [(2, .int (nI (b + 1))), (3, .int 0), (1, .int (gmV (σ 277) n n)), (0, .ref (ad 276))]) hx hb dX11_goesBy_240 hl (k := 1) rfl (nI_inc _) (by decide) rfl (fun ls hl => ?_)
                  refine lv_goto (tgt := 147) hx hb dX11_goesBy_243 (by decide) ?_
                  exact ih (k + 1) (by omega) (crkR r b) (b + 1) m9 (by omega) (by rw [crkR_out (by omega) (by omega)]; exact hr1) hm9 (fun q hq => okB_c (fun w hw => by rw [crkR_out (by omega) (by omega)]) (hok q hq)) (by rw [← hgb]; exact (if_neg c_219).symm) _ _ _ hP hS (by first | (refine lv_v (lv_sub (l' := [(2, .int (nI (b + 1))), (1, .int (gmV (σ 277) n n)), (0, .ref (ad 276))]) hl [0, 2, 3] rfl) ?_; simp [fo, c_11, c_40, c_154, c_168, c_178, c_192, c_219]; done) | exact lv_sub hl [0, 2, 3] rfl)
                · refine lv_aload_n hx hb dX11_goesBy_222 rfl (lv_at hl 3 rfl) ?_
                  refine gf S G hP 276 0 (by decide) oM rfl inX11 (by decide) fl_RX11_9 rfl rfl dX11_goesBy_223 ?_
                  refine lv_iconst (v := 5) hx hb dX11_goesBy_226 (by decide) ?_
                  refine lv_dup2_11 hx hb dX11_goesBy_227 rfl rfl ?_
                  refine ald S G hP 277 5 (by decide) (aM277 _) (by decide) (by omega) (by decide) dX11_goesBy_228 ?_
                  refine lv_tope (y := crkR r b 5) (by rw [sb_s]) ?_
                  refine lv_iconst (v := 1) hx hb dX11_goesBy_229 (by decide) ?_
                  refine lv_iadd hx hb dX11_goesBy_230 ?_
                  refine ast S G hP hS 277 5 (by decide) aM277 (by decide) (by omega) (by decide) dX11_goesBy_231 (fun H locs hP hS => ?_)
                  rw [sg_sb] at hP
                  replace hP : wP D ct ek ad X (sb (sb σ 282 (fil (mvR (σ 277) n) (σ 282) n)) 277 (upd (crkR r b) 5 (crkR r b 5 + 1))) H := hP
                  refine lv_aload_n hx hb dX11_goesBy_232 rfl (lv_at hl 3 rfl) ?_
                  refine lv_iload_n hx hb dX11_goesBy_233 rfl (lv_at hl 1 rfl) ?_
                  refine cVve (As := [.int (nI b)]) S G 276 (c_X11_drops l (D := D) (ct := ct) (ek := ek) (ad := ad) (N0 := N0) (X := X) (F := F) (sb (sb σ 282 (fil (mvR (σ 277) n) (σ 282) n)) 277 (upd (crkR r b) 5 (crkR r b 5 + 1))) b (by omega) m9 (by rw [sb_s, pk_un (by omega), crkR_out (by omega) (by omega)]; exact hr1) hm9 (by omega)) ok_yX11_drops ml_RX11_138 (by decide) oM rfl hP hS hl.1 rfl (by decide) rfl rfl (Nat.le_of_ble_eq_true rfl) ⟨Nat.zero_le _, Nat.zero_le _⟩ dX11_goesBy_234 (fun H locs hP hS => ?_)
                  rw [sb_s, sb_sb] at hP
                  replace hP : wP D ct ek ad X (sb (sb σ 282 (fil (mvR (σ 277) n) (σ 282) n)) 277 (drpR (upd (crkR r b) 5 (crkR r b 5 + 1)) b m9)) H := hP
                  refine lv_goto (tgt := 243) hx hb dX11_goesBy_237 (by decide) ?_
                  refine lv_goto (tgt := 147) hx hb dX11_goesBy_243 (by decide) ?_
                  exact ih (k + 1) (by omega) (drpR (upd (crkR r b) 5 (crkR r b 5 + 1)) b m9) b (m9 - 1) (by omega) drpR_1 (by omega) (fun q hq => okB_drp hq (fun q hq => okB_c (fun w hw => by rw [pk_un (by omega), crkR_out (by omega) (by omega)]) (hok q hq))) (by rw [← hgb]; exact (if_pos c_219).symm) _ _ _ hP hS (by first | (refine lv_v (lv_sub (l' := [(2, .int (nI b)), (1, .int (gmV (σ 277) n n)), (0, .ref (ad 276))]) hl [1, 2, 3] rfl) ?_; simp [fo, c_11, c_40, c_154, c_168, c_178, c_192, c_219]; done) | exact lv_sub hl [1, 2, 3] rfl)
              · refine lv_iconst (v := 1) hx hb dX11_goesBy_171 (by decide) ?_
                refine lv_goto (tgt := 176) hx hb dX11_goesBy_172 (by decide) ?_
                refine lv_istore_n (lv' := [(3, .int 1), (2, .int (nI b)), (1, .int (gmV (σ 277) n n)), (0, .ref (ad 276))]) hx hb dX11_goesBy_176 rfl hl (by decide) rfl (fun ls hl => ?_)
                refine lv_iload_n hx hb dX11_goesBy_177 rfl (lv_at hl 0 rfl) ?_
                refine lv_if_eq (tgt := 191) hx hb dX11_goesBy_178 (by decide) (fun c_178 => absurd c_178 (by decide)) (fun c_178 => ?_)
                refine lv_aload_n hx hb dX11_goesBy_181 rfl (lv_at hl 3 rfl) ?_
                refine gf S G hP 276 0 (by decide) oM rfl inX11 (by decide) fl_RX11_9 rfl rfl dX11_goesBy_182 ?_
                refine lv_iconst (v := 4) hx hb dX11_goesBy_185 (by decide) ?_
                refine lv_dup2_11 hx hb dX11_goesBy_186 rfl rfl ?_
                refine ald S G hP 277 4 (by decide) (aM277 _) (by decide) (by omega) (by decide) dX11_goesBy_187 ?_
                refine lv_tope (y := r 4) (by rw [sb_s]) ?_
                refine lv_iconst (v := 1) hx hb dX11_goesBy_188 (by decide) ?_
                refine lv_iadd hx hb dX11_goesBy_189 ?_
                refine ast S G hP hS 277 4 (by decide) aM277 (by decide) (by omega) (by decide) dX11_goesBy_190 (fun H locs hP hS => ?_)
                rw [sg_sb] at hP
                replace hP : wP D ct ek ad X (sb (sb σ 282 (fil (mvR (σ 277) n) (σ 282) n)) 277 (upd r 4 (r 4 + 1))) H := hP
                refine lv_iload_n hx hb dX11_goesBy_191 rfl (lv_at hl 0 rfl) ?_
                refine lv_if_eq (tgt := 212) hx hb dX11_goesBy_192 (by decide) (fun c_192 => absurd c_192 (by decide)) (fun c_192 => ?_)
                refine lv_aload_n hx hb dX11_goesBy_195 rfl (lv_at hl 3 rfl) ?_
                refine gf S G hP 276 0 (by decide) oM rfl inX11 (by decide) fl_RX11_9 rfl rfl dX11_goesBy_196 ?_
                refine lv_bipush (v := 72) hx hb dX11_goesBy_199 (by decide) ?_
                refine lv_iconst (v := 4) hx hb dX11_goesBy_201 (by decide) ?_
                refine lv_iload_n hx hb dX11_goesBy_202 rfl (lv_at hl 1 rfl) ?_
                refine nmul hx hb 4 b dX11_goesBy_203 (by decide) rfl ?_
                refine nadd hx hb 72 (4 * b) dX11_goesBy_204 (by decide) rfl ?_
                refine lv_iconst (v := 3) hx hb dX11_goesBy_205 (by decide) ?_
                refine nadd hx hb (72 + (4 * b)) 3 dX11_goesBy_206 rfl (by decide) ?_
                refine lv_dup2_11 hx hb dX11_goesBy_207 rfl rfl ?_
                refine ald S G hP 277 ((72 + (4 * b)) + 3) (by decide) (aM277 _) rfl (by omega) (by decide) dX11_goesBy_208 ?_
                refine lv_tope (y := r (72 + 4 * b + 3)) (by rw [sb_s, pk_un (by omega)]) ?_
                refine lv_iconst (v := 1) hx hb dX11_goesBy_209 (by decide) ?_
                refine lv_iadd hx hb dX11_goesBy_210 ?_
                refine ast S G hP hS 277 ((72 + (4 * b)) + 3) (by decide) aM277 rfl (by omega) (by decide) dX11_goesBy_211 (fun H locs hP hS => ?_)
                replace hP := wP_e hP (show _ = sb (sb σ 282 (fil (mvR (σ 277) n) (σ 282) n)) 277 (crkR r b) from by rw [sg_sb, crkR, if_neg c_168])
                refine lv_aload_n hx hb dX11_goesBy_212 rfl (lv_at hl 3 rfl) ?_
                refine lv_iload_n hx hb dX11_goesBy_213 rfl (lv_at hl 1 rfl) ?_
                refine lv_iconst (v := 3) hx hb dX11_goesBy_214 (by decide) ?_
                refine cVie (As := [.int (nI b), .int (nI 3)]) S G 276 (c_X11_beam l (D := D) (ct := ct) (ek := ek) (ad := ad) (N0 := N0) (X := X) (F := F) (sb (sb σ 282 (fil (mvR (σ 277) n) (σ 282) n)) 277 (crkR r b)) b (by omega) 3 (by omega)) ok_yX11_beam ml_RX11_79 (by decide) oM rfl hP hS hl.1 rfl (by decide) rfl rfl (Nat.le_of_ble_eq_true rfl) ⟨Nat.zero_le _, Nat.zero_le _⟩ dX11_goesBy_215 (fun H locs hP hS => ?_)
                refine lv_tope (y := crkR r b (72 + 4 * b + 3)) (by rw [sb_s]) ?_
                refine lv_iconst (v := 3) hx hb dX11_goesBy_218 (by decide) ?_
                refine lv_icmp_ne (tgt := 240) hx hb dX11_goesBy_219 (by decide) (fun c_219 => ?_) (fun c_219 => ?_)
                · refine lv_iinc (v := nI (b + 1)) (lv' := [(2, .int (nI (b + 1))), (3, .int 1), (1, .int (gmV (σ 277) n n)), (0, .ref (ad 276))]) hx hb dX11_goesBy_240 hl (k := 1) rfl (nI_inc _) (by decide) rfl (fun ls hl => ?_)
                  refine lv_goto (tgt := 147) hx hb dX11_goesBy_243 (by decide) ?_
                  exact ih (k + 1) (by omega) (crkR r b) (b + 1) m9 (by omega) (by rw [crkR_out (by omega) (by omega)]; exact hr1) hm9 (fun q hq => okB_c (fun w hw => by rw [crkR_out (by omega) (by omega)]) (hok q hq)) (by rw [← hgb]; exact (if_neg c_219).symm) _ _ _ hP hS (by first | (refine lv_v (lv_sub (l' := [(2, .int (nI (b + 1))), (1, .int (gmV (σ 277) n n)), (0, .ref (ad 276))]) hl [0, 2, 3] rfl) ?_; simp [fo, c_11, c_40, c_154, c_168, c_178, c_192, c_219]; done) | exact lv_sub hl [0, 2, 3] rfl)
                · refine lv_aload_n hx hb dX11_goesBy_222 rfl (lv_at hl 3 rfl) ?_
                  refine gf S G hP 276 0 (by decide) oM rfl inX11 (by decide) fl_RX11_9 rfl rfl dX11_goesBy_223 ?_
                  refine lv_iconst (v := 5) hx hb dX11_goesBy_226 (by decide) ?_
                  refine lv_dup2_11 hx hb dX11_goesBy_227 rfl rfl ?_
                  refine ald S G hP 277 5 (by decide) (aM277 _) (by decide) (by omega) (by decide) dX11_goesBy_228 ?_
                  refine lv_tope (y := crkR r b 5) (by rw [sb_s]) ?_
                  refine lv_iconst (v := 1) hx hb dX11_goesBy_229 (by decide) ?_
                  refine lv_iadd hx hb dX11_goesBy_230 ?_
                  refine ast S G hP hS 277 5 (by decide) aM277 (by decide) (by omega) (by decide) dX11_goesBy_231 (fun H locs hP hS => ?_)
                  rw [sg_sb] at hP
                  replace hP : wP D ct ek ad X (sb (sb σ 282 (fil (mvR (σ 277) n) (σ 282) n)) 277 (upd (crkR r b) 5 (crkR r b 5 + 1))) H := hP
                  refine lv_aload_n hx hb dX11_goesBy_232 rfl (lv_at hl 3 rfl) ?_
                  refine lv_iload_n hx hb dX11_goesBy_233 rfl (lv_at hl 1 rfl) ?_
                  refine cVve (As := [.int (nI b)]) S G 276 (c_X11_drops l (D := D) (ct := ct) (ek := ek) (ad := ad) (N0 := N0) (X := X) (F := F) (sb (sb σ 282 (fil (mvR (σ 277) n) (σ 282) n)) 277 (upd (crkR r b) 5 (crkR r b 5 + 1))) b (by omega) m9 (by rw [sb_s, pk_un (by omega), crkR_out (by omega) (by omega)]; exact hr1) hm9 (by omega)) ok_yX11_drops ml_RX11_138 (by decide) oM rfl hP hS hl.1 rfl (by decide) rfl rfl (Nat.le_of_ble_eq_true rfl) ⟨Nat.zero_le _, Nat.zero_le _⟩ dX11_goesBy_234 (fun H locs hP hS => ?_)
                  rw [sb_s, sb_sb] at hP
                  replace hP : wP D ct ek ad X (sb (sb σ 282 (fil (mvR (σ 277) n) (σ 282) n)) 277 (drpR (upd (crkR r b) 5 (crkR r b 5 + 1)) b m9)) H := hP
                  refine lv_goto (tgt := 243) hx hb dX11_goesBy_237 (by decide) ?_
                  refine lv_goto (tgt := 147) hx hb dX11_goesBy_243 (by decide) ?_
                  exact ih (k + 1) (by omega) (drpR (upd (crkR r b) 5 (crkR r b 5 + 1)) b m9) b (m9 - 1) (by omega) drpR_1 (by omega) (fun q hq => okB_drp hq (fun q hq => okB_c (fun w hw => by rw [pk_un (by omega), crkR_out (by omega) (by omega)]) (hok q hq))) (by rw [← hgb]; exact (if_pos c_219).symm) _ _ _ hP hS (by first | (refine lv_v (lv_sub (l' := [(2, .int (nI b)), (1, .int (gmV (σ 277) n n)), (0, .ref (ad 276))]) hl [1, 2, 3] rfl) ?_; simp [fo, c_11, c_40, c_154, c_168, c_178, c_192, c_219]; done) | exact lv_sub hl [1, 2, 3] rfl)
          exact key_147 mb 0 (by omega) (gpK (mvR (σ 277) n) (σ 277) n) 0 mb (by omega) (by rw [gpK_out (by omega) _ (by omega)]; exact hm) hm6 (fun q hq => okB_c (fun w hw => gpK_out (by omega) _ (by omega)) (hBq q hq)) rfl _ _ _ hP hS (lv_sub hl [0, 1, 2] rfl)
        | succ d ih =>
          intro k hk  H locs ls hP hS hl
          have hkn : k < n := by omega
          refine lv_iload_n hx hb dX11_goesBy_33 rfl (lv_at hl 0 rfl) ?_
          refine lv_aload_n hx hb dX11_goesBy_34 rfl (lv_at hl 2 rfl) ?_
          refine gf S G hP 276 0 (by decide) oM rfl inX11 (by decide) fl_RX11_9 rfl rfl dX11_goesBy_35 ?_
          refine lv_iconst (v := 0) hx hb dX11_goesBy_38 (by decide) ?_
          refine ald S G hP 277 0 (by decide) (aM277 _) (by decide) (by omega) (by decide) dX11_goesBy_39 ?_
          refine lv_icmp_ge (tgt := 145) hx hb dX11_goesBy_40 (by decide) (fun c_40 => absurd c_40 (by rw [(show (sb (sb σ 282 (fil (mvR (σ 277) n) (σ 282) n)) 277 (gpK (mvR (σ 277) n) (σ 277) k)) 277 0 = nI n from by rw [sb_s, gpK_out (by omega) _ (by omega)]; exact hn)]; exact nI_ge (by omega) (by omega))) (fun c_40 => ?_)
          refine lv_aload_n hx hb dX11_goesBy_43 rfl (lv_at hl 2 rfl) ?_
          refine gf S G hP 276 7 (by decide) oM rfl inX11 (by decide) fl_RX11_25 rfl rfl dX11_goesBy_44 ?_
          refine lv_iload_n hx hb dX11_goesBy_47 rfl (lv_at hl 0 rfl) ?_
          refine ald S G hP 282 k (by decide) (aM282 _) rfl (by omega) (by decide) dX11_goesBy_48 ?_
          refine lv_tope (y := mvR (σ 277) n k) (by simp [sbAp, fil, hkn]) ?_
          refine rabs S rfl (by decide) hl.1 ml_RX11_86 (Nat.le_of_ble_eq_true rfl) ⟨Nat.zero_le _, Nat.zero_le _⟩ dX11_goesBy_49 ?_
          refine lv_istore_n (lv' := [(3, .int (abI (mvR (σ 277) n k))), (2, .int (nI k)), (1, .int (gmV (σ 277) n k)), (0, .ref (ad 276))]) hx hb dX11_goesBy_52 rfl hl (by decide) rfl (fun ls hl => ?_)
          refine lv_aload_n hx hb dX11_goesBy_53 rfl (lv_at hl 3 rfl) ?_
          refine lv_iload_n hx hb dX11_goesBy_54 rfl (lv_at hl 1 rfl) ?_
          refine lv_iconst (v := 0) hx hb dX11_goesBy_55 (by decide) ?_
          refine lv_aload_n hx hb dX11_goesBy_56 rfl (lv_at hl 3 rfl) ?_
          refine lv_iload_n hx hb dX11_goesBy_57 rfl (lv_at hl 1 rfl) ?_
          refine lv_iconst (v := 0) hx hb dX11_goesBy_58 (by decide) ?_
          refine cVie (As := [.int (nI k), .int (nI 0)]) S G 276 (c_X11_of l (D := D) (ct := ct) (ek := ek) (ad := ad) (N0 := N0) (X := X) (F := F) (sb (sb σ 282 (fil (mvR (σ 277) n) (σ 282) n)) 277 (gpK (mvR (σ 277) n) (σ 277) k)) k (by omega) 0 (by omega)) ok_yX11_of ml_RX11_83 (by decide) oM rfl hP hS hl.1 rfl (by decide) rfl rfl (Nat.le_of_ble_eq_true rfl) ⟨Nat.zero_le _, Nat.zero_le _⟩ dX11_goesBy_59 (fun H locs hP hS => ?_)
          refine lv_tope (y := gpK (mvR (σ 277) n) (σ 277) k (6 + 5 * k + 0)) (by rw [sb_s]) ?_
          refine lv_aload_n hx hb dX11_goesBy_62 rfl (lv_at hl 3 rfl) ?_
          refine gf S G hP 276 7 (by decide) oM rfl inX11 (by decide) fl_RX11_25 rfl rfl dX11_goesBy_63 ?_
          refine lv_iload_n hx hb dX11_goesBy_66 rfl (lv_at hl 1 rfl) ?_
          refine ald S G hP 282 k (by decide) (aM282 _) rfl (by omega) (by decide) dX11_goesBy_67 ?_
          refine lv_tope (y := mvR (σ 277) n k) (by simp [sbAp, fil, hkn]) ?_
          refine lv_iadd hx hb dX11_goesBy_68 ?_
          refine cVve (As := [.int (nI k), .int (nI 0), .int ((gpK (mvR (σ 277) n) (σ 277) k (6 + 5 * k + 0)) + (mvR (σ 277) n k))]) S G 276 (c_X11_sets l (D := D) (ct := ct) (ek := ek) (ad := ad) (N0 := N0) (X := X) (F := F) (sb (sb σ 282 (fil (mvR (σ 277) n) (σ 282) n)) 277 (gpK (mvR (σ 277) n) (σ 277) k)) k (by omega) 0 (by omega) ((gpK (mvR (σ 277) n) (σ 277) k (6 + 5 * k + 0)) + (mvR (σ 277) n k))) ok_yX11_sets ml_RX11_109 (by decide) oM rfl hP hS hl.1 rfl (by decide) rfl rfl (Nat.le_of_ble_eq_true rfl) ⟨Nat.zero_le _, Nat.zero_le _⟩ dX11_goesBy_69 (fun H locs hP hS => ?_)
          rw [sg_sb] at hP
          replace hP : wP D ct ek ad X (sb (sb σ 282 (fil (mvR (σ 277) n) (σ 282) n)) 277 (gp1 (mvR (σ 277) n) k (gpK (mvR (σ 277) n) (σ 277) k))) H := hP
          refine lv_aload_n hx hb dX11_goesBy_72 rfl (lv_at hl 3 rfl) ?_
          refine lv_iload_n hx hb dX11_goesBy_73 rfl (lv_at hl 1 rfl) ?_
          refine lv_iconst (v := 4) hx hb dX11_goesBy_74 (by decide) ?_
          refine lv_aload_n hx hb dX11_goesBy_75 rfl (lv_at hl 3 rfl) ?_
          refine lv_iload_n hx hb dX11_goesBy_76 rfl (lv_at hl 1 rfl) ?_
          refine lv_iconst (v := 4) hx hb dX11_goesBy_77 (by decide) ?_
          refine cVie (As := [.int (nI k), .int (nI 4)]) S G 276 (c_X11_of l (D := D) (ct := ct) (ek := ek) (ad := ad) (N0 := N0) (X := X) (F := F) (sb (sb σ 282 (fil (mvR (σ 277) n) (σ 282) n)) 277 (gp1 (mvR (σ 277) n) k (gpK (mvR (σ 277) n) (σ 277) k))) k (by omega) 4 (by omega)) ok_yX11_of ml_RX11_83 (by decide) oM rfl hP hS hl.1 rfl (by decide) rfl rfl (Nat.le_of_ble_eq_true rfl) ⟨Nat.zero_le _, Nat.zero_le _⟩ dX11_goesBy_78 (fun H locs hP hS => ?_)
          refine lv_tope (y := gp1 (mvR (σ 277) n) k (gpK (mvR (σ 277) n) (σ 277) k) (6 + 5 * k + 4)) (by rw [sb_s]) ?_
          refine lv_iload_n hx hb dX11_goesBy_81 rfl (lv_at hl 0 rfl) ?_
          refine lv_iadd hx hb dX11_goesBy_82 ?_
          refine cVve (As := [.int (nI k), .int (nI 4), .int ((gp1 (mvR (σ 277) n) k (gpK (mvR (σ 277) n) (σ 277) k) (6 + 5 * k + 4)) + (abI (mvR (σ 277) n k)))]) S G 276 (c_X11_sets l (D := D) (ct := ct) (ek := ek) (ad := ad) (N0 := N0) (X := X) (F := F) (sb (sb σ 282 (fil (mvR (σ 277) n) (σ 282) n)) 277 (gp1 (mvR (σ 277) n) k (gpK (mvR (σ 277) n) (σ 277) k))) k (by omega) 4 (by omega) ((gp1 (mvR (σ 277) n) k (gpK (mvR (σ 277) n) (σ 277) k) (6 + 5 * k + 4)) + (abI (mvR (σ 277) n k)))) ok_yX11_sets ml_RX11_109 (by decide) oM rfl hP hS hl.1 rfl (by decide) rfl rfl (Nat.le_of_ble_eq_true rfl) ⟨Nat.zero_le _, Nat.zero_le _⟩ dX11_goesBy_83 (fun H locs hP hS => ?_)
          rw [sg_sb] at hP
          replace hP : wP D ct ek ad X (sb (sb σ 282 (fil (mvR (σ 277) n) (σ 282) n)) 277 (gp2 (mvR (σ 277) n) k (gpK (mvR (σ 277) n) (σ 277) k))) H := hP
          refine lv_iload_n hx hb dX11_goesBy_86 rfl (lv_at hl 0 rfl) ?_
          have jn_87_1 : ∀ (H : Heap) (locs : List Loc) (ls : Array Slot), wP D ct ek ad X (sb (sb σ 282 (fil (mvR (σ 277) n) (σ 282) n)) 277 (gp2 (mvR (σ 277) n) k (gpK (mvR (σ 277) n) (σ 277) k))) H → va_S (fr N0) s.heap H locs → lv_has ls 4 [(3, .int (abI (mvR (σ 277) n k))), (2, .int (nI k)), (1, .int (if abI (mvR (σ 277) n k) ≤ 0 then gmV (σ 277) n k else gmV (σ 277) n k + 1)), (0, .ref (ad 276))] → W p l e (rmd 4 0 0) s m args below meth c H locs 0 0 (MQ below (wQi D ct ek ad N0 X (fun r τ => r = gmV (σ 277) n n ∧ τ = goM σ n mb)) args s 0 0 (fr N0)) (F0 m 93 ls []) := by
            intro H locs ls hP hS hl
            refine lv_iload_n hx hb dX11_goesBy_93 rfl (lv_at hl 0 rfl) ?_
            have jn_94_2 : ∀ (H : Heap) (locs : List Loc) (ls : Array Slot), wP D ct ek ad X (sb (sb σ 282 (fil (mvR (σ 277) n) (σ 282) n)) 277 (gp3 (mvR (σ 277) n) k (gpK (mvR (σ 277) n) (σ 277) k))) H → va_S (fr N0) s.heap H locs → lv_has ls 4 [(3, .int (abI (mvR (σ 277) n k))), (2, .int (nI k)), (1, .int (if abI (mvR (σ 277) n k) ≤ 0 then gmV (σ 277) n k else gmV (σ 277) n k + 1)), (0, .ref (ad 276))] → W p l e (rmd 4 0 0) s m args below meth c H locs 0 0 (MQ below (wQi D ct ek ad N0 X (fun r τ => r = gmV (σ 277) n n ∧ τ = goM σ n mb)) args s 0 0 (fr N0)) (F0 m 116 ls []) := by
              intro H locs ls hP hS hl
              refine lv_iload_n hx hb dX11_goesBy_116 rfl (lv_at hl 0 rfl) ?_
              refine lv_iconst (v := 3) hx hb dX11_goesBy_117 (by decide) ?_
              have jn_118_3 : ∀ (H : Heap) (locs : List Loc) (ls : Array Slot), wP D ct ek ad X (sb (sb σ 282 (fil (mvR (σ 277) n) (σ 282) n)) 277 (gpK (mvR (σ 277) n) (σ 277) (k + 1))) H → va_S (fr N0) s.heap H locs → lv_has ls 4 [(3, .int (abI (mvR (σ 277) n k))), (2, .int (nI k)), (1, .int (if abI (mvR (σ 277) n k) ≤ 0 then gmV (σ 277) n k else gmV (σ 277) n k + 1)), (0, .ref (ad 276))] → W p l e (rmd 4 0 0) s m args below meth c H locs 0 0 (MQ below (wQi D ct ek ad N0 X (fun r τ => r = gmV (σ 277) n n ∧ τ = goM σ n mb)) args s 0 0 (fr N0)) (F0 m 139 ls []) := by
                intro H locs ls hP hS hl
                refine lv_iinc (v := nI (k + 1)) (lv' := [(2, .int (nI (k + 1))), (3, .int (abI (mvR (σ 277) n k))), (1, .int (if abI (mvR (σ 277) n k) ≤ 0 then gmV (σ 277) n k else gmV (σ 277) n k + 1)), (0, .ref (ad 276))]) hx hb dX11_goesBy_139 hl (k := 1) rfl (nI_inc _) (by decide) rfl (fun ls hl => ?_)
                refine lv_goto (tgt := 33) hx hb dX11_goesBy_142 (by decide) ?_
                exact ih (k + 1) (by omega)  _ _ _ hP hS (lv_v (lv_sub (l' := [(2, .int (nI (k + 1))), (1, .int (if abI (mvR (σ 277) n k) ≤ 0 then gmV (σ 277) n k else gmV (σ 277) n k + 1)), (0, .ref (ad 276))]) hl [0, 2, 3] rfl) (by rw [gmV_s]))
              refine lv_icmp_lt (tgt := 139) hx hb dX11_goesBy_118 (by decide) (fun c_118 => ?_) (fun c_118 => ?_)
              · exact jn_118_3 _ _ _ (wP_e hP (by first | rw [gpK_s1 c_118] | rw [sg_sb, gpK_s2 c_118])) hS (lv_sub hl [0, 1, 2, 3] rfl)
              · refine lv_aload_n hx hb dX11_goesBy_121 rfl (lv_at hl 3 rfl) ?_
                refine lv_iload_n hx hb dX11_goesBy_122 rfl (lv_at hl 1 rfl) ?_
                refine lv_iconst (v := 1) hx hb dX11_goesBy_123 (by decide) ?_
                refine lv_iconst (v := 0) hx hb dX11_goesBy_124 (by decide) ?_
                refine lv_aload_n hx hb dX11_goesBy_125 rfl (lv_at hl 3 rfl) ?_
                refine lv_iload_n hx hb dX11_goesBy_126 rfl (lv_at hl 1 rfl) ?_
                refine lv_iconst (v := 1) hx hb dX11_goesBy_127 (by decide) ?_
                refine cVie (As := [.int (nI k), .int (nI 1)]) S G 276 (c_X11_of l (D := D) (ct := ct) (ek := ek) (ad := ad) (N0 := N0) (X := X) (F := F) (sb (sb σ 282 (fil (mvR (σ 277) n) (σ 282) n)) 277 (gp3 (mvR (σ 277) n) k (gpK (mvR (σ 277) n) (σ 277) k))) k (by omega) 1 (by omega)) ok_yX11_of ml_RX11_83 (by decide) oM rfl hP hS hl.1 rfl (by decide) rfl rfl (Nat.le_of_ble_eq_true rfl) ⟨Nat.zero_le _, Nat.zero_le _⟩ dX11_goesBy_128 (fun H locs hP hS => ?_)
                refine lv_tope (y := gp3 (mvR (σ 277) n) k (gpK (mvR (σ 277) n) (σ 277) k) (6 + 5 * k + 1)) (by rw [sb_s]) ?_
                refine lv_iconst (v := 1) hx hb dX11_goesBy_131 (by decide) ?_
                refine lv_isub hx hb dX11_goesBy_132 ?_
                refine rmax S rfl (by decide) hl.1 ml_RX11_106 (Nat.le_of_ble_eq_true rfl) ⟨Nat.zero_le _, Nat.zero_le _⟩ dX11_goesBy_133 ?_
                refine cVve (As := [.int (nI k), .int (nI 1), .int (mxI 0 ((gp3 (mvR (σ 277) n) k (gpK (mvR (σ 277) n) (σ 277) k) (6 + 5 * k + 1)) - 1))]) S G 276 (c_X11_sets l (D := D) (ct := ct) (ek := ek) (ad := ad) (N0 := N0) (X := X) (F := F) (sb (sb σ 282 (fil (mvR (σ 277) n) (σ 282) n)) 277 (gp3 (mvR (σ 277) n) k (gpK (mvR (σ 277) n) (σ 277) k))) k (by omega) 1 (by omega) (mxI 0 ((gp3 (mvR (σ 277) n) k (gpK (mvR (σ 277) n) (σ 277) k) (6 + 5 * k + 1)) - 1))) ok_yX11_sets ml_RX11_109 (by decide) oM rfl hP hS hl.1 rfl (by decide) rfl rfl (Nat.le_of_ble_eq_true rfl) ⟨Nat.zero_le _, Nat.zero_le _⟩ dX11_goesBy_136 (fun H locs hP hS => ?_)
                exact jn_118_3 _ _ _ (wP_e hP (by first | rw [gpK_s1 c_118] | rw [sg_sb, gpK_s2 c_118])) hS (lv_sub hl [0, 1, 2, 3] rfl)
            refine lv_if_ne (tgt := 116) hx hb dX11_goesBy_94 (by decide) (fun c_94 => ?_) (fun c_94 => ?_)
            · exact jn_94_2 _ _ _ (wP_e hP (by first | rw [gp3, if_neg c_94] | rw [sg_sb, gp3, if_pos c_94])) hS (lv_sub hl [0, 1, 2, 3] rfl)
            · refine lv_aload_n hx hb dX11_goesBy_97 rfl (lv_at hl 3 rfl) ?_
              refine lv_iload_n hx hb dX11_goesBy_98 rfl (lv_at hl 1 rfl) ?_
              refine lv_iconst (v := 1) hx hb dX11_goesBy_99 (by decide) ?_
              refine lv_bipush (v := 9) hx hb dX11_goesBy_100 (by decide) ?_
              refine lv_aload_n hx hb dX11_goesBy_102 rfl (lv_at hl 3 rfl) ?_
              refine lv_iload_n hx hb dX11_goesBy_103 rfl (lv_at hl 1 rfl) ?_
              refine lv_iconst (v := 1) hx hb dX11_goesBy_104 (by decide) ?_
              refine cVie (As := [.int (nI k), .int (nI 1)]) S G 276 (c_X11_of l (D := D) (ct := ct) (ek := ek) (ad := ad) (N0 := N0) (X := X) (F := F) (sb (sb σ 282 (fil (mvR (σ 277) n) (σ 282) n)) 277 (gp2 (mvR (σ 277) n) k (gpK (mvR (σ 277) n) (σ 277) k))) k (by omega) 1 (by omega)) ok_yX11_of ml_RX11_83 (by decide) oM rfl hP hS hl.1 rfl (by decide) rfl rfl (Nat.le_of_ble_eq_true rfl) ⟨Nat.zero_le _, Nat.zero_le _⟩ dX11_goesBy_105 (fun H locs hP hS => ?_)
              refine lv_tope (y := gp2 (mvR (σ 277) n) k (gpK (mvR (σ 277) n) (σ 277) k) (6 + 5 * k + 1)) (by rw [sb_s]) ?_
              refine lv_iconst (v := 1) hx hb dX11_goesBy_108 (by decide) ?_
              refine lv_iadd hx hb dX11_goesBy_109 ?_
              refine rmin S rfl (by decide) hl.1 ml_RX11_103 (Nat.le_of_ble_eq_true rfl) ⟨Nat.zero_le _, Nat.zero_le _⟩ dX11_goesBy_110 ?_
              refine cVve (As := [.int (nI k), .int (nI 1), .int (mnI 9 ((gp2 (mvR (σ 277) n) k (gpK (mvR (σ 277) n) (σ 277) k) (6 + 5 * k + 1)) + 1))]) S G 276 (c_X11_sets l (D := D) (ct := ct) (ek := ek) (ad := ad) (N0 := N0) (X := X) (F := F) (sb (sb σ 282 (fil (mvR (σ 277) n) (σ 282) n)) 277 (gp2 (mvR (σ 277) n) k (gpK (mvR (σ 277) n) (σ 277) k))) k (by omega) 1 (by omega) (mnI 9 ((gp2 (mvR (σ 277) n) k (gpK (mvR (σ 277) n) (σ 277) k) (6 + 5 * k + 1)) + 1))) ok_yX11_sets ml_RX11_109 (by decide) oM rfl hP hS hl.1 rfl (by decide) rfl rfl (Nat.le_of_ble_eq_true rfl) ⟨Nat.zero_le _, Nat.zero_le _⟩ dX11_goesBy_113 (fun H locs hP hS => ?_)
              exact jn_94_2 _ _ _ (wP_e hP (by first | rw [gp3, if_neg c_94] | rw [sg_sb, gp3, if_pos c_94])) hS (lv_sub hl [0, 1, 2, 3] rfl)
          refine lv_if_le (tgt := 93) hx hb dX11_goesBy_87 (by decide) (fun c_87 => ?_) (fun c_87 => ?_)
          · exact jn_87_1 _ _ _ hP hS (lv_v (lv_sub (l' := [(3, .int (abI (mvR (σ 277) n k))), (2, .int (nI k)), (1, .int (gmV (σ 277) n k)), (0, .ref (ad 276))]) hl [0, 1, 2, 3] rfl) (by first | (simp only [c_11, c_40, c_87, ↓reduceIte, if_true, if_false]; done) | (simp [c_11, c_40, c_87]; done) | rfl))
          · refine lv_iinc (v := (gmV (σ 277) n k) + 1) (lv' := [(1, .int ((gmV (σ 277) n k) + 1)), (3, .int (abI (mvR (σ 277) n k))), (2, .int (nI k)), (0, .ref (ad 276))]) hx hb dX11_goesBy_90 hl (k := 2) rfl rfl (by decide) rfl (fun ls hl => ?_)
            exact jn_87_1 _ _ _ hP hS (lv_v (lv_sub (l' := [(3, .int (abI (mvR (σ 277) n k))), (2, .int (nI k)), (1, .int ((gmV (σ 277) n k) + 1)), (0, .ref (ad 276))]) hl [1, 2, 0, 3] rfl) (by first | (simp only [c_11, c_40, c_87, ↓reduceIte, if_true, if_false]; done) | (simp [c_11, c_40, c_87]; done) | rfl))
      exact key_33 n 0 (by omega)  _ _ _ (wP_e hP (by rw [show gpK (mvR (σ 277) n) (σ 277) 0 = (sb σ 282 (fil (mvR (σ 277) n) (σ 282) n)) 277 from by rw [sb_n (by decide)]; rfl, sb_self])) hS (lv_sub hl [0, 1, 2] rfl)
    | succ d ih =>
      intro k hk  H locs ls hP hS hl
      have hkn : k < n := by omega
      refine lv_iload_n hx hb dX11_goesBy_4 rfl (lv_at hl 0 rfl) ?_
      refine lv_aload_n hx hb dX11_goesBy_5 rfl (lv_at hl 2 rfl) ?_
      refine gf S G hP 276 0 (by decide) oM rfl inX11 (by decide) fl_RX11_9 rfl rfl dX11_goesBy_6 ?_
      refine lv_iconst (v := 0) hx hb dX11_goesBy_9 (by decide) ?_
      refine ald S G hP 277 0 (by decide) (aM277 _) (by decide) (by omega) (by decide) dX11_goesBy_10 ?_
      refine lv_icmp_ge (tgt := 31) hx hb dX11_goesBy_11 (by decide) (fun c_11 => absurd c_11 (by rw [(show (sb σ 282 (fil (mvR (σ 277) n) (σ 282) k)) 277 0 = nI n from by rw [sb_n (by decide)]; exact hn)]; exact nI_ge (by omega) (by omega))) (fun c_11 => ?_)
      refine lv_aload_n hx hb dX11_goesBy_14 rfl (lv_at hl 2 rfl) ?_
      refine gf S G hP 276 7 (by decide) oM rfl inX11 (by decide) fl_RX11_25 rfl rfl dX11_goesBy_15 ?_
      refine lv_iload_n hx hb dX11_goesBy_18 rfl (lv_at hl 0 rfl) ?_
      refine lv_aload_n hx hb dX11_goesBy_19 rfl (lv_at hl 2 rfl) ?_
      refine lv_iload_n hx hb dX11_goesBy_20 rfl (lv_at hl 0 rfl) ?_
      refine cVie (As := [.int (nI k)]) S G 276 (c_X11_moves l (D := D) (ct := ct) (ek := ek) (ad := ad) (N0 := N0) (X := X) (F := F) (sb σ 282 (fil (mvR (σ 277) n) (σ 282) k)) k (by omega) n (by rw [sb_n (by decide)]; exact hn) (by omega) (by rw [sb_n (by decide)]; exact hR.hd (by omega))) ok_yX11_moves ml_RX11_132 (by decide) oM rfl hP hS hl.1 rfl (by decide) rfl rfl (Nat.le_of_ble_eq_true rfl) ⟨Nat.zero_le _, Nat.zero_le _⟩ dX11_goesBy_21 (fun H locs hP hS => ?_)
      refine lv_tope (y := mvR (σ 277) n k) (by rw [sb_n (by decide)]) ?_
      refine ast S G hP hS 282 k (by decide) aM282 rfl (by omega) (by decide) dX11_goesBy_24 (fun H locs hP hS => ?_)
      refine lv_iinc (v := nI (k + 1)) (lv' := [(2, .int (nI (k + 1))), (1, .int 0), (0, .ref (ad 276))]) hx hb dX11_goesBy_25 hl (k := 0) rfl (nI_inc _) (by decide) rfl (fun ls hl => ?_)
      refine lv_goto (tgt := 4) hx hb dX11_goesBy_28 (by decide) ?_
      exact ih (k + 1) (by omega)  _ _ _ (wP_e hP (by rw [sg_sb, fil_s rfl])) hS (by first | exact lv_sub hl [0, 1, 2] rfl | (refine lv_v (lv_sub (l' := [(2, .int (nI (k + 1))), (1, .int 0), (0, .ref (ad 276))]) hl [0, 1, 2] rfl) ?_; simp [fo, c_11]; done))
  exact key_4 n 0 (by omega)  _ _ _ (wP_e hP (by rw [fil_0, sb_self])) hS (lv_sub hl [0, 1, 2] rfl)

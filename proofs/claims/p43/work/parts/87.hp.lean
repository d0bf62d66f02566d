/-! the law's helpers over a ghost (laid by wip/p43/spec_help.py) -/
/-- what a helper answers for the i-th class of its handlers -/
def exV (i : Nat) : Int32 := match i with
  | 0 => -1001
  | 1 => -1002
  | _ => -1003
theorem ckh_person : CKH yL_person cL_person 4 (some .int) [(0, 6, 7, 13)] 3 := ⟨sm_yL_person, in_RL, co_yL_person, ⟨by decide +kernel, by decide +kernel, by decide +kernel⟩, by decide⟩
set_option maxHeartbeats 1000000 in
set_option maxRecDepth 100000 in
theorem h_person (l : Launch) {D : va_G} {ct : Nat → ClassId} {ek ad : Nat → Nat} {N0 d k : Nat} {X : va_W} {F : State → Prop} (hY : ∀ U, F U → FY U) (μ : Mem) (x y : Int32) {post : Mem → Int32 → Mem → Prop} {PX : Mem → String → Mem → Prop} {gp : Int32 → Mem → Prop}
    (hM : ∀ σ, CRel σ μ → MXi l yX10_person cX10_person 3 (some .int) d k D ct ek ad N0 X F (.ref (ad 0) :: [.int x, .int y]) σ (post σ) (PX σ))
    (hQ : ∀ σ r τ, CRel σ μ → post σ r τ → ∃ ν, CRel τ ν ∧ gp r ν)
    (hE : ∀ σ E τ, CRel σ μ → PX σ E τ → ∃ i, ([eUO] : List String)[i]? = some E ∧ ∃ ν, CRel τ ν ∧ gp (exV i) ν) :
    MG l yL_person (.codeWith yL_person cL_person 4 (some .int) [(0, 6, 7, 13)]) (d + 1) k D ct ek ad N0 X F [.ref (ad 0), .int x, .int y] μ (gQi D ct ek ad N0 X gp) := by
  refine msH (own := RL) (by decide) rfl (Nat.le_of_ble_eq_true rfl) (fun p e s m args below meth c S hr hlocks hT G hW hS ls hl => ?_)
  have hx := S.1
  have hb := S.2.1
  have FZ := hY s G.2.2.2.2.2
  replace hl : lv_has ls 4 [(0, .ref (ad 0)), (1, .int x), (2, .int y)] := hl
  obtain ⟨σ, hP0, hC⟩ := hW
  refine lv_aload_n hx hb dL_person_0 rfl (lv_at hl 0 rfl) ?_
  refine lv_iload_n hx hb dL_person_1 rfl (lv_at hl 1 rfl) ?_
  refine lv_iload_n hx hb dL_person_2 rfl (lv_at hl 2 rfl) ?_
  refine cLi (As := [.int x, .int y]) S G 0 (hM σ hC) ok_yX10_person ml_RL_7 (by decide) oX rfl hP0 hS hl.1 rfl (Nat.le_refl _) rfl rfl (Nat.le_of_ble_eq_true rfl) ⟨by omega, by omega⟩ dL_person_3 (fun E ce q τ H locs hp hP1 hS hce hcv hcl => ?_) (fun r τ H locs hp hP1 hS => ?_)
  · obtain ⟨i, hi, ν, hν, hg⟩ := hE σ E τ hC hp
    rcases i with _ | i
    · obtain rfl := Option.some.inj hi
      refine ctch (pre := []) (x := ⟨0, 6, 7, 13⟩) (suf := []) S FZ hT (fun z hz => absurd hz List.not_mem_nil) rfl (by decide) cl_RL_13 (by decide +kernel) hce hcv hcl ?_
      refine lv_astore_n (lv' := [(3, .ref q), (0, .ref (ad 0)), (1, .int x), (2, .int y)]) hx hb dL_person_7 rfl hl (by decide) rfl (fun ls hl => ?_)
      refine lv_sipush (v := (-1001)) hx hb dL_person_8 (by decide) ?_
      exact eGi S hr hlocks ⟨τ, hP1, hν⟩ hS ⟨by omega, by omega⟩ dL_person_11 (show gp (-1001) ν from hg)
    · exact absurd hi (by simp)
  · obtain ⟨ν, hν, hg⟩ := hQ σ r τ hC hp
    exact eGi S hr hlocks ⟨τ, hP1, hν⟩ hS ⟨by omega, by omega⟩ dL_person_6 hg
theorem ckh_friends : CKH yL_friends cL_friends 5 (some .int) [(0, 7, 8, 13)] 4 := ⟨sm_yL_friends, in_RL, co_yL_friends, ⟨by decide +kernel, by decide +kernel, by decide +kernel⟩, by decide⟩
set_option maxHeartbeats 1000000 in
set_option maxRecDepth 100000 in
theorem h_friends (l : Launch) {D : va_G} {ct : Nat → ClassId} {ek ad : Nat → Nat} {N0 d k : Nat} {X : va_W} {F : State → Prop} (hY : ∀ U, F U → FY U) (μ : Mem) (x y z : Int32) {post : Mem → Int32 → Mem → Prop} {PX : Mem → String → Mem → Prop} {gp : Int32 → Mem → Prop}
    (hM : ∀ σ, CRel σ μ → MXi l yX10_friends cX10_friends 4 (some .int) d k D ct ek ad N0 X F (.ref (ad 0) :: [.int x, .int y, .int z]) σ (post σ) (PX σ))
    (hQ : ∀ σ r τ, CRel σ μ → post σ r τ → ∃ ν, CRel τ ν ∧ gp r ν)
    (hE : ∀ σ E τ, CRel σ μ → PX σ E τ → ∃ i, ([eUO] : List String)[i]? = some E ∧ ∃ ν, CRel τ ν ∧ gp (exV i) ν) :
    MG l yL_friends (.codeWith yL_friends cL_friends 5 (some .int) [(0, 7, 8, 13)]) (d + 1) k D ct ek ad N0 X F [.ref (ad 0), .int x, .int y, .int z] μ (gQi D ct ek ad N0 X gp) := by
  refine msH (own := RL) (by decide) rfl (Nat.le_of_ble_eq_true rfl) (fun p e s m args below meth c S hr hlocks hT G hW hS ls hl => ?_)
  have hx := S.1
  have hb := S.2.1
  have FZ := hY s G.2.2.2.2.2
  replace hl : lv_has ls 5 [(0, .ref (ad 0)), (1, .int x), (2, .int y), (3, .int z)] := hl
  obtain ⟨σ, hP0, hC⟩ := hW
  refine lv_aload_n hx hb dL_friends_0 rfl (lv_at hl 0 rfl) ?_
  refine lv_iload_n hx hb dL_friends_1 rfl (lv_at hl 1 rfl) ?_
  refine lv_iload_n hx hb dL_friends_2 rfl (lv_at hl 2 rfl) ?_
  refine lv_iload_n hx hb dL_friends_3 rfl (lv_at hl 3 rfl) ?_
  refine cLi (As := [.int x, .int y, .int z]) S G 0 (hM σ hC) ok_yX10_friends ml_RL_15 (by decide) oX rfl hP0 hS hl.1 rfl (Nat.le_refl _) rfl rfl (Nat.le_of_ble_eq_true rfl) ⟨by omega, by omega⟩ dL_friends_4 (fun E ce q τ H locs hp hP1 hS hce hcv hcl => ?_) (fun r τ H locs hp hP1 hS => ?_)
  · obtain ⟨i, hi, ν, hν, hg⟩ := hE σ E τ hC hp
    rcases i with _ | i
    · obtain rfl := Option.some.inj hi
      refine ctch (pre := []) (x := ⟨0, 7, 8, 13⟩) (suf := []) S FZ hT (fun z hz => absurd hz List.not_mem_nil) rfl (by decide) cl_RL_13 (by decide +kernel) hce hcv hcl ?_
      refine lv_astore (lv' := [(4, .ref q), (0, .ref (ad 0)), (1, .int x), (2, .int y), (3, .int z)]) hx hb dL_friends_8 hl (by decide) rfl (fun ls hl => ?_)
      refine lv_sipush (v := (-1001)) hx hb dL_friends_10 (by decide) ?_
      exact eGi S hr hlocks ⟨τ, hP1, hν⟩ hS ⟨by omega, by omega⟩ dL_friends_13 (show gp (-1001) ν from hg)
    · exact absurd hi (by simp)
  · obtain ⟨ν, hν, hg⟩ := hQ σ r τ hC hp
    exact eGi S hr hlocks ⟨τ, hP1, hν⟩ hS ⟨by omega, by omega⟩ dL_friends_7 hg
theorem ckh_round : CKH yL_round cL_round 2 (some .int) [(0, 4, 5, 13)] 1 := ⟨sm_yL_round, in_RL, co_yL_round, ⟨by decide +kernel, by decide +kernel, by decide +kernel⟩, by decide⟩
set_option maxHeartbeats 1000000 in
set_option maxRecDepth 100000 in
theorem h_round (l : Launch) {D : va_G} {ct : Nat → ClassId} {ek ad : Nat → Nat} {N0 d k : Nat} {X : va_W} {F : State → Prop} (hY : ∀ U, F U → FY U) (μ : Mem) {post : Mem → Int32 → Mem → Prop} {PX : Mem → String → Mem → Prop} {gp : Int32 → Mem → Prop}
    (hM : ∀ σ, CRel σ μ → MXi l yX10_round cX10_round 1 (some .int) d k D ct ek ad N0 X F (.ref (ad 0) :: []) σ (post σ) (PX σ))
    (hQ : ∀ σ r τ, CRel σ μ → post σ r τ → ∃ ν, CRel τ ν ∧ gp r ν)
    (hE : ∀ σ E τ, CRel σ μ → PX σ E τ → ∃ i, ([eUO] : List String)[i]? = some E ∧ ∃ ν, CRel τ ν ∧ gp (exV i) ν) :
    MG l yL_round (.codeWith yL_round cL_round 2 (some .int) [(0, 4, 5, 13)]) (d + 1) k D ct ek ad N0 X F [.ref (ad 0)] μ (gQi D ct ek ad N0 X gp) := by
  refine msH (own := RL) (by decide) rfl (Nat.le_of_ble_eq_true rfl) (fun p e s m args below meth c S hr hlocks hT G hW hS ls hl => ?_)
  have hx := S.1
  have hb := S.2.1
  have FZ := hY s G.2.2.2.2.2
  replace hl : lv_has ls 2 [(0, .ref (ad 0))] := hl
  obtain ⟨σ, hP0, hC⟩ := hW
  refine lv_aload_n hx hb dL_round_0 rfl (lv_at hl 0 rfl) ?_
  refine cLi (As := []) S G 0 (hM σ hC) ok_yX10_round ml_RL_19 (by decide) oX rfl hP0 hS hl.1 rfl (Nat.le_refl _) rfl rfl (Nat.le_of_ble_eq_true rfl) ⟨by omega, by omega⟩ dL_round_1 (fun E ce q τ H locs hp hP1 hS hce hcv hcl => ?_) (fun r τ H locs hp hP1 hS => ?_)
  · obtain ⟨i, hi, ν, hν, hg⟩ := hE σ E τ hC hp
    rcases i with _ | i
    · obtain rfl := Option.some.inj hi
      refine ctch (pre := []) (x := ⟨0, 4, 5, 13⟩) (suf := []) S FZ hT (fun z hz => absurd hz List.not_mem_nil) rfl (by decide) cl_RL_13 (by decide +kernel) hce hcv hcl ?_
      refine lv_astore_n (lv' := [(1, .ref q), (0, .ref (ad 0))]) hx hb dL_round_5 rfl hl (by decide) rfl (fun ls hl => ?_)
      refine lv_sipush (v := (-1001)) hx hb dL_round_6 (by decide) ?_
      exact eGi S hr hlocks ⟨τ, hP1, hν⟩ hS ⟨by omega, by omega⟩ dL_round_9 (show gp (-1001) ν from hg)
    · exact absurd hi (by simp)
  · obtain ⟨ν, hν, hg⟩ := hQ σ r τ hC hp
    exact eGi S hr hlocks ⟨τ, hP1, hν⟩ hS ⟨by omega, by omega⟩ dL_round_4 hg
theorem ckh_fact : CKH yL_fact cL_fact 4 (some .int) [(0, 6, 7, 13)] 3 := ⟨sm_yL_fact, in_RL, co_yL_fact, ⟨by decide +kernel, by decide +kernel, by decide +kernel⟩, by decide⟩
set_option maxHeartbeats 1000000 in
set_option maxRecDepth 100000 in
theorem h_fact (l : Launch) {D : va_G} {ct : Nat → ClassId} {ek ad : Nat → Nat} {N0 d k : Nat} {X : va_W} {F : State → Prop} (hY : ∀ U, F U → FY U) (μ : Mem) (x y : Int32) {post : Mem → Int32 → Mem → Prop} {PX : Mem → String → Mem → Prop} {gp : Int32 → Mem → Prop}
    (hM : ∀ σ, CRel σ μ → MXi l yX10_fact cX10_fact 3 (some .int) d k D ct ek ad N0 X F (.ref (ad 0) :: [.int x, .int y]) σ (post σ) (PX σ))
    (hQ : ∀ σ r τ, CRel σ μ → post σ r τ → ∃ ν, CRel τ ν ∧ gp r ν)
    (hE : ∀ σ E τ, CRel σ μ → PX σ E τ → ∃ i, ([eUO] : List String)[i]? = some E ∧ ∃ ν, CRel τ ν ∧ gp (exV i) ν) :
    MG l yL_fact (.codeWith yL_fact cL_fact 4 (some .int) [(0, 6, 7, 13)]) (d + 1) k D ct ek ad N0 X F [.ref (ad 0), .int x, .int y] μ (gQi D ct ek ad N0 X gp) := by
  refine msH (own := RL) (by decide) rfl (Nat.le_of_ble_eq_true rfl) (fun p e s m args below meth c S hr hlocks hT G hW hS ls hl => ?_)
  have hx := S.1
  have hb := S.2.1
  have FZ := hY s G.2.2.2.2.2
  replace hl : lv_has ls 4 [(0, .ref (ad 0)), (1, .int x), (2, .int y)] := hl
  obtain ⟨σ, hP0, hC⟩ := hW
  refine lv_aload_n hx hb dL_fact_0 rfl (lv_at hl 0 rfl) ?_
  refine lv_iload_n hx hb dL_fact_1 rfl (lv_at hl 1 rfl) ?_
  refine lv_iload_n hx hb dL_fact_2 rfl (lv_at hl 2 rfl) ?_
  refine cLi (As := [.int x, .int y]) S G 0 (hM σ hC) ok_yX10_fact ml_RL_23 (by decide) oX rfl hP0 hS hl.1 rfl (Nat.le_refl _) rfl rfl (Nat.le_of_ble_eq_true rfl) ⟨by omega, by omega⟩ dL_fact_3 (fun E ce q τ H locs hp hP1 hS hce hcv hcl => ?_) (fun r τ H locs hp hP1 hS => ?_)
  · obtain ⟨i, hi, ν, hν, hg⟩ := hE σ E τ hC hp
    rcases i with _ | i
    · obtain rfl := Option.some.inj hi
      refine ctch (pre := []) (x := ⟨0, 6, 7, 13⟩) (suf := []) S FZ hT (fun z hz => absurd hz List.not_mem_nil) rfl (by decide) cl_RL_13 (by decide +kernel) hce hcv hcl ?_
      refine lv_astore_n (lv' := [(3, .ref q), (0, .ref (ad 0)), (1, .int x), (2, .int y)]) hx hb dL_fact_7 rfl hl (by decide) rfl (fun ls hl => ?_)
      refine lv_sipush (v := (-1001)) hx hb dL_fact_8 (by decide) ?_
      exact eGi S hr hlocks ⟨τ, hP1, hν⟩ hS ⟨by omega, by omega⟩ dL_fact_11 (show gp (-1001) ν from hg)
    · exact absurd hi (by simp)
  · obtain ⟨ν, hν, hg⟩ := hQ σ r τ hC hp
    exact eGi S hr hlocks ⟨τ, hP1, hν⟩ hS ⟨by omega, by omega⟩ dL_fact_6 hg
theorem ckh_beam : CKH yL_beam cL_beam 5 (some .int) [(0, 7, 8, 13)] 4 := ⟨sm_yL_beam, in_RL, co_yL_beam, ⟨by decide +kernel, by decide +kernel, by decide +kernel⟩, by decide⟩
set_option maxHeartbeats 1000000 in
set_option maxRecDepth 100000 in
theorem h_beam (l : Launch) {D : va_G} {ct : Nat → ClassId} {ek ad : Nat → Nat} {N0 d k : Nat} {X : va_W} {F : State → Prop} (hY : ∀ U, F U → FY U) (μ : Mem) (x y z : Int32) {post : Mem → Int32 → Mem → Prop} {PX : Mem → String → Mem → Prop} {gp : Int32 → Mem → Prop}
    (hM : ∀ σ, CRel σ μ → MXi l yX10_beam cX10_beam 4 (some .int) d k D ct ek ad N0 X F (.ref (ad 0) :: [.int x, .int y, .int z]) σ (post σ) (PX σ))
    (hQ : ∀ σ r τ, CRel σ μ → post σ r τ → ∃ ν, CRel τ ν ∧ gp r ν)
    (hE : ∀ σ E τ, CRel σ μ → PX σ E τ → ∃ i, ([eUO] : List String)[i]? = some E ∧ ∃ ν, CRel τ ν ∧ gp (exV i) ν) :
    MG l yL_beam (.codeWith yL_beam cL_beam 5 (some .int) [(0, 7, 8, 13)]) (d + 1) k D ct ek ad N0 X F [.ref (ad 0), .int x, .int y, .int z] μ (gQi D ct ek ad N0 X gp) := by
  refine msH (own := RL) (by decide) rfl (Nat.le_of_ble_eq_true rfl) (fun p e s m args below meth c S hr hlocks hT G hW hS ls hl => ?_)
  have hx := S.1
  have hb := S.2.1
  have FZ := hY s G.2.2.2.2.2
  replace hl : lv_has ls 5 [(0, .ref (ad 0)), (1, .int x), (2, .int y), (3, .int z)] := hl
  obtain ⟨σ, hP0, hC⟩ := hW
  refine lv_aload_n hx hb dL_beam_0 rfl (lv_at hl 0 rfl) ?_
  refine lv_iload_n hx hb dL_beam_1 rfl (lv_at hl 1 rfl) ?_
  refine lv_iload_n hx hb dL_beam_2 rfl (lv_at hl 2 rfl) ?_
  refine lv_iload_n hx hb dL_beam_3 rfl (lv_at hl 3 rfl) ?_
  refine cLi (As := [.int x, .int y, .int z]) S G 0 (hM σ hC) ok_yX10_beam ml_RL_27 (by decide) oX rfl hP0 hS hl.1 rfl (Nat.le_refl _) rfl rfl (Nat.le_of_ble_eq_true rfl) ⟨by omega, by omega⟩ dL_beam_4 (fun E ce q τ H locs hp hP1 hS hce hcv hcl => ?_) (fun r τ H locs hp hP1 hS => ?_)
  · obtain ⟨i, hi, ν, hν, hg⟩ := hE σ E τ hC hp
    rcases i with _ | i
    · obtain rfl := Option.some.inj hi
      refine ctch (pre := []) (x := ⟨0, 7, 8, 13⟩) (suf := []) S FZ hT (fun z hz => absurd hz List.not_mem_nil) rfl (by decide) cl_RL_13 (by decide +kernel) hce hcv hcl ?_
      refine lv_astore (lv' := [(4, .ref q), (0, .ref (ad 0)), (1, .int x), (2, .int y), (3, .int z)]) hx hb dL_beam_8 hl (by decide) rfl (fun ls hl => ?_)
      refine lv_sipush (v := (-1001)) hx hb dL_beam_10 (by decide) ?_
      exact eGi S hr hlocks ⟨τ, hP1, hν⟩ hS ⟨by omega, by omega⟩ dL_beam_13 (show gp (-1001) ν from hg)
    · exact absurd hi (by simp)
  · obtain ⟨ν, hν, hg⟩ := hQ σ r τ hC hp
    exact eGi S hr hlocks ⟨τ, hP1, hν⟩ hS ⟨by omega, by omega⟩ dL_beam_7 hg
theorem ckh_remove : CKH yL_remove cL_remove 3 (some .int) [(0, 5, 6, 13)] 2 := ⟨sm_yL_remove, in_RL, co_yL_remove, ⟨by decide +kernel, by decide +kernel, by decide +kernel⟩, by decide⟩
set_option maxHeartbeats 1000000 in
set_option maxRecDepth 100000 in
theorem h_remove (l : Launch) {D : va_G} {ct : Nat → ClassId} {ek ad : Nat → Nat} {N0 d k : Nat} {X : va_W} {F : State → Prop} (hY : ∀ U, F U → FY U) (μ : Mem) (x : Int32) {post : Mem → Int32 → Mem → Prop} {PX : Mem → String → Mem → Prop} {gp : Int32 → Mem → Prop}
    (hM : ∀ σ, CRel σ μ → MXi l yX10_remove cX10_remove 2 (some .int) d k D ct ek ad N0 X F (.ref (ad 0) :: [.int x]) σ (post σ) (PX σ))
    (hQ : ∀ σ r τ, CRel σ μ → post σ r τ → ∃ ν, CRel τ ν ∧ gp r ν)
    (hE : ∀ σ E τ, CRel σ μ → PX σ E τ → ∃ i, ([eUO] : List String)[i]? = some E ∧ ∃ ν, CRel τ ν ∧ gp (exV i) ν) :
    MG l yL_remove (.codeWith yL_remove cL_remove 3 (some .int) [(0, 5, 6, 13)]) (d + 1) k D ct ek ad N0 X F [.ref (ad 0), .int x] μ (gQi D ct ek ad N0 X gp) := by
  refine msH (own := RL) (by decide) rfl (Nat.le_of_ble_eq_true rfl) (fun p e s m args below meth c S hr hlocks hT G hW hS ls hl => ?_)
  have hx := S.1
  have hb := S.2.1
  have FZ := hY s G.2.2.2.2.2
  replace hl : lv_has ls 3 [(0, .ref (ad 0)), (1, .int x)] := hl
  obtain ⟨σ, hP0, hC⟩ := hW
  refine lv_aload_n hx hb dL_remove_0 rfl (lv_at hl 0 rfl) ?_
  refine lv_iload_n hx hb dL_remove_1 rfl (lv_at hl 1 rfl) ?_
  refine cLi (As := [.int x]) S G 0 (hM σ hC) ok_yX10_remove ml_RL_30 (by decide) oX rfl hP0 hS hl.1 rfl (Nat.le_refl _) rfl rfl (Nat.le_of_ble_eq_true rfl) ⟨by omega, by omega⟩ dL_remove_2 (fun E ce q τ H locs hp hP1 hS hce hcv hcl => ?_) (fun r τ H locs hp hP1 hS => ?_)
  · obtain ⟨i, hi, ν, hν, hg⟩ := hE σ E τ hC hp
    rcases i with _ | i
    · obtain rfl := Option.some.inj hi
      refine ctch (pre := []) (x := ⟨0, 5, 6, 13⟩) (suf := []) S FZ hT (fun z hz => absurd hz List.not_mem_nil) rfl (by decide) cl_RL_13 (by decide +kernel) hce hcv hcl ?_
      refine lv_astore_n (lv' := [(2, .ref q), (0, .ref (ad 0)), (1, .int x)]) hx hb dL_remove_6 rfl hl (by decide) rfl (fun ls hl => ?_)
      refine lv_sipush (v := (-1001)) hx hb dL_remove_7 (by decide) ?_
      exact eGi S hr hlocks ⟨τ, hP1, hν⟩ hS ⟨by omega, by omega⟩ dL_remove_10 (show gp (-1001) ν from hg)
    · exact absurd hi (by simp)
  · obtain ⟨ν, hν, hg⟩ := hQ σ r τ hC hp
    exact eGi S hr hlocks ⟨τ, hP1, hν⟩ hS ⟨by omega, by omega⟩ dL_remove_5 hg
theorem ckh_habit : CKH yL_habit cL_habit 4 (some .int) [(0, 6, 7, 13)] 3 := ⟨sm_yL_habit, in_RL, co_yL_habit, ⟨by decide +kernel, by decide +kernel, by decide +kernel⟩, by decide⟩
set_option maxHeartbeats 1000000 in
set_option maxRecDepth 100000 in
theorem h_habit (l : Launch) {D : va_G} {ct : Nat → ClassId} {ek ad : Nat → Nat} {N0 d k : Nat} {X : va_W} {F : State → Prop} (hY : ∀ U, F U → FY U) (μ : Mem) (x y : Int32) {post : Mem → Int32 → Mem → Prop} {PX : Mem → String → Mem → Prop} {gp : Int32 → Mem → Prop}
    (hM : ∀ σ, CRel σ μ → MXi l yX10_habit cX10_habit 3 (some .int) d k D ct ek ad N0 X F (.ref (ad 0) :: [.int x, .int y]) σ (post σ) (PX σ))
    (hQ : ∀ σ r τ, CRel σ μ → post σ r τ → ∃ ν, CRel τ ν ∧ gp r ν)
    (hE : ∀ σ E τ, CRel σ μ → PX σ E τ → ∃ i, ([eUO] : List String)[i]? = some E ∧ ∃ ν, CRel τ ν ∧ gp (exV i) ν) :
    MG l yL_habit (.codeWith yL_habit cL_habit 4 (some .int) [(0, 6, 7, 13)]) (d + 1) k D ct ek ad N0 X F [.ref (ad 0), .int x, .int y] μ (gQi D ct ek ad N0 X gp) := by
  refine msH (own := RL) (by decide) rfl (Nat.le_of_ble_eq_true rfl) (fun p e s m args below meth c S hr hlocks hT G hW hS ls hl => ?_)
  have hx := S.1
  have hb := S.2.1
  have FZ := hY s G.2.2.2.2.2
  replace hl : lv_has ls 4 [(0, .ref (ad 0)), (1, .int x), (2, .int y)] := hl
  obtain ⟨σ, hP0, hC⟩ := hW
  refine lv_aload_n hx hb dL_habit_0 rfl (lv_at hl 0 rfl) ?_
  refine lv_iload_n hx hb dL_habit_1 rfl (lv_at hl 1 rfl) ?_
  refine lv_iload_n hx hb dL_habit_2 rfl (lv_at hl 2 rfl) ?_
  refine cLi (As := [.int x, .int y]) S G 0 (hM σ hC) ok_yX10_habit ml_RL_34 (by decide) oX rfl hP0 hS hl.1 rfl (Nat.le_refl _) rfl rfl (Nat.le_of_ble_eq_true rfl) ⟨by omega, by omega⟩ dL_habit_3 (fun E ce q τ H locs hp hP1 hS hce hcv hcl => ?_) (fun r τ H locs hp hP1 hS => ?_)
  · obtain ⟨i, hi, ν, hν, hg⟩ := hE σ E τ hC hp
    rcases i with _ | i
    · obtain rfl := Option.some.inj hi
      refine ctch (pre := []) (x := ⟨0, 6, 7, 13⟩) (suf := []) S FZ hT (fun z hz => absurd hz List.not_mem_nil) rfl (by decide) cl_RL_13 (by decide +kernel) hce hcv hcl ?_
      refine lv_astore_n (lv' := [(3, .ref q), (0, .ref (ad 0)), (1, .int x), (2, .int y)]) hx hb dL_habit_7 rfl hl (by decide) rfl (fun ls hl => ?_)
      refine lv_sipush (v := (-1001)) hx hb dL_habit_8 (by decide) ?_
      exact eGi S hr hlocks ⟨τ, hP1, hν⟩ hS ⟨by omega, by omega⟩ dL_habit_11 (show gp (-1001) ν from hg)
    · exact absurd hi (by simp)
  · obtain ⟨ν, hν, hg⟩ := hQ σ r τ hC hp
    exact eGi S hr hlocks ⟨τ, hP1, hν⟩ hS ⟨by omega, by omega⟩ dL_habit_6 hg
theorem ckh_of : CKH yL_of cL_of 4 (some .int) [(0, 6, 7, 40), (0, 6, 12, 42)] 3 := ⟨sm_yL_of, in_RL, co_yL_of, ⟨by decide +kernel, by decide +kernel, by decide +kernel⟩, by decide⟩
set_option maxHeartbeats 1000000 in
set_option maxRecDepth 100000 in
theorem h_of (l : Launch) {D : va_G} {ct : Nat → ClassId} {ek ad : Nat → Nat} {N0 d k : Nat} {X : va_W} {F : State → Prop} (hY : ∀ U, F U → FY U) (μ : Mem) (x y : Int32) {post : Mem → Int32 → Mem → Prop} {PX : Mem → String → Mem → Prop} {gp : Int32 → Mem → Prop}
    (hM : ∀ σ, CRel σ μ → MXi l yX10_personOf cX10_personOf 4 (some .int) d k D ct ek ad N0 X F (.ref (ad 0) :: [.int x, .int y]) σ (post σ) (PX σ))
    (hQ : ∀ σ r τ, CRel σ μ → post σ r τ → ∃ ν, CRel τ ν ∧ gp r ν)
    (hE : ∀ σ E τ, CRel σ μ → PX σ E τ → ∃ i, ([eIB, eIA] : List String)[i]? = some E ∧ ∃ ν, CRel τ ν ∧ gp (exV i) ν) :
    MG l yL_of (.codeWith yL_of cL_of 4 (some .int) [(0, 6, 7, 40), (0, 6, 12, 42)]) (d + 1) k D ct ek ad N0 X F [.ref (ad 0), .int x, .int y] μ (gQi D ct ek ad N0 X gp) := by
  refine msH (own := RL) (by decide) rfl (Nat.le_of_ble_eq_true rfl) (fun p e s m args below meth c S hr hlocks hT G hW hS ls hl => ?_)
  have hx := S.1
  have hb := S.2.1
  have FZ := hY s G.2.2.2.2.2
  replace hl : lv_has ls 4 [(0, .ref (ad 0)), (1, .int x), (2, .int y)] := hl
  obtain ⟨σ, hP0, hC⟩ := hW
  refine lv_aload_n hx hb dL_of_0 rfl (lv_at hl 0 rfl) ?_
  refine lv_iload_n hx hb dL_of_1 rfl (lv_at hl 1 rfl) ?_
  refine lv_iload_n hx hb dL_of_2 rfl (lv_at hl 2 rfl) ?_
  refine cLi (As := [.int x, .int y]) S G 0 (hM σ hC) ok_yX10_personOf ml_RL_37 (by decide) oX rfl hP0 hS hl.1 rfl (Nat.le_refl _) rfl rfl (Nat.le_of_ble_eq_true rfl) ⟨by omega, by omega⟩ dL_of_3 (fun E ce q τ H locs hp hP1 hS hce hcv hcl => ?_) (fun r τ H locs hp hP1 hS => ?_)
  · obtain ⟨i, hi, ν, hν, hg⟩ := hE σ E τ hC hp
    rcases i with _ | _ | i
    · obtain rfl := Option.some.inj hi
      refine ctch (pre := []) (x := ⟨0, 6, 7, 40⟩) (suf := [⟨0, 6, 12, 42⟩]) S FZ hT (fun z hz => absurd hz List.not_mem_nil) rfl (by decide) cl_RL_40 (by decide +kernel) hce hcv hcl ?_
      refine lv_astore_n (lv' := [(3, .ref q), (0, .ref (ad 0)), (1, .int x), (2, .int y)]) hx hb dL_of_7 rfl hl (by decide) rfl (fun ls hl => ?_)
      refine lv_sipush (v := (-1001)) hx hb dL_of_8 (by decide) ?_
      exact eGi S hr hlocks ⟨τ, hP1, hν⟩ hS ⟨by omega, by omega⟩ dL_of_11 (show gp (-1001) ν from hg)
    · obtain rfl := Option.some.inj hi
      refine ctch (pre := [⟨0, 6, 7, 40⟩]) (x := ⟨0, 6, 12, 42⟩) (suf := []) S FZ hT (fun z hz => by
        simp only [List.mem_cons, List.not_mem_nil, or_false] at hz
        rcases hz with rfl
        · exact ⟨by decide, _, cl_RL_40, by decide⟩) rfl (by decide) cl_RL_42 (by decide +kernel) hce hcv hcl ?_
      refine lv_astore_n (lv' := [(3, .ref q), (0, .ref (ad 0)), (1, .int x), (2, .int y)]) hx hb dL_of_12 rfl hl (by decide) rfl (fun ls hl => ?_)
      refine lv_sipush (v := (-1002)) hx hb dL_of_13 (by decide) ?_
      exact eGi S hr hlocks ⟨τ, hP1, hν⟩ hS ⟨by omega, by omega⟩ dL_of_16 (show gp (-1002) ν from hg)
    · exact absurd hi (by simp)
  · obtain ⟨ν, hν, hg⟩ := hQ σ r τ hC hp
    exact eGi S hr hlocks ⟨τ, hP1, hν⟩ hS ⟨by omega, by omega⟩ dL_of_6 hg
theorem ckh_weight : CKH yL_weight cL_weight 4 (some .int) [(0, 6, 7, 40)] 3 := ⟨sm_yL_weight, in_RL, co_yL_weight, ⟨by decide +kernel, by decide +kernel, by decide +kernel⟩, by decide⟩
set_option maxHeartbeats 1000000 in
set_option maxRecDepth 100000 in
theorem h_weight (l : Launch) {D : va_G} {ct : Nat → ClassId} {ek ad : Nat → Nat} {N0 d k : Nat} {X : va_W} {F : State → Prop} (hY : ∀ U, F U → FY U) (μ : Mem) (x y : Int32) {post : Mem → Int32 → Mem → Prop} {PX : Mem → String → Mem → Prop} {gp : Int32 → Mem → Prop}
    (hM : ∀ σ, CRel σ μ → MXi l yX10_weight cX10_weight 3 (some .int) d k D ct ek ad N0 X F (.ref (ad 0) :: [.int x, .int y]) σ (post σ) (PX σ))
    (hQ : ∀ σ r τ, CRel σ μ → post σ r τ → ∃ ν, CRel τ ν ∧ gp r ν)
    (hE : ∀ σ E τ, CRel σ μ → PX σ E τ → ∃ i, ([eIB] : List String)[i]? = some E ∧ ∃ ν, CRel τ ν ∧ gp (exV i) ν) :
    MG l yL_weight (.codeWith yL_weight cL_weight 4 (some .int) [(0, 6, 7, 40)]) (d + 1) k D ct ek ad N0 X F [.ref (ad 0), .int x, .int y] μ (gQi D ct ek ad N0 X gp) := by
  refine msH (own := RL) (by decide) rfl (Nat.le_of_ble_eq_true rfl) (fun p e s m args below meth c S hr hlocks hT G hW hS ls hl => ?_)
  have hx := S.1
  have hb := S.2.1
  have FZ := hY s G.2.2.2.2.2
  replace hl : lv_has ls 4 [(0, .ref (ad 0)), (1, .int x), (2, .int y)] := hl
  obtain ⟨σ, hP0, hC⟩ := hW
  refine lv_aload_n hx hb dL_weight_0 rfl (lv_at hl 0 rfl) ?_
  refine lv_iload_n hx hb dL_weight_1 rfl (lv_at hl 1 rfl) ?_
  refine lv_iload_n hx hb dL_weight_2 rfl (lv_at hl 2 rfl) ?_
  refine cLi (As := [.int x, .int y]) S G 0 (hM σ hC) ok_yX10_weight ml_RL_44 (by decide) oX rfl hP0 hS hl.1 rfl (Nat.le_refl _) rfl rfl (Nat.le_of_ble_eq_true rfl) ⟨by omega, by omega⟩ dL_weight_3 (fun E ce q τ H locs hp hP1 hS hce hcv hcl => ?_) (fun r τ H locs hp hP1 hS => ?_)
  · obtain ⟨i, hi, ν, hν, hg⟩ := hE σ E τ hC hp
    rcases i with _ | i
    · obtain rfl := Option.some.inj hi
      refine ctch (pre := []) (x := ⟨0, 6, 7, 40⟩) (suf := []) S FZ hT (fun z hz => absurd hz List.not_mem_nil) rfl (by decide) cl_RL_40 (by decide +kernel) hce hcv hcl ?_
      refine lv_astore_n (lv' := [(3, .ref q), (0, .ref (ad 0)), (1, .int x), (2, .int y)]) hx hb dL_weight_7 rfl hl (by decide) rfl (fun ls hl => ?_)
      refine lv_sipush (v := (-1001)) hx hb dL_weight_8 (by decide) ?_
      exact eGi S hr hlocks ⟨τ, hP1, hν⟩ hS ⟨by omega, by omega⟩ dL_weight_11 (show gp (-1001) ν from hg)
    · exact absurd hi (by simp)
  · obtain ⟨ν, hν, hg⟩ := hQ σ r τ hC hp
    exact eGi S hr hlocks ⟨τ, hP1, hν⟩ hS ⟨by omega, by omega⟩ dL_weight_6 hg
theorem ckh_beamOf : CKH yL_beamOf cL_beamOf 4 (some .int) [(0, 6, 7, 40), (0, 6, 12, 42)] 3 := ⟨sm_yL_beamOf, in_RL, co_yL_beamOf, ⟨by decide +kernel, by decide +kernel, by decide +kernel⟩, by decide⟩
set_option maxHeartbeats 1000000 in
set_option maxRecDepth 100000 in
theorem h_beamOf (l : Launch) {D : va_G} {ct : Nat → ClassId} {ek ad : Nat → Nat} {N0 d k : Nat} {X : va_W} {F : State → Prop} (hY : ∀ U, F U → FY U) (μ : Mem) (x y : Int32) {post : Mem → Int32 → Mem → Prop} {PX : Mem → String → Mem → Prop} {gp : Int32 → Mem → Prop}
    (hM : ∀ σ, CRel σ μ → MXi l yX10_beamOf cX10_beamOf 4 (some .int) d k D ct ek ad N0 X F (.ref (ad 0) :: [.int x, .int y]) σ (post σ) (PX σ))
    (hQ : ∀ σ r τ, CRel σ μ → post σ r τ → ∃ ν, CRel τ ν ∧ gp r ν)
    (hE : ∀ σ E τ, CRel σ μ → PX σ E τ → ∃ i, ([eIB, eIA] : List String)[i]? = some E ∧ ∃ ν, CRel τ ν ∧ gp (exV i) ν) :
    MG l yL_beamOf (.codeWith yL_beamOf cL_beamOf 4 (some .int) [(0, 6, 7, 40), (0, 6, 12, 42)]) (d + 1) k D ct ek ad N0 X F [.ref (ad 0), .int x, .int y] μ (gQi D ct ek ad N0 X gp) := by
  refine msH (own := RL) (by decide) rfl (Nat.le_of_ble_eq_true rfl) (fun p e s m args below meth c S hr hlocks hT G hW hS ls hl => ?_)
  have hx := S.1
  have hb := S.2.1
  have FZ := hY s G.2.2.2.2.2
  replace hl : lv_has ls 4 [(0, .ref (ad 0)), (1, .int x), (2, .int y)] := hl
  obtain ⟨σ, hP0, hC⟩ := hW
  refine lv_aload_n hx hb dL_beamOf_0 rfl (lv_at hl 0 rfl) ?_
  refine lv_iload_n hx hb dL_beamOf_1 rfl (lv_at hl 1 rfl) ?_
  refine lv_iload_n hx hb dL_beamOf_2 rfl (lv_at hl 2 rfl) ?_
  refine cLi (As := [.int x, .int y]) S G 0 (hM σ hC) ok_yX10_beamOf ml_RL_47 (by decide) oX rfl hP0 hS hl.1 rfl (Nat.le_refl _) rfl rfl (Nat.le_of_ble_eq_true rfl) ⟨by omega, by omega⟩ dL_beamOf_3 (fun E ce q τ H locs hp hP1 hS hce hcv hcl => ?_) (fun r τ H locs hp hP1 hS => ?_)
  · obtain ⟨i, hi, ν, hν, hg⟩ := hE σ E τ hC hp
    rcases i with _ | _ | i
    · obtain rfl := Option.some.inj hi
      refine ctch (pre := []) (x := ⟨0, 6, 7, 40⟩) (suf := [⟨0, 6, 12, 42⟩]) S FZ hT (fun z hz => absurd hz List.not_mem_nil) rfl (by decide) cl_RL_40 (by decide +kernel) hce hcv hcl ?_
      refine lv_astore_n (lv' := [(3, .ref q), (0, .ref (ad 0)), (1, .int x), (2, .int y)]) hx hb dL_beamOf_7 rfl hl (by decide) rfl (fun ls hl => ?_)
      refine lv_sipush (v := (-1001)) hx hb dL_beamOf_8 (by decide) ?_
      exact eGi S hr hlocks ⟨τ, hP1, hν⟩ hS ⟨by omega, by omega⟩ dL_beamOf_11 (show gp (-1001) ν from hg)
    · obtain rfl := Option.some.inj hi
      refine ctch (pre := [⟨0, 6, 7, 40⟩]) (x := ⟨0, 6, 12, 42⟩) (suf := []) S FZ hT (fun z hz => by
        simp only [List.mem_cons, List.not_mem_nil, or_false] at hz
        rcases hz with rfl
        · exact ⟨by decide, _, cl_RL_40, by decide⟩) rfl (by decide) cl_RL_42 (by decide +kernel) hce hcv hcl ?_
      refine lv_astore_n (lv' := [(3, .ref q), (0, .ref (ad 0)), (1, .int x), (2, .int y)]) hx hb dL_beamOf_12 rfl hl (by decide) rfl (fun ls hl => ?_)
      refine lv_sipush (v := (-1002)) hx hb dL_beamOf_13 (by decide) ?_
      exact eGi S hr hlocks ⟨τ, hP1, hν⟩ hS ⟨by omega, by omega⟩ dL_beamOf_16 (show gp (-1002) ν from hg)
    · exact absurd hi (by simp)
  · obtain ⟨ν, hν, hg⟩ := hQ σ r τ hC hp
    exact eGi S hr hlocks ⟨τ, hP1, hν⟩ hS ⟨by omega, by omega⟩ dL_beamOf_6 hg
theorem ckh_lean : CKH yL_lean cL_lean 3 (some .int) [(0, 5, 6, 40)] 2 := ⟨sm_yL_lean, in_RL, co_yL_lean, ⟨by decide +kernel, by decide +kernel, by decide +kernel⟩, by decide⟩
set_option maxHeartbeats 1000000 in
set_option maxRecDepth 100000 in
theorem h_lean (l : Launch) {D : va_G} {ct : Nat → ClassId} {ek ad : Nat → Nat} {N0 d k : Nat} {X : va_W} {F : State → Prop} (hY : ∀ U, F U → FY U) (μ : Mem) (x : Int32) {post : Mem → Int32 → Mem → Prop} {PX : Mem → String → Mem → Prop} {gp : Int32 → Mem → Prop}
    (hM : ∀ σ, CRel σ μ → MXi l yX10_lean cX10_lean 2 (some .int) d k D ct ek ad N0 X F (.ref (ad 0) :: [.int x]) σ (post σ) (PX σ))
    (hQ : ∀ σ r τ, CRel σ μ → post σ r τ → ∃ ν, CRel τ ν ∧ gp r ν)
    (hE : ∀ σ E τ, CRel σ μ → PX σ E τ → ∃ i, ([eIB] : List String)[i]? = some E ∧ ∃ ν, CRel τ ν ∧ gp (exV i) ν) :
    MG l yL_lean (.codeWith yL_lean cL_lean 3 (some .int) [(0, 5, 6, 40)]) (d + 1) k D ct ek ad N0 X F [.ref (ad 0), .int x] μ (gQi D ct ek ad N0 X gp) := by
  refine msH (own := RL) (by decide) rfl (Nat.le_of_ble_eq_true rfl) (fun p e s m args below meth c S hr hlocks hT G hW hS ls hl => ?_)
  have hx := S.1
  have hb := S.2.1
  have FZ := hY s G.2.2.2.2.2
  replace hl : lv_has ls 3 [(0, .ref (ad 0)), (1, .int x)] := hl
  obtain ⟨σ, hP0, hC⟩ := hW
  refine lv_aload_n hx hb dL_lean_0 rfl (lv_at hl 0 rfl) ?_
  refine lv_iload_n hx hb dL_lean_1 rfl (lv_at hl 1 rfl) ?_
  refine cLi (As := [.int x]) S G 0 (hM σ hC) ok_yX10_lean ml_RL_50 (by decide) oX rfl hP0 hS hl.1 rfl (Nat.le_refl _) rfl rfl (Nat.le_of_ble_eq_true rfl) ⟨by omega, by omega⟩ dL_lean_2 (fun E ce q τ H locs hp hP1 hS hce hcv hcl => ?_) (fun r τ H locs hp hP1 hS => ?_)
  · obtain ⟨i, hi, ν, hν, hg⟩ := hE σ E τ hC hp
    rcases i with _ | i
    · obtain rfl := Option.some.inj hi
      refine ctch (pre := []) (x := ⟨0, 5, 6, 40⟩) (suf := []) S FZ hT (fun z hz => absurd hz List.not_mem_nil) rfl (by decide) cl_RL_40 (by decide +kernel) hce hcv hcl ?_
      refine lv_astore_n (lv' := [(2, .ref q), (0, .ref (ad 0)), (1, .int x)]) hx hb dL_lean_6 rfl hl (by decide) rfl (fun ls hl => ?_)
      refine lv_sipush (v := (-1001)) hx hb dL_lean_7 (by decide) ?_
      exact eGi S hr hlocks ⟨τ, hP1, hν⟩ hS ⟨by omega, by omega⟩ dL_lean_10 (show gp (-1001) ν from hg)
    · exact absurd hi (by simp)
  · obtain ⟨ν, hν, hg⟩ := hQ σ r τ hC hp
    exact eGi S hr hlocks ⟨τ, hP1, hν⟩ hS ⟨by omega, by omega⟩ dL_lean_5 hg
theorem ckh_mean : CKH yL_mean cL_mean 3 (some .int) [(0, 5, 6, 40)] 2 := ⟨sm_yL_mean, in_RL, co_yL_mean, ⟨by decide +kernel, by decide +kernel, by decide +kernel⟩, by decide⟩
set_option maxHeartbeats 1000000 in
set_option maxRecDepth 100000 in
theorem h_mean (l : Launch) {D : va_G} {ct : Nat → ClassId} {ek ad : Nat → Nat} {N0 d k : Nat} {X : va_W} {F : State → Prop} (hY : ∀ U, F U → FY U) (μ : Mem) (x : Int32) {post : Mem → Int32 → Mem → Prop} {PX : Mem → String → Mem → Prop} {gp : Int32 → Mem → Prop}
    (hM : ∀ σ, CRel σ μ → MXi l yX10_mean cX10_mean 2 (some .int) d k D ct ek ad N0 X F (.ref (ad 0) :: [.int x]) σ (post σ) (PX σ))
    (hQ : ∀ σ r τ, CRel σ μ → post σ r τ → ∃ ν, CRel τ ν ∧ gp r ν)
    (hE : ∀ σ E τ, CRel σ μ → PX σ E τ → ∃ i, ([eIB] : List String)[i]? = some E ∧ ∃ ν, CRel τ ν ∧ gp (exV i) ν) :
    MG l yL_mean (.codeWith yL_mean cL_mean 3 (some .int) [(0, 5, 6, 40)]) (d + 1) k D ct ek ad N0 X F [.ref (ad 0), .int x] μ (gQi D ct ek ad N0 X gp) := by
  refine msH (own := RL) (by decide) rfl (Nat.le_of_ble_eq_true rfl) (fun p e s m args below meth c S hr hlocks hT G hW hS ls hl => ?_)
  have hx := S.1
  have hb := S.2.1
  have FZ := hY s G.2.2.2.2.2
  replace hl : lv_has ls 3 [(0, .ref (ad 0)), (1, .int x)] := hl
  obtain ⟨σ, hP0, hC⟩ := hW
  refine lv_aload_n hx hb dL_mean_0 rfl (lv_at hl 0 rfl) ?_
  refine lv_iload_n hx hb dL_mean_1 rfl (lv_at hl 1 rfl) ?_
  refine cLi (As := [.int x]) S G 0 (hM σ hC) ok_yX10_mean ml_RL_53 (by decide) oX rfl hP0 hS hl.1 rfl (Nat.le_refl _) rfl rfl (Nat.le_of_ble_eq_true rfl) ⟨by omega, by omega⟩ dL_mean_2 (fun E ce q τ H locs hp hP1 hS hce hcv hcl => ?_) (fun r τ H locs hp hP1 hS => ?_)
  · obtain ⟨i, hi, ν, hν, hg⟩ := hE σ E τ hC hp
    rcases i with _ | i
    · obtain rfl := Option.some.inj hi
      refine ctch (pre := []) (x := ⟨0, 5, 6, 40⟩) (suf := []) S FZ hT (fun z hz => absurd hz List.not_mem_nil) rfl (by decide) cl_RL_40 (by decide +kernel) hce hcv hcl ?_
      refine lv_astore_n (lv' := [(2, .ref q), (0, .ref (ad 0)), (1, .int x)]) hx hb dL_mean_6 rfl hl (by decide) rfl (fun ls hl => ?_)
      refine lv_sipush (v := (-1001)) hx hb dL_mean_7 (by decide) ?_
      exact eGi S hr hlocks ⟨τ, hP1, hν⟩ hS ⟨by omega, by omega⟩ dL_mean_10 (show gp (-1001) ν from hg)
    · exact absurd hi (by simp)
  · obtain ⟨ν, hν, hg⟩ := hQ σ r τ hC hp
    exact eGi S hr hlocks ⟨τ, hP1, hν⟩ hS ⟨by omega, by omega⟩ dL_mean_5 hg
theorem ckh_meanAgain : CKH yL_meanAgain cL_meanAgain 3 (some .int) [(0, 5, 6, 40)] 2 := ⟨sm_yL_meanAgain, in_RL, co_yL_meanAgain, ⟨by decide +kernel, by decide +kernel, by decide +kernel⟩, by decide⟩
set_option maxHeartbeats 1000000 in
set_option maxRecDepth 100000 in
theorem h_meanAgain (l : Launch) {D : va_G} {ct : Nat → ClassId} {ek ad : Nat → Nat} {N0 d k : Nat} {X : va_W} {F : State → Prop} (hY : ∀ U, F U → FY U) (μ : Mem) (x : Int32) {post : Mem → Int32 → Mem → Prop} {PX : Mem → String → Mem → Prop} {gp : Int32 → Mem → Prop}
    (hM : ∀ σ, CRel σ μ → MXi l yX10_meanAgain cX10_meanAgain 2 (some .int) d k D ct ek ad N0 X F (.ref (ad 0) :: [.int x]) σ (post σ) (PX σ))
    (hQ : ∀ σ r τ, CRel σ μ → post σ r τ → ∃ ν, CRel τ ν ∧ gp r ν)
    (hE : ∀ σ E τ, CRel σ μ → PX σ E τ → ∃ i, ([eIB] : List String)[i]? = some E ∧ ∃ ν, CRel τ ν ∧ gp (exV i) ν) :
    MG l yL_meanAgain (.codeWith yL_meanAgain cL_meanAgain 3 (some .int) [(0, 5, 6, 40)]) (d + 1) k D ct ek ad N0 X F [.ref (ad 0), .int x] μ (gQi D ct ek ad N0 X gp) := by
  refine msH (own := RL) (by decide) rfl (Nat.le_of_ble_eq_true rfl) (fun p e s m args below meth c S hr hlocks hT G hW hS ls hl => ?_)
  have hx := S.1
  have hb := S.2.1
  have FZ := hY s G.2.2.2.2.2
  replace hl : lv_has ls 3 [(0, .ref (ad 0)), (1, .int x)] := hl
  obtain ⟨σ, hP0, hC⟩ := hW
  refine lv_aload_n hx hb dL_meanAgain_0 rfl (lv_at hl 0 rfl) ?_
  refine lv_iload_n hx hb dL_meanAgain_1 rfl (lv_at hl 1 rfl) ?_
  refine cLi (As := [.int x]) S G 0 (hM σ hC) ok_yX10_meanAgain ml_RL_56 (by decide) oX rfl hP0 hS hl.1 rfl (Nat.le_refl _) rfl rfl (Nat.le_of_ble_eq_true rfl) ⟨by omega, by omega⟩ dL_meanAgain_2 (fun E ce q τ H locs hp hP1 hS hce hcv hcl => ?_) (fun r τ H locs hp hP1 hS => ?_)
  · obtain ⟨i, hi, ν, hν, hg⟩ := hE σ E τ hC hp
    rcases i with _ | i
    · obtain rfl := Option.some.inj hi
      refine ctch (pre := []) (x := ⟨0, 5, 6, 40⟩) (suf := []) S FZ hT (fun z hz => absurd hz List.not_mem_nil) rfl (by decide) cl_RL_40 (by decide +kernel) hce hcv hcl ?_
      refine lv_astore_n (lv' := [(2, .ref q), (0, .ref (ad 0)), (1, .int x)]) hx hb dL_meanAgain_6 rfl hl (by decide) rfl (fun ls hl => ?_)
      refine lv_sipush (v := (-1001)) hx hb dL_meanAgain_7 (by decide) ?_
      exact eGi S hr hlocks ⟨τ, hP1, hν⟩ hS ⟨by omega, by omega⟩ dL_meanAgain_10 (show gp (-1001) ν from hg)
    · exact absurd hi (by simp)
  · obtain ⟨ν, hν, hg⟩ := hQ σ r τ hC hp
    exact eGi S hr hlocks ⟨τ, hP1, hν⟩ hS ⟨by omega, by omega⟩ dL_meanAgain_5 hg
theorem ckh_wouldMove : CKH yL_wouldMove cL_wouldMove 3 (some .int) [(0, 5, 6, 40)] 2 := ⟨sm_yL_wouldMove, in_RL, co_yL_wouldMove, ⟨by decide +kernel, by decide +kernel, by decide +kernel⟩, by decide⟩
set_option maxHeartbeats 1000000 in
set_option maxRecDepth 100000 in
theorem h_wouldMove (l : Launch) {D : va_G} {ct : Nat → ClassId} {ek ad : Nat → Nat} {N0 d k : Nat} {X : va_W} {F : State → Prop} (hY : ∀ U, F U → FY U) (μ : Mem) (x : Int32) {post : Mem → Int32 → Mem → Prop} {PX : Mem → String → Mem → Prop} {gp : Int32 → Mem → Prop}
    (hM : ∀ σ, CRel σ μ → MXi l yX10_wouldMove cX10_wouldMove 2 (some .int) d k D ct ek ad N0 X F (.ref (ad 0) :: [.int x]) σ (post σ) (PX σ))
    (hQ : ∀ σ r τ, CRel σ μ → post σ r τ → ∃ ν, CRel τ ν ∧ gp r ν)
    (hE : ∀ σ E τ, CRel σ μ → PX σ E τ → ∃ i, ([eIB] : List String)[i]? = some E ∧ ∃ ν, CRel τ ν ∧ gp (exV i) ν) :
    MG l yL_wouldMove (.codeWith yL_wouldMove cL_wouldMove 3 (some .int) [(0, 5, 6, 40)]) (d + 1) k D ct ek ad N0 X F [.ref (ad 0), .int x] μ (gQi D ct ek ad N0 X gp) := by
  refine msH (own := RL) (by decide) rfl (Nat.le_of_ble_eq_true rfl) (fun p e s m args below meth c S hr hlocks hT G hW hS ls hl => ?_)
  have hx := S.1
  have hb := S.2.1
  have FZ := hY s G.2.2.2.2.2
  replace hl : lv_has ls 3 [(0, .ref (ad 0)), (1, .int x)] := hl
  obtain ⟨σ, hP0, hC⟩ := hW
  refine lv_aload_n hx hb dL_wouldMove_0 rfl (lv_at hl 0 rfl) ?_
  refine lv_iload_n hx hb dL_wouldMove_1 rfl (lv_at hl 1 rfl) ?_
  refine cLi (As := [.int x]) S G 0 (hM σ hC) ok_yX10_wouldMove ml_RL_59 (by decide) oX rfl hP0 hS hl.1 rfl (Nat.le_refl _) rfl rfl (Nat.le_of_ble_eq_true rfl) ⟨by omega, by omega⟩ dL_wouldMove_2 (fun E ce q τ H locs hp hP1 hS hce hcv hcl => ?_) (fun r τ H locs hp hP1 hS => ?_)
  · obtain ⟨i, hi, ν, hν, hg⟩ := hE σ E τ hC hp
    rcases i with _ | i
    · obtain rfl := Option.some.inj hi
      refine ctch (pre := []) (x := ⟨0, 5, 6, 40⟩) (suf := []) S FZ hT (fun z hz => absurd hz List.not_mem_nil) rfl (by decide) cl_RL_40 (by decide +kernel) hce hcv hcl ?_
      refine lv_astore_n (lv' := [(2, .ref q), (0, .ref (ad 0)), (1, .int x)]) hx hb dL_wouldMove_6 rfl hl (by decide) rfl (fun ls hl => ?_)
      refine lv_sipush (v := (-1001)) hx hb dL_wouldMove_7 (by decide) ?_
      exact eGi S hr hlocks ⟨τ, hP1, hν⟩ hS ⟨by omega, by omega⟩ dL_wouldMove_10 (show gp (-1001) ν from hg)
    · exact absurd hi (by simp)
  · obtain ⟨ν, hν, hg⟩ := hQ σ r τ hC hp
    exact eGi S hr hlocks ⟨τ, hP1, hν⟩ hS ⟨by omega, by omega⟩ dL_wouldMove_5 hg
theorem ckh_puller : CKH yL_puller cL_puller 3 (some .int) [(0, 5, 6, 40), (0, 5, 11, 65)] 2 := ⟨sm_yL_puller, in_RL, co_yL_puller, ⟨by decide +kernel, by decide +kernel, by decide +kernel⟩, by decide⟩
set_option maxHeartbeats 1000000 in
set_option maxRecDepth 100000 in
theorem h_puller (l : Launch) {D : va_G} {ct : Nat → ClassId} {ek ad : Nat → Nat} {N0 d k : Nat} {X : va_W} {F : State → Prop} (hY : ∀ U, F U → FY U) (μ : Mem) (x : Int32) {post : Mem → Int32 → Mem → Prop} {PX : Mem → String → Mem → Prop} {gp : Int32 → Mem → Prop}
    (hM : ∀ σ, CRel σ μ → MXi l yX10_puller cX10_puller 3 (some .int) d k D ct ek ad N0 X F (.ref (ad 0) :: [.int x]) σ (post σ) (PX σ))
    (hQ : ∀ σ r τ, CRel σ μ → post σ r τ → ∃ ν, CRel τ ν ∧ gp r ν)
    (hE : ∀ σ E τ, CRel σ μ → PX σ E τ → ∃ i, ([eIB, eNE] : List String)[i]? = some E ∧ ∃ ν, CRel τ ν ∧ gp (exV i) ν) :
    MG l yL_puller (.codeWith yL_puller cL_puller 3 (some .int) [(0, 5, 6, 40), (0, 5, 11, 65)]) (d + 1) k D ct ek ad N0 X F [.ref (ad 0), .int x] μ (gQi D ct ek ad N0 X gp) := by
  refine msH (own := RL) (by decide) rfl (Nat.le_of_ble_eq_true rfl) (fun p e s m args below meth c S hr hlocks hT G hW hS ls hl => ?_)
  have hx := S.1
  have hb := S.2.1
  have FZ := hY s G.2.2.2.2.2
  replace hl : lv_has ls 3 [(0, .ref (ad 0)), (1, .int x)] := hl
  obtain ⟨σ, hP0, hC⟩ := hW
  refine lv_aload_n hx hb dL_puller_0 rfl (lv_at hl 0 rfl) ?_
  refine lv_iload_n hx hb dL_puller_1 rfl (lv_at hl 1 rfl) ?_
  refine cLi (As := [.int x]) S G 0 (hM σ hC) ok_yX10_puller ml_RL_62 (by decide) oX rfl hP0 hS hl.1 rfl (Nat.le_refl _) rfl rfl (Nat.le_of_ble_eq_true rfl) ⟨by omega, by omega⟩ dL_puller_2 (fun E ce q τ H locs hp hP1 hS hce hcv hcl => ?_) (fun r τ H locs hp hP1 hS => ?_)
  · obtain ⟨i, hi, ν, hν, hg⟩ := hE σ E τ hC hp
    rcases i with _ | _ | i
    · obtain rfl := Option.some.inj hi
      refine ctch (pre := []) (x := ⟨0, 5, 6, 40⟩) (suf := [⟨0, 5, 11, 65⟩]) S FZ hT (fun z hz => absurd hz List.not_mem_nil) rfl (by decide) cl_RL_40 (by decide +kernel) hce hcv hcl ?_
      refine lv_astore_n (lv' := [(2, .ref q), (0, .ref (ad 0)), (1, .int x)]) hx hb dL_puller_6 rfl hl (by decide) rfl (fun ls hl => ?_)
      refine lv_sipush (v := (-1001)) hx hb dL_puller_7 (by decide) ?_
      exact eGi S hr hlocks ⟨τ, hP1, hν⟩ hS ⟨by omega, by omega⟩ dL_puller_10 (show gp (-1001) ν from hg)
    · obtain rfl := Option.some.inj hi
      refine ctch (pre := [⟨0, 5, 6, 40⟩]) (x := ⟨0, 5, 11, 65⟩) (suf := []) S FZ hT (fun z hz => by
        simp only [List.mem_cons, List.not_mem_nil, or_false] at hz
        rcases hz with rfl
        · exact ⟨by decide, _, cl_RL_40, by decide⟩) rfl (by decide) cl_RL_65 (by decide +kernel) hce hcv hcl ?_
      refine lv_astore_n (lv' := [(2, .ref q), (0, .ref (ad 0)), (1, .int x)]) hx hb dL_puller_11 rfl hl (by decide) rfl (fun ls hl => ?_)
      refine lv_sipush (v := (-1002)) hx hb dL_puller_12 (by decide) ?_
      exact eGi S hr hlocks ⟨τ, hP1, hν⟩ hS ⟨by omega, by omega⟩ dL_puller_15 (show gp (-1002) ν from hg)
    · exact absurd hi (by simp)
  · obtain ⟨ν, hν, hg⟩ := hQ σ r τ hC hp
    exact eGi S hr hlocks ⟨τ, hP1, hν⟩ hS ⟨by omega, by omega⟩ dL_puller_5 hg
theorem ckh_force : CKH yL_force cL_force 4 (some .int) [(0, 6, 7, 40), (0, 6, 12, 42)] 3 := ⟨sm_yL_force, in_RL, co_yL_force, ⟨by decide +kernel, by decide +kernel, by decide +kernel⟩, by decide⟩
set_option maxHeartbeats 1000000 in
set_option maxRecDepth 100000 in
theorem h_force (l : Launch) {D : va_G} {ct : Nat → ClassId} {ek ad : Nat → Nat} {N0 d k : Nat} {X : va_W} {F : State → Prop} (hY : ∀ U, F U → FY U) (μ : Mem) (x y : Int32) {post : Mem → Int32 → Mem → Prop} {PX : Mem → String → Mem → Prop} {gp : Int32 → Mem → Prop}
    (hM : ∀ σ, CRel σ μ → MXi l yX10_force cX10_force 3 (some .int) d k D ct ek ad N0 X F (.ref (ad 0) :: [.int x, .int y]) σ (post σ) (PX σ))
    (hQ : ∀ σ r τ, CRel σ μ → post σ r τ → ∃ ν, CRel τ ν ∧ gp r ν)
    (hE : ∀ σ E τ, CRel σ μ → PX σ E τ → ∃ i, ([eIB, eIA] : List String)[i]? = some E ∧ ∃ ν, CRel τ ν ∧ gp (exV i) ν) :
    MG l yL_force (.codeWith yL_force cL_force 4 (some .int) [(0, 6, 7, 40), (0, 6, 12, 42)]) (d + 1) k D ct ek ad N0 X F [.ref (ad 0), .int x, .int y] μ (gQi D ct ek ad N0 X gp) := by
  refine msH (own := RL) (by decide) rfl (Nat.le_of_ble_eq_true rfl) (fun p e s m args below meth c S hr hlocks hT G hW hS ls hl => ?_)
  have hx := S.1
  have hb := S.2.1
  have FZ := hY s G.2.2.2.2.2
  replace hl : lv_has ls 4 [(0, .ref (ad 0)), (1, .int x), (2, .int y)] := hl
  obtain ⟨σ, hP0, hC⟩ := hW
  refine lv_aload_n hx hb dL_force_0 rfl (lv_at hl 0 rfl) ?_
  refine lv_iload_n hx hb dL_force_1 rfl (lv_at hl 1 rfl) ?_
  refine lv_iload_n hx hb dL_force_2 rfl (lv_at hl 2 rfl) ?_
  refine cLi (As := [.int x, .int y]) S G 0 (hM σ hC) ok_yX10_force ml_RL_67 (by decide) oX rfl hP0 hS hl.1 rfl (Nat.le_refl _) rfl rfl (Nat.le_of_ble_eq_true rfl) ⟨by omega, by omega⟩ dL_force_3 (fun E ce q τ H locs hp hP1 hS hce hcv hcl => ?_) (fun r τ H locs hp hP1 hS => ?_)
  · obtain ⟨i, hi, ν, hν, hg⟩ := hE σ E τ hC hp
    rcases i with _ | _ | i
    · obtain rfl := Option.some.inj hi
      refine ctch (pre := []) (x := ⟨0, 6, 7, 40⟩) (suf := [⟨0, 6, 12, 42⟩]) S FZ hT (fun z hz => absurd hz List.not_mem_nil) rfl (by decide) cl_RL_40 (by decide +kernel) hce hcv hcl ?_
      refine lv_astore_n (lv' := [(3, .ref q), (0, .ref (ad 0)), (1, .int x), (2, .int y)]) hx hb dL_force_7 rfl hl (by decide) rfl (fun ls hl => ?_)
      refine lv_sipush (v := (-1001)) hx hb dL_force_8 (by decide) ?_
      exact eGi S hr hlocks ⟨τ, hP1, hν⟩ hS ⟨by omega, by omega⟩ dL_force_11 (show gp (-1001) ν from hg)
    · obtain rfl := Option.some.inj hi
      refine ctch (pre := [⟨0, 6, 7, 40⟩]) (x := ⟨0, 6, 12, 42⟩) (suf := []) S FZ hT (fun z hz => by
        simp only [List.mem_cons, List.not_mem_nil, or_false] at hz
        rcases hz with rfl
        · exact ⟨by decide, _, cl_RL_40, by decide⟩) rfl (by decide) cl_RL_42 (by decide +kernel) hce hcv hcl ?_
      refine lv_astore_n (lv' := [(3, .ref q), (0, .ref (ad 0)), (1, .int x), (2, .int y)]) hx hb dL_force_12 rfl hl (by decide) rfl (fun ls hl => ?_)
      refine lv_sipush (v := (-1002)) hx hb dL_force_13 (by decide) ?_
      exact eGi S hr hlocks ⟨τ, hP1, hν⟩ hS ⟨by omega, by omega⟩ dL_force_16 (show gp (-1002) ν from hg)
    · exact absurd hi (by simp)
  · obtain ⟨ν, hν, hg⟩ := hQ σ r τ hC hp
    exact eGi S hr hlocks ⟨τ, hP1, hν⟩ hS ⟨by omega, by omega⟩ dL_force_6 hg
theorem ckh_factsFor : CKH yL_factsFor cL_factsFor 4 (some .int) [(0, 6, 7, 40), (0, 6, 12, 42), (0, 6, 17, 65)] 3 := ⟨sm_yL_factsFor, in_RL, co_yL_factsFor, ⟨by decide +kernel, by decide +kernel, by decide +kernel⟩, by decide⟩
set_option maxHeartbeats 1000000 in
set_option maxRecDepth 100000 in
theorem h_factsFor (l : Launch) {D : va_G} {ct : Nat → ClassId} {ek ad : Nat → Nat} {N0 d k : Nat} {X : va_W} {F : State → Prop} (hY : ∀ U, F U → FY U) (μ : Mem) (x y : Int32) {post : Mem → Int32 → Mem → Prop} {PX : Mem → String → Mem → Prop} {gp : Int32 → Mem → Prop}
    (hM : ∀ σ, CRel σ μ → MXi l yX10_factsFor cX10_factsFor 5 (some .int) d k D ct ek ad N0 X F (.ref (ad 0) :: [.int x, .int y]) σ (post σ) (PX σ))
    (hQ : ∀ σ r τ, CRel σ μ → post σ r τ → ∃ ν, CRel τ ν ∧ gp r ν)
    (hE : ∀ σ E τ, CRel σ μ → PX σ E τ → ∃ i, ([eIB, eIA, eNE] : List String)[i]? = some E ∧ ∃ ν, CRel τ ν ∧ gp (exV i) ν) :
    MG l yL_factsFor (.codeWith yL_factsFor cL_factsFor 4 (some .int) [(0, 6, 7, 40), (0, 6, 12, 42), (0, 6, 17, 65)]) (d + 1) k D ct ek ad N0 X F [.ref (ad 0), .int x, .int y] μ (gQi D ct ek ad N0 X gp) := by
  refine msH (own := RL) (by decide) rfl (Nat.le_of_ble_eq_true rfl) (fun p e s m args below meth c S hr hlocks hT G hW hS ls hl => ?_)
  have hx := S.1
  have hb := S.2.1
  have FZ := hY s G.2.2.2.2.2
  replace hl : lv_has ls 4 [(0, .ref (ad 0)), (1, .int x), (2, .int y)] := hl
  obtain ⟨σ, hP0, hC⟩ := hW
  refine lv_aload_n hx hb dL_factsFor_0 rfl (lv_at hl 0 rfl) ?_
  refine lv_iload_n hx hb dL_factsFor_1 rfl (lv_at hl 1 rfl) ?_
  refine lv_iload_n hx hb dL_factsFor_2 rfl (lv_at hl 2 rfl) ?_
  refine cLi (As := [.int x, .int y]) S G 0 (hM σ hC) ok_yX10_factsFor ml_RL_70 (by decide) oX rfl hP0 hS hl.1 rfl (Nat.le_refl _) rfl rfl (Nat.le_of_ble_eq_true rfl) ⟨by omega, by omega⟩ dL_factsFor_3 (fun E ce q τ H locs hp hP1 hS hce hcv hcl => ?_) (fun r τ H locs hp hP1 hS => ?_)
  · obtain ⟨i, hi, ν, hν, hg⟩ := hE σ E τ hC hp
    rcases i with _ | _ | _ | i
    · obtain rfl := Option.some.inj hi
      refine ctch (pre := []) (x := ⟨0, 6, 7, 40⟩) (suf := [⟨0, 6, 12, 42⟩, ⟨0, 6, 17, 65⟩]) S FZ hT (fun z hz => absurd hz List.not_mem_nil) rfl (by decide) cl_RL_40 (by decide +kernel) hce hcv hcl ?_
      refine lv_astore_n (lv' := [(3, .ref q), (0, .ref (ad 0)), (1, .int x), (2, .int y)]) hx hb dL_factsFor_7 rfl hl (by decide) rfl (fun ls hl => ?_)
      refine lv_sipush (v := (-1001)) hx hb dL_factsFor_8 (by decide) ?_
      exact eGi S hr hlocks ⟨τ, hP1, hν⟩ hS ⟨by omega, by omega⟩ dL_factsFor_11 (show gp (-1001) ν from hg)
    · obtain rfl := Option.some.inj hi
      refine ctch (pre := [⟨0, 6, 7, 40⟩]) (x := ⟨0, 6, 12, 42⟩) (suf := [⟨0, 6, 17, 65⟩]) S FZ hT (fun z hz => by
        simp only [List.mem_cons, List.not_mem_nil, or_false] at hz
        rcases hz with rfl
        · exact ⟨by decide, _, cl_RL_40, by decide⟩) rfl (by decide) cl_RL_42 (by decide +kernel) hce hcv hcl ?_
      refine lv_astore_n (lv' := [(3, .ref q), (0, .ref (ad 0)), (1, .int x), (2, .int y)]) hx hb dL_factsFor_12 rfl hl (by decide) rfl (fun ls hl => ?_)
      refine lv_sipush (v := (-1002)) hx hb dL_factsFor_13 (by decide) ?_
      exact eGi S hr hlocks ⟨τ, hP1, hν⟩ hS ⟨by omega, by omega⟩ dL_factsFor_16 (show gp (-1002) ν from hg)
    · obtain rfl := Option.some.inj hi
      refine ctch (pre := [⟨0, 6, 7, 40⟩, ⟨0, 6, 12, 42⟩]) (x := ⟨0, 6, 17, 65⟩) (suf := []) S FZ hT (fun z hz => by
        simp only [List.mem_cons, List.not_mem_nil, or_false] at hz
        rcases hz with rfl | rfl
        · exact ⟨by decide, _, cl_RL_40, by decide⟩
        · exact ⟨by decide, _, cl_RL_42, by decide⟩) rfl (by decide) cl_RL_65 (by decide +kernel) hce hcv hcl ?_
      refine lv_astore_n (lv' := [(3, .ref q), (0, .ref (ad 0)), (1, .int x), (2, .int y)]) hx hb dL_factsFor_17 rfl hl (by decide) rfl (fun ls hl => ?_)
      refine lv_sipush (v := (-1003)) hx hb dL_factsFor_18 (by decide) ?_
      exact eGi S hr hlocks ⟨τ, hP1, hν⟩ hS ⟨by omega, by omega⟩ dL_factsFor_21 (show gp (-1003) ν from hg)
    · exact absurd hi (by simp)
  · obtain ⟨ν, hν, hg⟩ := hQ σ r τ hC hp
    exact eGi S hr hlocks ⟨τ, hP1, hν⟩ hS ⟨by omega, by omega⟩ dL_factsFor_6 hg
theorem ckh_tiltIn : CKH yL_tiltIn cL_tiltIn 4 (some .int) [(0, 6, 7, 40), (0, 6, 12, 42)] 3 := ⟨sm_yL_tiltIn, in_RL, co_yL_tiltIn, ⟨by decide +kernel, by decide +kernel, by decide +kernel⟩, by decide⟩
set_option maxHeartbeats 1000000 in
set_option maxRecDepth 100000 in
theorem h_tiltIn (l : Launch) {D : va_G} {ct : Nat → ClassId} {ek ad : Nat → Nat} {N0 d k : Nat} {X : va_W} {F : State → Prop} (hY : ∀ U, F U → FY U) (μ : Mem) (x y : Int32) {post : Mem → Int32 → Mem → Prop} {PX : Mem → String → Mem → Prop} {gp : Int32 → Mem → Prop}
    (hM : ∀ σ, CRel σ μ → MXi l yX10_tiltIn cX10_tiltIn 4 (some .int) d k D ct ek ad N0 X F (.ref (ad 0) :: [.int x, .int y]) σ (post σ) (PX σ))
    (hQ : ∀ σ r τ, CRel σ μ → post σ r τ → ∃ ν, CRel τ ν ∧ gp r ν)
    (hE : ∀ σ E τ, CRel σ μ → PX σ E τ → ∃ i, ([eIB, eIA] : List String)[i]? = some E ∧ ∃ ν, CRel τ ν ∧ gp (exV i) ν) :
    MG l yL_tiltIn (.codeWith yL_tiltIn cL_tiltIn 4 (some .int) [(0, 6, 7, 40), (0, 6, 12, 42)]) (d + 1) k D ct ek ad N0 X F [.ref (ad 0), .int x, .int y] μ (gQi D ct ek ad N0 X gp) := by
  refine msH (own := RL) (by decide) rfl (Nat.le_of_ble_eq_true rfl) (fun p e s m args below meth c S hr hlocks hT G hW hS ls hl => ?_)
  have hx := S.1
  have hb := S.2.1
  have FZ := hY s G.2.2.2.2.2
  replace hl : lv_has ls 4 [(0, .ref (ad 0)), (1, .int x), (2, .int y)] := hl
  obtain ⟨σ, hP0, hC⟩ := hW
  refine lv_aload_n hx hb dL_tiltIn_0 rfl (lv_at hl 0 rfl) ?_
  refine lv_iload_n hx hb dL_tiltIn_1 rfl (lv_at hl 1 rfl) ?_
  refine lv_iload_n hx hb dL_tiltIn_2 rfl (lv_at hl 2 rfl) ?_
  refine cLi (As := [.int x, .int y]) S G 0 (hM σ hC) ok_yX10_tiltIn ml_RL_73 (by decide) oX rfl hP0 hS hl.1 rfl (Nat.le_refl _) rfl rfl (Nat.le_of_ble_eq_true rfl) ⟨by omega, by omega⟩ dL_tiltIn_3 (fun E ce q τ H locs hp hP1 hS hce hcv hcl => ?_) (fun r τ H locs hp hP1 hS => ?_)
  · obtain ⟨i, hi, ν, hν, hg⟩ := hE σ E τ hC hp
    rcases i with _ | _ | i
    · obtain rfl := Option.some.inj hi
      refine ctch (pre := []) (x := ⟨0, 6, 7, 40⟩) (suf := [⟨0, 6, 12, 42⟩]) S FZ hT (fun z hz => absurd hz List.not_mem_nil) rfl (by decide) cl_RL_40 (by decide +kernel) hce hcv hcl ?_
      refine lv_astore_n (lv' := [(3, .ref q), (0, .ref (ad 0)), (1, .int x), (2, .int y)]) hx hb dL_tiltIn_7 rfl hl (by decide) rfl (fun ls hl => ?_)
      refine lv_sipush (v := (-1001)) hx hb dL_tiltIn_8 (by decide) ?_
      exact eGi S hr hlocks ⟨τ, hP1, hν⟩ hS ⟨by omega, by omega⟩ dL_tiltIn_11 (show gp (-1001) ν from hg)
    · obtain rfl := Option.some.inj hi
      refine ctch (pre := [⟨0, 6, 7, 40⟩]) (x := ⟨0, 6, 12, 42⟩) (suf := []) S FZ hT (fun z hz => by
        simp only [List.mem_cons, List.not_mem_nil, or_false] at hz
        rcases hz with rfl
        · exact ⟨by decide, _, cl_RL_40, by decide⟩) rfl (by decide) cl_RL_42 (by decide +kernel) hce hcv hcl ?_
      refine lv_astore_n (lv' := [(3, .ref q), (0, .ref (ad 0)), (1, .int x), (2, .int y)]) hx hb dL_tiltIn_12 rfl hl (by decide) rfl (fun ls hl => ?_)
      refine lv_sipush (v := (-1002)) hx hb dL_tiltIn_13 (by decide) ?_
      exact eGi S hr hlocks ⟨τ, hP1, hν⟩ hS ⟨by omega, by omega⟩ dL_tiltIn_16 (show gp (-1002) ν from hg)
    · exact absurd hi (by simp)
  · obtain ⟨ν, hν, hg⟩ := hQ σ r τ hC hp
    exact eGi S hr hlocks ⟨τ, hP1, hν⟩ hS ⟨by omega, by omega⟩ dL_tiltIn_6 hg
theorem ckh_restsIn : CKH yL_restsIn cL_restsIn 2 (some .int) [(0, 4, 5, 65)] 1 := ⟨sm_yL_restsIn, in_RL, co_yL_restsIn, ⟨by decide +kernel, by decide +kernel, by decide +kernel⟩, by decide⟩
set_option maxHeartbeats 1000000 in
set_option maxRecDepth 100000 in
theorem h_restsIn (l : Launch) {D : va_G} {ct : Nat → ClassId} {ek ad : Nat → Nat} {N0 d k : Nat} {X : va_W} {F : State → Prop} (hY : ∀ U, F U → FY U) (μ : Mem) {post : Mem → Int32 → Mem → Prop} {PX : Mem → String → Mem → Prop} {gp : Int32 → Mem → Prop}
    (hM : ∀ σ, CRel σ μ → MXi l yX10_restsIn cX10_restsIn 2 (some .int) d k D ct ek ad N0 X F (.ref (ad 0) :: []) σ (post σ) (PX σ))
    (hQ : ∀ σ r τ, CRel σ μ → post σ r τ → ∃ ν, CRel τ ν ∧ gp r ν)
    (hE : ∀ σ E τ, CRel σ μ → PX σ E τ → ∃ i, ([eNE] : List String)[i]? = some E ∧ ∃ ν, CRel τ ν ∧ gp (exV i) ν) :
    MG l yL_restsIn (.codeWith yL_restsIn cL_restsIn 2 (some .int) [(0, 4, 5, 65)]) (d + 1) k D ct ek ad N0 X F [.ref (ad 0)] μ (gQi D ct ek ad N0 X gp) := by
  refine msH (own := RL) (by decide) rfl (Nat.le_of_ble_eq_true rfl) (fun p e s m args below meth c S hr hlocks hT G hW hS ls hl => ?_)
  have hx := S.1
  have hb := S.2.1
  have FZ := hY s G.2.2.2.2.2
  replace hl : lv_has ls 2 [(0, .ref (ad 0))] := hl
  obtain ⟨σ, hP0, hC⟩ := hW
  refine lv_aload_n hx hb dL_restsIn_0 rfl (lv_at hl 0 rfl) ?_
  refine cLi (As := []) S G 0 (hM σ hC) ok_yX10_restsIn ml_RL_76 (by decide) oX rfl hP0 hS hl.1 rfl (Nat.le_refl _) rfl rfl (Nat.le_of_ble_eq_true rfl) ⟨by omega, by omega⟩ dL_restsIn_1 (fun E ce q τ H locs hp hP1 hS hce hcv hcl => ?_) (fun r τ H locs hp hP1 hS => ?_)
  · obtain ⟨i, hi, ν, hν, hg⟩ := hE σ E τ hC hp
    rcases i with _ | i
    · obtain rfl := Option.some.inj hi
      refine ctch (pre := []) (x := ⟨0, 4, 5, 65⟩) (suf := []) S FZ hT (fun z hz => absurd hz List.not_mem_nil) rfl (by decide) cl_RL_65 (by decide +kernel) hce hcv hcl ?_
      refine lv_astore_n (lv' := [(1, .ref q), (0, .ref (ad 0))]) hx hb dL_restsIn_5 rfl hl (by decide) rfl (fun ls hl => ?_)
      refine lv_sipush (v := (-1001)) hx hb dL_restsIn_6 (by decide) ?_
      exact eGi S hr hlocks ⟨τ, hP1, hν⟩ hS ⟨by omega, by omega⟩ dL_restsIn_9 (show gp (-1001) ν from hg)
    · exact absurd hi (by simp)
  · obtain ⟨ν, hν, hg⟩ := hQ σ r τ hC hp
    exact eGi S hr hlocks ⟨τ, hP1, hν⟩ hS ⟨by omega, by omega⟩ dL_restsIn_4 hg
theorem ckh_breaksIn : CKH yL_breaksIn cL_breaksIn 3 (some .int) [(0, 5, 6, 40), (0, 5, 11, 65)] 2 := ⟨sm_yL_breaksIn, in_RL, co_yL_breaksIn, ⟨by decide +kernel, by decide +kernel, by decide +kernel⟩, by decide⟩
set_option maxHeartbeats 1000000 in
set_option maxRecDepth 100000 in
theorem h_breaksIn (l : Launch) {D : va_G} {ct : Nat → ClassId} {ek ad : Nat → Nat} {N0 d k : Nat} {X : va_W} {F : State → Prop} (hY : ∀ U, F U → FY U) (μ : Mem) (x : Int32) {post : Mem → Int32 → Mem → Prop} {PX : Mem → String → Mem → Prop} {gp : Int32 → Mem → Prop}
    (hM : ∀ σ, CRel σ μ → MXi l yX10_breaksIn cX10_breaksIn 5 (some .int) d k D ct ek ad N0 X F (.ref (ad 0) :: [.int x]) σ (post σ) (PX σ))
    (hQ : ∀ σ r τ, CRel σ μ → post σ r τ → ∃ ν, CRel τ ν ∧ gp r ν)
    (hE : ∀ σ E τ, CRel σ μ → PX σ E τ → ∃ i, ([eIB, eNE] : List String)[i]? = some E ∧ ∃ ν, CRel τ ν ∧ gp (exV i) ν) :
    MG l yL_breaksIn (.codeWith yL_breaksIn cL_breaksIn 3 (some .int) [(0, 5, 6, 40), (0, 5, 11, 65)]) (d + 1) k D ct ek ad N0 X F [.ref (ad 0), .int x] μ (gQi D ct ek ad N0 X gp) := by
  refine msH (own := RL) (by decide) rfl (Nat.le_of_ble_eq_true rfl) (fun p e s m args below meth c S hr hlocks hT G hW hS ls hl => ?_)
  have hx := S.1
  have hb := S.2.1
  have FZ := hY s G.2.2.2.2.2
  replace hl : lv_has ls 3 [(0, .ref (ad 0)), (1, .int x)] := hl
  obtain ⟨σ, hP0, hC⟩ := hW
  refine lv_aload_n hx hb dL_breaksIn_0 rfl (lv_at hl 0 rfl) ?_
  refine lv_iload_n hx hb dL_breaksIn_1 rfl (lv_at hl 1 rfl) ?_
  refine cLi (As := [.int x]) S G 0 (hM σ hC) ok_yX10_breaksIn ml_RL_79 (by decide) oX rfl hP0 hS hl.1 rfl (Nat.le_refl _) rfl rfl (Nat.le_of_ble_eq_true rfl) ⟨by omega, by omega⟩ dL_breaksIn_2 (fun E ce q τ H locs hp hP1 hS hce hcv hcl => ?_) (fun r τ H locs hp hP1 hS => ?_)
  · obtain ⟨i, hi, ν, hν, hg⟩ := hE σ E τ hC hp
    rcases i with _ | _ | i
    · obtain rfl := Option.some.inj hi
      refine ctch (pre := []) (x := ⟨0, 5, 6, 40⟩) (suf := [⟨0, 5, 11, 65⟩]) S FZ hT (fun z hz => absurd hz List.not_mem_nil) rfl (by decide) cl_RL_40 (by decide +kernel) hce hcv hcl ?_
      refine lv_astore_n (lv' := [(2, .ref q), (0, .ref (ad 0)), (1, .int x)]) hx hb dL_breaksIn_6 rfl hl (by decide) rfl (fun ls hl => ?_)
      refine lv_sipush (v := (-1001)) hx hb dL_breaksIn_7 (by decide) ?_
      exact eGi S hr hlocks ⟨τ, hP1, hν⟩ hS ⟨by omega, by omega⟩ dL_breaksIn_10 (show gp (-1001) ν from hg)
    · obtain rfl := Option.some.inj hi
      refine ctch (pre := [⟨0, 5, 6, 40⟩]) (x := ⟨0, 5, 11, 65⟩) (suf := []) S FZ hT (fun z hz => by
        simp only [List.mem_cons, List.not_mem_nil, or_false] at hz
        rcases hz with rfl
        · exact ⟨by decide, _, cl_RL_40, by decide⟩) rfl (by decide) cl_RL_65 (by decide +kernel) hce hcv hcl ?_
      refine lv_astore_n (lv' := [(2, .ref q), (0, .ref (ad 0)), (1, .int x)]) hx hb dL_breaksIn_11 rfl hl (by decide) rfl (fun ls hl => ?_)
      refine lv_sipush (v := (-1002)) hx hb dL_breaksIn_12 (by decide) ?_
      exact eGi S hr hlocks ⟨τ, hP1, hν⟩ hS ⟨by omega, by omega⟩ dL_breaksIn_15 (show gp (-1002) ν from hg)
    · exact absurd hi (by simp)
  · obtain ⟨ν, hν, hg⟩ := hQ σ r τ hC hp
    exact eGi S hr hlocks ⟨τ, hP1, hν⟩ hS ⟨by omega, by omega⟩ dL_breaksIn_5 hg
theorem ckh_camp : CKH yL_camp cL_camp 3 (some .int) [(0, 5, 6, 40)] 2 := ⟨sm_yL_camp, in_RL, co_yL_camp, ⟨by decide +kernel, by decide +kernel, by decide +kernel⟩, by decide⟩
set_option maxHeartbeats 1000000 in
set_option maxRecDepth 100000 in
theorem h_camp (l : Launch) {D : va_G} {ct : Nat → ClassId} {ek ad : Nat → Nat} {N0 d k : Nat} {X : va_W} {F : State → Prop} (hY : ∀ U, F U → FY U) (μ : Mem) (x : Int32) {post : Mem → Int32 → Mem → Prop} {PX : Mem → String → Mem → Prop} {gp : Int32 → Mem → Prop}
    (hM : ∀ σ, CRel σ μ → MXi l yX10_camp cX10_camp 2 (some .int) d k D ct ek ad N0 X F (.ref (ad 0) :: [.int x]) σ (post σ) (PX σ))
    (hQ : ∀ σ r τ, CRel σ μ → post σ r τ → ∃ ν, CRel τ ν ∧ gp r ν)
    (hE : ∀ σ E τ, CRel σ μ → PX σ E τ → ∃ i, ([eIB] : List String)[i]? = some E ∧ ∃ ν, CRel τ ν ∧ gp (exV i) ν) :
    MG l yL_camp (.codeWith yL_camp cL_camp 3 (some .int) [(0, 5, 6, 40)]) (d + 1) k D ct ek ad N0 X F [.ref (ad 0), .int x] μ (gQi D ct ek ad N0 X gp) := by
  refine msH (own := RL) (by decide) rfl (Nat.le_of_ble_eq_true rfl) (fun p e s m args below meth c S hr hlocks hT G hW hS ls hl => ?_)
  have hx := S.1
  have hb := S.2.1
  have FZ := hY s G.2.2.2.2.2
  replace hl : lv_has ls 3 [(0, .ref (ad 0)), (1, .int x)] := hl
  obtain ⟨σ, hP0, hC⟩ := hW
  refine lv_aload_n hx hb dL_camp_0 rfl (lv_at hl 0 rfl) ?_
  refine lv_iload_n hx hb dL_camp_1 rfl (lv_at hl 1 rfl) ?_
  refine cLi (As := [.int x]) S G 0 (hM σ hC) ok_yX10_camp ml_RL_82 (by decide) oX rfl hP0 hS hl.1 rfl (Nat.le_refl _) rfl rfl (Nat.le_of_ble_eq_true rfl) ⟨by omega, by omega⟩ dL_camp_2 (fun E ce q τ H locs hp hP1 hS hce hcv hcl => ?_) (fun r τ H locs hp hP1 hS => ?_)
  · obtain ⟨i, hi, ν, hν, hg⟩ := hE σ E τ hC hp
    rcases i with _ | i
    · obtain rfl := Option.some.inj hi
      refine ctch (pre := []) (x := ⟨0, 5, 6, 40⟩) (suf := []) S FZ hT (fun z hz => absurd hz List.not_mem_nil) rfl (by decide) cl_RL_40 (by decide +kernel) hce hcv hcl ?_
      refine lv_astore_n (lv' := [(2, .ref q), (0, .ref (ad 0)), (1, .int x)]) hx hb dL_camp_6 rfl hl (by decide) rfl (fun ls hl => ?_)
      refine lv_sipush (v := (-1001)) hx hb dL_camp_7 (by decide) ?_
      exact eGi S hr hlocks ⟨τ, hP1, hν⟩ hS ⟨by omega, by omega⟩ dL_camp_10 (show gp (-1001) ν from hg)
    · exact absurd hi (by simp)
  · obtain ⟨ν, hν, hg⟩ := hQ σ r τ hC hp
    exact eGi S hr hlocks ⟨τ, hP1, hν⟩ hS ⟨by omega, by omega⟩ dL_camp_5 hg
theorem ckh_greatest : CKH yL_greatest cL_greatest 3 (some .int) [(0, 5, 6, 65)] 2 := ⟨sm_yL_greatest, in_RL, co_yL_greatest, ⟨by decide +kernel, by decide +kernel, by decide +kernel⟩, by decide⟩
set_option maxHeartbeats 1000000 in
set_option maxRecDepth 100000 in
theorem h_greatest (l : Launch) {D : va_G} {ct : Nat → ClassId} {ek ad : Nat → Nat} {N0 d k : Nat} {X : va_W} {F : State → Prop} (hY : ∀ U, F U → FY U) (μ : Mem) (x : Int32) {post : Mem → Int32 → Mem → Prop} {PX : Mem → String → Mem → Prop} {gp : Int32 → Mem → Prop}
    (hM : ∀ σ, CRel σ μ → MXi l yX10_greatest cX10_greatest 3 (some .int) d k D ct ek ad N0 X F (.ref (ad 0) :: [.int x]) σ (post σ) (PX σ))
    (hQ : ∀ σ r τ, CRel σ μ → post σ r τ → ∃ ν, CRel τ ν ∧ gp r ν)
    (hE : ∀ σ E τ, CRel σ μ → PX σ E τ → ∃ i, ([eNE] : List String)[i]? = some E ∧ ∃ ν, CRel τ ν ∧ gp (exV i) ν) :
    MG l yL_greatest (.codeWith yL_greatest cL_greatest 3 (some .int) [(0, 5, 6, 65)]) (d + 1) k D ct ek ad N0 X F [.ref (ad 0), .int x] μ (gQi D ct ek ad N0 X gp) := by
  refine msH (own := RL) (by decide) rfl (Nat.le_of_ble_eq_true rfl) (fun p e s m args below meth c S hr hlocks hT G hW hS ls hl => ?_)
  have hx := S.1
  have hb := S.2.1
  have FZ := hY s G.2.2.2.2.2
  replace hl : lv_has ls 3 [(0, .ref (ad 0)), (1, .int x)] := hl
  obtain ⟨σ, hP0, hC⟩ := hW
  refine lv_aload_n hx hb dL_greatest_0 rfl (lv_at hl 0 rfl) ?_
  refine lv_iload_n hx hb dL_greatest_1 rfl (lv_at hl 1 rfl) ?_
  refine cLi (As := [.int x]) S G 0 (hM σ hC) ok_yX10_greatest ml_RL_85 (by decide) oX rfl hP0 hS hl.1 rfl (Nat.le_refl _) rfl rfl (Nat.le_of_ble_eq_true rfl) ⟨by omega, by omega⟩ dL_greatest_2 (fun E ce q τ H locs hp hP1 hS hce hcv hcl => ?_) (fun r τ H locs hp hP1 hS => ?_)
  · obtain ⟨i, hi, ν, hν, hg⟩ := hE σ E τ hC hp
    rcases i with _ | i
    · obtain rfl := Option.some.inj hi
      refine ctch (pre := []) (x := ⟨0, 5, 6, 65⟩) (suf := []) S FZ hT (fun z hz => absurd hz List.not_mem_nil) rfl (by decide) cl_RL_65 (by decide +kernel) hce hcv hcl ?_
      refine lv_astore_n (lv' := [(2, .ref q), (0, .ref (ad 0)), (1, .int x)]) hx hb dL_greatest_6 rfl hl (by decide) rfl (fun ls hl => ?_)
      refine lv_sipush (v := (-1001)) hx hb dL_greatest_7 (by decide) ?_
      exact eGi S hr hlocks ⟨τ, hP1, hν⟩ hS ⟨by omega, by omega⟩ dL_greatest_10 (show gp (-1001) ν from hg)
    · exact absurd hi (by simp)
  · obtain ⟨ν, hν, hg⟩ := hQ σ r τ hC hp
    exact eGi S hr hlocks ⟨τ, hP1, hν⟩ hS ⟨by omega, by omega⟩ dL_greatest_5 hg
theorem ckh_ranked : CKH yL_ranked cL_ranked 4 (some .int) [(0, 6, 7, 42), (0, 6, 12, 65)] 3 := ⟨sm_yL_ranked, in_RL, co_yL_ranked, ⟨by decide +kernel, by decide +kernel, by decide +kernel⟩, by decide⟩
set_option maxHeartbeats 1000000 in
set_option maxRecDepth 100000 in
theorem h_ranked (l : Launch) {D : va_G} {ct : Nat → ClassId} {ek ad : Nat → Nat} {N0 d k : Nat} {X : va_W} {F : State → Prop} (hY : ∀ U, F U → FY U) (μ : Mem) (x y : Int32) {post : Mem → Int32 → Mem → Prop} {PX : Mem → String → Mem → Prop} {gp : Int32 → Mem → Prop}
    (hM : ∀ σ, CRel σ μ → MXi l yX10_ranked cX10_ranked 4 (some .int) d k D ct ek ad N0 X F (.ref (ad 0) :: [.int x, .int y]) σ (post σ) (PX σ))
    (hQ : ∀ σ r τ, CRel σ μ → post σ r τ → ∃ ν, CRel τ ν ∧ gp r ν)
    (hE : ∀ σ E τ, CRel σ μ → PX σ E τ → ∃ i, ([eIA, eNE] : List String)[i]? = some E ∧ ∃ ν, CRel τ ν ∧ gp (exV i) ν) :
    MG l yL_ranked (.codeWith yL_ranked cL_ranked 4 (some .int) [(0, 6, 7, 42), (0, 6, 12, 65)]) (d + 1) k D ct ek ad N0 X F [.ref (ad 0), .int x, .int y] μ (gQi D ct ek ad N0 X gp) := by
  refine msH (own := RL) (by decide) rfl (Nat.le_of_ble_eq_true rfl) (fun p e s m args below meth c S hr hlocks hT G hW hS ls hl => ?_)
  have hx := S.1
  have hb := S.2.1
  have FZ := hY s G.2.2.2.2.2
  replace hl : lv_has ls 4 [(0, .ref (ad 0)), (1, .int x), (2, .int y)] := hl
  obtain ⟨σ, hP0, hC⟩ := hW
  refine lv_aload_n hx hb dL_ranked_0 rfl (lv_at hl 0 rfl) ?_
  refine lv_iload_n hx hb dL_ranked_1 rfl (lv_at hl 1 rfl) ?_
  refine lv_iload_n hx hb dL_ranked_2 rfl (lv_at hl 2 rfl) ?_
  refine cLi (As := [.int x, .int y]) S G 0 (hM σ hC) ok_yX10_ranked ml_RL_89 (by decide) oX rfl hP0 hS hl.1 rfl (Nat.le_refl _) rfl rfl (Nat.le_of_ble_eq_true rfl) ⟨by omega, by omega⟩ dL_ranked_3 (fun E ce q τ H locs hp hP1 hS hce hcv hcl => ?_) (fun r τ H locs hp hP1 hS => ?_)
  · obtain ⟨i, hi, ν, hν, hg⟩ := hE σ E τ hC hp
    rcases i with _ | _ | i
    · obtain rfl := Option.some.inj hi
      refine ctch (pre := []) (x := ⟨0, 6, 7, 42⟩) (suf := [⟨0, 6, 12, 65⟩]) S FZ hT (fun z hz => absurd hz List.not_mem_nil) rfl (by decide) cl_RL_42 (by decide +kernel) hce hcv hcl ?_
      refine lv_astore_n (lv' := [(3, .ref q), (0, .ref (ad 0)), (1, .int x), (2, .int y)]) hx hb dL_ranked_7 rfl hl (by decide) rfl (fun ls hl => ?_)
      refine lv_sipush (v := (-1001)) hx hb dL_ranked_8 (by decide) ?_
      exact eGi S hr hlocks ⟨τ, hP1, hν⟩ hS ⟨by omega, by omega⟩ dL_ranked_11 (show gp (-1001) ν from hg)
    · obtain rfl := Option.some.inj hi
      refine ctch (pre := [⟨0, 6, 7, 42⟩]) (x := ⟨0, 6, 12, 65⟩) (suf := []) S FZ hT (fun z hz => by
        simp only [List.mem_cons, List.not_mem_nil, or_false] at hz
        rcases hz with rfl
        · exact ⟨by decide, _, cl_RL_42, by decide⟩) rfl (by decide) cl_RL_65 (by decide +kernel) hce hcv hcl ?_
      refine lv_astore_n (lv' := [(3, .ref q), (0, .ref (ad 0)), (1, .int x), (2, .int y)]) hx hb dL_ranked_12 rfl hl (by decide) rfl (fun ls hl => ?_)
      refine lv_sipush (v := (-1002)) hx hb dL_ranked_13 (by decide) ?_
      exact eGi S hr hlocks ⟨τ, hP1, hν⟩ hS ⟨by omega, by omega⟩ dL_ranked_16 (show gp (-1002) ν from hg)
    · exact absurd hi (by simp)
  · obtain ⟨ν, hν, hg⟩ := hQ σ r τ hC hp
    exact eGi S hr hlocks ⟨τ, hP1, hν⟩ hS ⟨by omega, by omega⟩ dL_ranked_6 hg
theorem ckh_weakest : CKH yL_weakest cL_weakest 3 (some .int) [(0, 5, 6, 65)] 2 := ⟨sm_yL_weakest, in_RL, co_yL_weakest, ⟨by decide +kernel, by decide +kernel, by decide +kernel⟩, by decide⟩
set_option maxHeartbeats 1000000 in
set_option maxRecDepth 100000 in
theorem h_weakest (l : Launch) {D : va_G} {ct : Nat → ClassId} {ek ad : Nat → Nat} {N0 d k : Nat} {X : va_W} {F : State → Prop} (hY : ∀ U, F U → FY U) (μ : Mem) (x : Int32) {post : Mem → Int32 → Mem → Prop} {PX : Mem → String → Mem → Prop} {gp : Int32 → Mem → Prop}
    (hM : ∀ σ, CRel σ μ → MXi l yX10_weakest cX10_weakest 3 (some .int) d k D ct ek ad N0 X F (.ref (ad 0) :: [.int x]) σ (post σ) (PX σ))
    (hQ : ∀ σ r τ, CRel σ μ → post σ r τ → ∃ ν, CRel τ ν ∧ gp r ν)
    (hE : ∀ σ E τ, CRel σ μ → PX σ E τ → ∃ i, ([eNE] : List String)[i]? = some E ∧ ∃ ν, CRel τ ν ∧ gp (exV i) ν) :
    MG l yL_weakest (.codeWith yL_weakest cL_weakest 3 (some .int) [(0, 5, 6, 65)]) (d + 1) k D ct ek ad N0 X F [.ref (ad 0), .int x] μ (gQi D ct ek ad N0 X gp) := by
  refine msH (own := RL) (by decide) rfl (Nat.le_of_ble_eq_true rfl) (fun p e s m args below meth c S hr hlocks hT G hW hS ls hl => ?_)
  have hx := S.1
  have hb := S.2.1
  have FZ := hY s G.2.2.2.2.2
  replace hl : lv_has ls 3 [(0, .ref (ad 0)), (1, .int x)] := hl
  obtain ⟨σ, hP0, hC⟩ := hW
  refine lv_aload_n hx hb dL_weakest_0 rfl (lv_at hl 0 rfl) ?_
  refine lv_iload_n hx hb dL_weakest_1 rfl (lv_at hl 1 rfl) ?_
  refine cLi (As := [.int x]) S G 0 (hM σ hC) ok_yX10_weakest ml_RL_92 (by decide) oX rfl hP0 hS hl.1 rfl (Nat.le_refl _) rfl rfl (Nat.le_of_ble_eq_true rfl) ⟨by omega, by omega⟩ dL_weakest_2 (fun E ce q τ H locs hp hP1 hS hce hcv hcl => ?_) (fun r τ H locs hp hP1 hS => ?_)
  · obtain ⟨i, hi, ν, hν, hg⟩ := hE σ E τ hC hp
    rcases i with _ | i
    · obtain rfl := Option.some.inj hi
      refine ctch (pre := []) (x := ⟨0, 5, 6, 65⟩) (suf := []) S FZ hT (fun z hz => absurd hz List.not_mem_nil) rfl (by decide) cl_RL_65 (by decide +kernel) hce hcv hcl ?_
      refine lv_astore_n (lv' := [(2, .ref q), (0, .ref (ad 0)), (1, .int x)]) hx hb dL_weakest_6 rfl hl (by decide) rfl (fun ls hl => ?_)
      refine lv_sipush (v := (-1001)) hx hb dL_weakest_7 (by decide) ?_
      exact eGi S hr hlocks ⟨τ, hP1, hν⟩ hS ⟨by omega, by omega⟩ dL_weakest_10 (show gp (-1001) ν from hg)
    · exact absurd hi (by simp)
  · obtain ⟨ν, hν, hg⟩ := hQ σ r τ hC hp
    exact eGi S hr hlocks ⟨τ, hP1, hν⟩ hS ⟨by omega, by omega⟩ dL_weakest_5 hg
theorem ckh_append : CKH yL_append cL_append 3 (some .int) [(0, 5, 6, 99)] 2 := ⟨sm_yL_append, in_RL, co_yL_append, ⟨by decide +kernel, by decide +kernel, by decide +kernel⟩, by decide⟩
set_option maxHeartbeats 1000000 in
set_option maxRecDepth 100000 in
theorem h_append (l : Launch) {D : va_G} {ct : Nat → ClassId} {ek ad : Nat → Nat} {N0 d k : Nat} {X : va_W} {F : State → Prop} (hY : ∀ U, F U → FY U) (μ : Mem) (x : Int32) {post : Mem → Int32 → Mem → Prop} {PX : Mem → String → Mem → Prop} {gp : Int32 → Mem → Prop}
    (hM : ∀ σ, CRel σ μ → MXi l yX10_append cX10_append 2 (some .int) d k D ct ek ad N0 X F (.ref (ad 0) :: [.int x]) σ (post σ) (PX σ))
    (hQ : ∀ σ r τ, CRel σ μ → post σ r τ → ∃ ν, CRel τ ν ∧ gp r ν)
    (hE : ∀ σ E τ, CRel σ μ → PX σ E τ → ∃ i, ([eIS] : List String)[i]? = some E ∧ ∃ ν, CRel τ ν ∧ gp (exV i) ν) :
    MG l yL_append (.codeWith yL_append cL_append 3 (some .int) [(0, 5, 6, 99)]) (d + 1) k D ct ek ad N0 X F [.ref (ad 0), .int x] μ (gQi D ct ek ad N0 X gp) := by
  refine msH (own := RL) (by decide) rfl (Nat.le_of_ble_eq_true rfl) (fun p e s m args below meth c S hr hlocks hT G hW hS ls hl => ?_)
  have hx := S.1
  have hb := S.2.1
  have FZ := hY s G.2.2.2.2.2
  replace hl : lv_has ls 3 [(0, .ref (ad 0)), (1, .int x)] := hl
  obtain ⟨σ, hP0, hC⟩ := hW
  refine lv_aload_n hx hb dL_append_0 rfl (lv_at hl 0 rfl) ?_
  refine lv_iload_n hx hb dL_append_1 rfl (lv_at hl 1 rfl) ?_
  refine cLi (As := [.int x]) S G 0 (hM σ hC) ok_yX10_append ml_RL_95 (by decide) oX rfl hP0 hS hl.1 rfl (Nat.le_refl _) rfl rfl (Nat.le_of_ble_eq_true rfl) ⟨by omega, by omega⟩ dL_append_2 (fun E ce q τ H locs hp hP1 hS hce hcv hcl => ?_) (fun r τ H locs hp hP1 hS => ?_)
  · obtain ⟨i, hi, ν, hν, hg⟩ := hE σ E τ hC hp
    rcases i with _ | i
    · obtain rfl := Option.some.inj hi
      refine ctch (pre := []) (x := ⟨0, 5, 6, 99⟩) (suf := []) S FZ hT (fun z hz => absurd hz List.not_mem_nil) rfl (by decide) cl_RL_99 (by decide +kernel) hce hcv hcl ?_
      refine lv_astore_n (lv' := [(2, .ref q), (0, .ref (ad 0)), (1, .int x)]) hx hb dL_append_6 rfl hl (by decide) rfl (fun ls hl => ?_)
      refine lv_sipush (v := (-1001)) hx hb dL_append_7 (by decide) ?_
      exact eGi S hr hlocks ⟨τ, hP1, hν⟩ hS ⟨by omega, by omega⟩ dL_append_10 (show gp (-1001) ν from hg)
    · exact absurd hi (by simp)
  · obtain ⟨ν, hν, hg⟩ := hQ σ r τ hC hp
    exact eGi S hr hlocks ⟨τ, hP1, hν⟩ hS ⟨by omega, by omega⟩ dL_append_5 hg
theorem ckh_commands : CKH yL_commands cL_commands 2 (some .int) [(0, 4, 5, 42), (0, 4, 10, 13)] 1 := ⟨sm_yL_commands, in_RL, co_yL_commands, ⟨by decide +kernel, by decide +kernel, by decide +kernel⟩, by decide⟩
set_option maxHeartbeats 1000000 in
set_option maxRecDepth 100000 in
theorem h_commands (l : Launch) {D : va_G} {ct : Nat → ClassId} {ek ad : Nat → Nat} {N0 d k : Nat} {X : va_W} {F : State → Prop} (hY : ∀ U, F U → FY U) (μ : Mem) {post : Mem → Int32 → Mem → Prop} {PX : Mem → String → Mem → Prop} {gp : Int32 → Mem → Prop}
    (hM : ∀ σ, CRel σ μ → MXi l yX10_commands cX10_commands 3 (some .int) d k D ct ek ad N0 X F (.ref (ad 0) :: []) σ (post σ) (PX σ))
    (hQ : ∀ σ r τ, CRel σ μ → post σ r τ → ∃ ν, CRel τ ν ∧ gp r ν)
    (hE : ∀ σ E τ, CRel σ μ → PX σ E τ → ∃ i, ([eIA, eUO] : List String)[i]? = some E ∧ ∃ ν, CRel τ ν ∧ gp (exV i) ν) :
    MG l yL_commands (.codeWith yL_commands cL_commands 2 (some .int) [(0, 4, 5, 42), (0, 4, 10, 13)]) (d + 1) k D ct ek ad N0 X F [.ref (ad 0)] μ (gQi D ct ek ad N0 X gp) := by
  refine msH (own := RL) (by decide) rfl (Nat.le_of_ble_eq_true rfl) (fun p e s m args below meth c S hr hlocks hT G hW hS ls hl => ?_)
  have hx := S.1
  have hb := S.2.1
  have FZ := hY s G.2.2.2.2.2
  replace hl : lv_has ls 2 [(0, .ref (ad 0))] := hl
  obtain ⟨σ, hP0, hC⟩ := hW
  refine lv_aload_n hx hb dL_commands_0 rfl (lv_at hl 0 rfl) ?_
  refine cLi (As := []) S G 0 (hM σ hC) ok_yX10_commands ml_RL_101 (by decide) oX rfl hP0 hS hl.1 rfl (Nat.le_refl _) rfl rfl (Nat.le_of_ble_eq_true rfl) ⟨by omega, by omega⟩ dL_commands_1 (fun E ce q τ H locs hp hP1 hS hce hcv hcl => ?_) (fun r τ H locs hp hP1 hS => ?_)
  · obtain ⟨i, hi, ν, hν, hg⟩ := hE σ E τ hC hp
    rcases i with _ | _ | i
    · obtain rfl := Option.some.inj hi
      refine ctch (pre := []) (x := ⟨0, 4, 5, 42⟩) (suf := [⟨0, 4, 10, 13⟩]) S FZ hT (fun z hz => absurd hz List.not_mem_nil) rfl (by decide) cl_RL_42 (by decide +kernel) hce hcv hcl ?_
      refine lv_astore_n (lv' := [(1, .ref q), (0, .ref (ad 0))]) hx hb dL_commands_5 rfl hl (by decide) rfl (fun ls hl => ?_)
      refine lv_sipush (v := (-1001)) hx hb dL_commands_6 (by decide) ?_
      exact eGi S hr hlocks ⟨τ, hP1, hν⟩ hS ⟨by omega, by omega⟩ dL_commands_9 (show gp (-1001) ν from hg)
    · obtain rfl := Option.some.inj hi
      refine ctch (pre := [⟨0, 4, 5, 42⟩]) (x := ⟨0, 4, 10, 13⟩) (suf := []) S FZ hT (fun z hz => by
        simp only [List.mem_cons, List.not_mem_nil, or_false] at hz
        rcases hz with rfl
        · exact ⟨by decide, _, cl_RL_42, by decide⟩) rfl (by decide) cl_RL_13 (by decide +kernel) hce hcv hcl ?_
      refine lv_astore_n (lv' := [(1, .ref q), (0, .ref (ad 0))]) hx hb dL_commands_10 rfl hl (by decide) rfl (fun ls hl => ?_)
      refine lv_sipush (v := (-1002)) hx hb dL_commands_11 (by decide) ?_
      exact eGi S hr hlocks ⟨τ, hP1, hν⟩ hS ⟨by omega, by omega⟩ dL_commands_14 (show gp (-1002) ν from hg)
    · exact absurd hi (by simp)
  · obtain ⟨ν, hν, hg⟩ := hQ σ r τ hC hp
    exact eGi S hr hlocks ⟨τ, hP1, hν⟩ hS ⟨by omega, by omega⟩ dL_commands_4 hg
theorem ckh_reason : CKH yL_reason cL_reason 3 (some .int) [(0, 5, 6, 42), (0, 5, 11, 65)] 2 := ⟨sm_yL_reason, in_RL, co_yL_reason, ⟨by decide +kernel, by decide +kernel, by decide +kernel⟩, by decide⟩
set_option maxHeartbeats 1000000 in
set_option maxRecDepth 100000 in
theorem h_reason (l : Launch) {D : va_G} {ct : Nat → ClassId} {ek ad : Nat → Nat} {N0 d k : Nat} {X : va_W} {F : State → Prop} (hY : ∀ U, F U → FY U) (μ : Mem) (x : Int32) {post : Mem → Int32 → Mem → Prop} {PX : Mem → String → Mem → Prop} {gp : Int32 → Mem → Prop}
    (hM : ∀ σ, CRel σ μ → MXi l yX10_reason cX10_reason 2 (some .int) d k D ct ek ad N0 X F (.ref (ad 0) :: [.int x]) σ (post σ) (PX σ))
    (hQ : ∀ σ r τ, CRel σ μ → post σ r τ → ∃ ν, CRel τ ν ∧ gp r ν)
    (hE : ∀ σ E τ, CRel σ μ → PX σ E τ → ∃ i, ([eIA, eNE] : List String)[i]? = some E ∧ ∃ ν, CRel τ ν ∧ gp (exV i) ν) :
    MG l yL_reason (.codeWith yL_reason cL_reason 3 (some .int) [(0, 5, 6, 42), (0, 5, 11, 65)]) (d + 1) k D ct ek ad N0 X F [.ref (ad 0), .int x] μ (gQi D ct ek ad N0 X gp) := by
  refine msH (own := RL) (by decide) rfl (Nat.le_of_ble_eq_true rfl) (fun p e s m args below meth c S hr hlocks hT G hW hS ls hl => ?_)
  have hx := S.1
  have hb := S.2.1
  have FZ := hY s G.2.2.2.2.2
  replace hl : lv_has ls 3 [(0, .ref (ad 0)), (1, .int x)] := hl
  obtain ⟨σ, hP0, hC⟩ := hW
  refine lv_aload_n hx hb dL_reason_0 rfl (lv_at hl 0 rfl) ?_
  refine lv_iload_n hx hb dL_reason_1 rfl (lv_at hl 1 rfl) ?_
  refine cLi (As := [.int x]) S G 0 (hM σ hC) ok_yX10_reason ml_RL_104 (by decide) oX rfl hP0 hS hl.1 rfl (Nat.le_refl _) rfl rfl (Nat.le_of_ble_eq_true rfl) ⟨by omega, by omega⟩ dL_reason_2 (fun E ce q τ H locs hp hP1 hS hce hcv hcl => ?_) (fun r τ H locs hp hP1 hS => ?_)
  · obtain ⟨i, hi, ν, hν, hg⟩ := hE σ E τ hC hp
    rcases i with _ | _ | i
    · obtain rfl := Option.some.inj hi
      refine ctch (pre := []) (x := ⟨0, 5, 6, 42⟩) (suf := [⟨0, 5, 11, 65⟩]) S FZ hT (fun z hz => absurd hz List.not_mem_nil) rfl (by decide) cl_RL_42 (by decide +kernel) hce hcv hcl ?_
      refine lv_astore_n (lv' := [(2, .ref q), (0, .ref (ad 0)), (1, .int x)]) hx hb dL_reason_6 rfl hl (by decide) rfl (fun ls hl => ?_)
      refine lv_sipush (v := (-1001)) hx hb dL_reason_7 (by decide) ?_
      exact eGi S hr hlocks ⟨τ, hP1, hν⟩ hS ⟨by omega, by omega⟩ dL_reason_10 (show gp (-1001) ν from hg)
    · obtain rfl := Option.some.inj hi
      refine ctch (pre := [⟨0, 5, 6, 42⟩]) (x := ⟨0, 5, 11, 65⟩) (suf := []) S FZ hT (fun z hz => by
        simp only [List.mem_cons, List.not_mem_nil, or_false] at hz
        rcases hz with rfl
        · exact ⟨by decide, _, cl_RL_42, by decide⟩) rfl (by decide) cl_RL_65 (by decide +kernel) hce hcv hcl ?_
      refine lv_astore_n (lv' := [(2, .ref q), (0, .ref (ad 0)), (1, .int x)]) hx hb dL_reason_11 rfl hl (by decide) rfl (fun ls hl => ?_)
      refine lv_sipush (v := (-1002)) hx hb dL_reason_12 (by decide) ?_
      exact eGi S hr hlocks ⟨τ, hP1, hν⟩ hS ⟨by omega, by omega⟩ dL_reason_15 (show gp (-1002) ν from hg)
    · exact absurd hi (by simp)
  · obtain ⟨ν, hν, hg⟩ := hQ σ r τ hC hp
    exact eGi S hr hlocks ⟨τ, hP1, hν⟩ hS ⟨by omega, by omega⟩ dL_reason_5 hg
theorem ckh_line : CKH yL_line cL_line 3 (some .int) [(0, 5, 6, 40)] 2 := ⟨sm_yL_line, in_RL, co_yL_line, ⟨by decide +kernel, by decide +kernel, by decide +kernel⟩, by decide⟩
set_option maxHeartbeats 1000000 in
set_option maxRecDepth 100000 in
theorem h_line (l : Launch) {D : va_G} {ct : Nat → ClassId} {ek ad : Nat → Nat} {N0 d k : Nat} {X : va_W} {F : State → Prop} (hY : ∀ U, F U → FY U) (μ : Mem) (x : Int32) {post : Mem → Int32 → Mem → Prop} {PX : Mem → String → Mem → Prop} {gp : Int32 → Mem → Prop}
    (hM : ∀ σ, CRel σ μ → MXi l yX10_line cX10_line 2 (some .int) d k D ct ek ad N0 X F (.ref (ad 0) :: [.int x]) σ (post σ) (PX σ))
    (hQ : ∀ σ r τ, CRel σ μ → post σ r τ → ∃ ν, CRel τ ν ∧ gp r ν)
    (hE : ∀ σ E τ, CRel σ μ → PX σ E τ → ∃ i, ([eIB] : List String)[i]? = some E ∧ ∃ ν, CRel τ ν ∧ gp (exV i) ν) :
    MG l yL_line (.codeWith yL_line cL_line 3 (some .int) [(0, 5, 6, 40)]) (d + 1) k D ct ek ad N0 X F [.ref (ad 0), .int x] μ (gQi D ct ek ad N0 X gp) := by
  refine msH (own := RL) (by decide) rfl (Nat.le_of_ble_eq_true rfl) (fun p e s m args below meth c S hr hlocks hT G hW hS ls hl => ?_)
  have hx := S.1
  have hb := S.2.1
  have FZ := hY s G.2.2.2.2.2
  replace hl : lv_has ls 3 [(0, .ref (ad 0)), (1, .int x)] := hl
  obtain ⟨σ, hP0, hC⟩ := hW
  refine lv_aload_n hx hb dL_line_0 rfl (lv_at hl 0 rfl) ?_
  refine lv_iload_n hx hb dL_line_1 rfl (lv_at hl 1 rfl) ?_
  refine cLi (As := [.int x]) S G 0 (hM σ hC) ok_yX10_line ml_RL_107 (by decide) oX rfl hP0 hS hl.1 rfl (Nat.le_refl _) rfl rfl (Nat.le_of_ble_eq_true rfl) ⟨by omega, by omega⟩ dL_line_2 (fun E ce q τ H locs hp hP1 hS hce hcv hcl => ?_) (fun r τ H locs hp hP1 hS => ?_)
  · obtain ⟨i, hi, ν, hν, hg⟩ := hE σ E τ hC hp
    rcases i with _ | i
    · obtain rfl := Option.some.inj hi
      refine ctch (pre := []) (x := ⟨0, 5, 6, 40⟩) (suf := []) S FZ hT (fun z hz => absurd hz List.not_mem_nil) rfl (by decide) cl_RL_40 (by decide +kernel) hce hcv hcl ?_
      refine lv_astore_n (lv' := [(2, .ref q), (0, .ref (ad 0)), (1, .int x)]) hx hb dL_line_6 rfl hl (by decide) rfl (fun ls hl => ?_)
      refine lv_sipush (v := (-1001)) hx hb dL_line_7 (by decide) ?_
      exact eGi S hr hlocks ⟨τ, hP1, hν⟩ hS ⟨by omega, by omega⟩ dL_line_10 (show gp (-1001) ν from hg)
    · exact absurd hi (by simp)
  · obtain ⟨ν, hν, hg⟩ := hQ σ r τ hC hp
    exact eGi S hr hlocks ⟨τ, hP1, hν⟩ hS ⟨by omega, by omega⟩ dL_line_5 hg
theorem ckh_character : CKH yL_character cL_character 3 (some .int) [(0, 5, 6, 40)] 2 := ⟨sm_yL_character, in_RL, co_yL_character, ⟨by decide +kernel, by decide +kernel, by decide +kernel⟩, by decide⟩
set_option maxHeartbeats 1000000 in
set_option maxRecDepth 100000 in
theorem h_character (l : Launch) {D : va_G} {ct : Nat → ClassId} {ek ad : Nat → Nat} {N0 d k : Nat} {X : va_W} {F : State → Prop} (hY : ∀ U, F U → FY U) (μ : Mem) (x : Int32) {post : Mem → Int32 → Mem → Prop} {PX : Mem → String → Mem → Prop} {gp : Int32 → Mem → Prop}
    (hM : ∀ σ, CRel σ μ → MXi l yX10_character cX10_character 2 (some .char) d k D ct ek ad N0 X F (.ref (ad 0) :: [.int x]) σ (post σ) (PX σ))
    (hQ : ∀ σ r τ, CRel σ μ → post σ r τ → ∃ ν, CRel τ ν ∧ gp r ν)
    (hE : ∀ σ E τ, CRel σ μ → PX σ E τ → ∃ i, ([eIB] : List String)[i]? = some E ∧ ∃ ν, CRel τ ν ∧ gp (exV i) ν) :
    MG l yL_character (.codeWith yL_character cL_character 3 (some .int) [(0, 5, 6, 40)]) (d + 1) k D ct ek ad N0 X F [.ref (ad 0), .int x] μ (gQi D ct ek ad N0 X gp) := by
  refine msH (own := RL) (by decide) rfl (Nat.le_of_ble_eq_true rfl) (fun p e s m args below meth c S hr hlocks hT G hW hS ls hl => ?_)
  have hx := S.1
  have hb := S.2.1
  have FZ := hY s G.2.2.2.2.2
  replace hl : lv_has ls 3 [(0, .ref (ad 0)), (1, .int x)] := hl
  obtain ⟨σ, hP0, hC⟩ := hW
  refine lv_aload_n hx hb dL_character_0 rfl (lv_at hl 0 rfl) ?_
  refine lv_iload_n hx hb dL_character_1 rfl (lv_at hl 1 rfl) ?_
  refine cLi (As := [.int x]) S G 0 (hM σ hC) ok_yX10_character ml_RL_110 (by decide) oX rfl hP0 hS hl.1 rfl (Nat.le_refl _) rfl rfl (Nat.le_of_ble_eq_true rfl) ⟨by omega, by omega⟩ dL_character_2 (fun E ce q τ H locs hp hP1 hS hce hcv hcl => ?_) (fun r τ H locs hp hP1 hS => ?_)
  · obtain ⟨i, hi, ν, hν, hg⟩ := hE σ E τ hC hp
    rcases i with _ | i
    · obtain rfl := Option.some.inj hi
      refine ctch (pre := []) (x := ⟨0, 5, 6, 40⟩) (suf := []) S FZ hT (fun z hz => absurd hz List.not_mem_nil) rfl (by decide) cl_RL_40 (by decide +kernel) hce hcv hcl ?_
      refine lv_astore_n (lv' := [(2, .ref q), (0, .ref (ad 0)), (1, .int x)]) hx hb dL_character_6 rfl hl (by decide) rfl (fun ls hl => ?_)
      refine lv_sipush (v := (-1001)) hx hb dL_character_7 (by decide) ?_
      exact eGi S hr hlocks ⟨τ, hP1, hν⟩ hS ⟨by omega, by omega⟩ dL_character_10 (show gp (-1001) ν from hg)
    · exact absurd hi (by simp)
  · obtain ⟨ν, hν, hg⟩ := hQ σ r τ hC hp
    exact eGi S hr hlocks ⟨τ, hP1, hν⟩ hS ⟨by omega, by omega⟩ dL_character_5 hg
theorem ckh_meanTilt : CKH yL_meanTilt cL_meanTilt 2 (some .double) [(0, 4, 5, 118)] 1 := ⟨sm_yL_meanTilt, in_RL, co_yL_meanTilt, ⟨by decide +kernel, by decide +kernel, by decide +kernel⟩, by decide⟩
set_option maxHeartbeats 1000000 in
set_option maxRecDepth 100000 in
theorem h_meanTilt (l : Launch) {D : va_G} {ct : Nat → ClassId} {ek ad : Nat → Nat} {N0 d k : Nat} {X : va_W} {F : State → Prop} (hY : ∀ U, F U → FY U) (μ : Mem) {post : Mem → UInt64 → Mem → Prop} {PX : Mem → String → Mem → Prop} {gp : UInt64 → Mem → Prop}
    (hM : ∀ σ, CRel σ μ → MXd l yX10_meanTilt cX10_meanTilt 2 d k D ct ek ad N0 X F (.ref (ad 0) :: []) σ (post σ) (PX σ))
    (hQ : ∀ σ r τ, CRel σ μ → post σ r τ → ∃ ν, CRel τ ν ∧ gp r ν)
    (hE : ∀ σ E τ, CRel σ μ → PX σ E τ → False) :
    MG l yL_meanTilt (.codeWith yL_meanTilt cL_meanTilt 2 (some .double) [(0, 4, 5, 118)]) (d + 1) k D ct ek ad N0 X F [.ref (ad 0)] μ (gQd D ct ek ad N0 X gp) := by
  refine msH (own := RL) (by decide) rfl (Nat.le_of_ble_eq_true rfl) (fun p e s m args below meth c S hr hlocks hT G hW hS ls hl => ?_)
  have hx := S.1
  have hb := S.2.1
  have FZ := hY s G.2.2.2.2.2
  replace hl : lv_has ls 2 [(0, .ref (ad 0))] := hl
  obtain ⟨σ, hP0, hC⟩ := hW
  refine lv_aload_n hx hb dL_meanTilt_0 rfl (lv_at hl 0 rfl) ?_
  refine cLd (As := []) S G 0 (hM σ hC) ok_yX10_meanTilt ml_RL_114 (by decide) oX rfl hP0 hS hl.1 rfl (Nat.le_refl _) rfl rfl (Nat.le_of_ble_eq_true rfl) ⟨by omega, by omega⟩ dL_meanTilt_1 (fun E ce q τ H locs hp hP1 hS hce hcv hcl => ?_) (fun r τ H locs hp hP1 hS => ?_)
  · exact (hE σ E τ hC hp).elim
  · obtain ⟨ν, hν, hg⟩ := hQ σ r τ hC hp
    exact eGd S hr hlocks ⟨τ, hP1, hν⟩ hS ⟨by omega, by omega⟩ dL_meanTilt_4 hg
theorem ckh_plumbShare : CKH yL_plumbShare cL_plumbShare 2 (some .float) [(0, 4, 5, 118)] 1 := ⟨sm_yL_plumbShare, in_RL, co_yL_plumbShare, ⟨by decide +kernel, by decide +kernel, by decide +kernel⟩, by decide⟩
set_option maxHeartbeats 1000000 in
set_option maxRecDepth 100000 in
theorem h_plumbShare (l : Launch) {D : va_G} {ct : Nat → ClassId} {ek ad : Nat → Nat} {N0 d k : Nat} {X : va_W} {F : State → Prop} (hY : ∀ U, F U → FY U) (μ : Mem) {post : Mem → UInt32 → Mem → Prop} {PX : Mem → String → Mem → Prop} {gp : UInt32 → Mem → Prop}
    (hM : ∀ σ, CRel σ μ → MXf l yX10_plumbShare cX10_plumbShare 2 d k D ct ek ad N0 X F (.ref (ad 0) :: []) σ (post σ) (PX σ))
    (hQ : ∀ σ r τ, CRel σ μ → post σ r τ → ∃ ν, CRel τ ν ∧ gp r ν)
    (hE : ∀ σ E τ, CRel σ μ → PX σ E τ → False) :
    MG l yL_plumbShare (.codeWith yL_plumbShare cL_plumbShare 2 (some .float) [(0, 4, 5, 118)]) (d + 1) k D ct ek ad N0 X F [.ref (ad 0)] μ (gQf D ct ek ad N0 X gp) := by
  refine msH (own := RL) (by decide) rfl (Nat.le_of_ble_eq_true rfl) (fun p e s m args below meth c S hr hlocks hT G hW hS ls hl => ?_)
  have hx := S.1
  have hb := S.2.1
  have FZ := hY s G.2.2.2.2.2
  replace hl : lv_has ls 2 [(0, .ref (ad 0))] := hl
  obtain ⟨σ, hP0, hC⟩ := hW
  refine lv_aload_n hx hb dL_plumbShare_0 rfl (lv_at hl 0 rfl) ?_
  refine cLf (As := []) S G 0 (hM σ hC) ok_yX10_plumbShare ml_RL_122 (by decide) oX rfl hP0 hS hl.1 rfl (Nat.le_refl _) rfl rfl (Nat.le_of_ble_eq_true rfl) ⟨by omega, by omega⟩ dL_plumbShare_1 (fun E ce q τ H locs hp hP1 hS hce hcv hcl => ?_) (fun r τ H locs hp hP1 hS => ?_)
  · exact (hE σ E τ hC hp).elim
  · obtain ⟨ν, hν, hg⟩ := hQ σ r τ hC hp
    exact eGf S hr hlocks ⟨τ, hP1, hν⟩ hS ⟨by omega, by omega⟩ dL_plumbShare_4 hg
theorem ckh_account : CKH yL_account cL_account 3 (some .int) [(0, 5, 6, 42)] 2 := ⟨sm_yL_account, in_RL, co_yL_account, ⟨by decide +kernel, by decide +kernel, by decide +kernel⟩, by decide⟩
set_option maxHeartbeats 1000000 in
set_option maxRecDepth 100000 in
theorem h_account (l : Launch) {D : va_G} {ct : Nat → ClassId} {ek ad : Nat → Nat} {N0 d k : Nat} {X : va_W} {F : State → Prop} (hY : ∀ U, F U → FY U) (μ : Mem) (x : Int32) {post : Mem → Int32 → Mem → Prop} {PX : Mem → String → Mem → Prop} {gp : Int32 → Mem → Prop}
    (hM : ∀ σ, CRel σ μ → MXi l yX10_account cX10_account 2 (some .int) d k D ct ek ad N0 X F (.ref (ad 0) :: [.int x]) σ (post σ) (PX σ))
    (hQ : ∀ σ r τ, CRel σ μ → post σ r τ → ∃ ν, CRel τ ν ∧ gp r ν)
    (hE : ∀ σ E τ, CRel σ μ → PX σ E τ → ∃ i, ([eIA] : List String)[i]? = some E ∧ ∃ ν, CRel τ ν ∧ gp (exV i) ν) :
    MG l yL_account (.codeWith yL_account cL_account 3 (some .int) [(0, 5, 6, 42)]) (d + 1) k D ct ek ad N0 X F [.ref (ad 0), .int x] μ (gQi D ct ek ad N0 X gp) := by
  refine msH (own := RL) (by decide) rfl (Nat.le_of_ble_eq_true rfl) (fun p e s m args below meth c S hr hlocks hT G hW hS ls hl => ?_)
  have hx := S.1
  have hb := S.2.1
  have FZ := hY s G.2.2.2.2.2
  replace hl : lv_has ls 3 [(0, .ref (ad 0)), (1, .int x)] := hl
  obtain ⟨σ, hP0, hC⟩ := hW
  refine lv_aload_n hx hb dL_account_0 rfl (lv_at hl 0 rfl) ?_
  refine lv_iload_n hx hb dL_account_1 rfl (lv_at hl 1 rfl) ?_
  refine cLi (As := [.int x]) S G 0 (hM σ hC) ok_yX10_account ml_RL_127 (by decide) oX rfl hP0 hS hl.1 rfl (Nat.le_refl _) rfl rfl (Nat.le_of_ble_eq_true rfl) ⟨by omega, by omega⟩ dL_account_2 (fun E ce q τ H locs hp hP1 hS hce hcv hcl => ?_) (fun r τ H locs hp hP1 hS => ?_)
  · obtain ⟨i, hi, ν, hν, hg⟩ := hE σ E τ hC hp
    rcases i with _ | i
    · obtain rfl := Option.some.inj hi
      refine ctch (pre := []) (x := ⟨0, 5, 6, 42⟩) (suf := []) S FZ hT (fun z hz => absurd hz List.not_mem_nil) rfl (by decide) cl_RL_42 (by decide +kernel) hce hcv hcl ?_
      refine lv_astore_n (lv' := [(2, .ref q), (0, .ref (ad 0)), (1, .int x)]) hx hb dL_account_6 rfl hl (by decide) rfl (fun ls hl => ?_)
      refine lv_sipush (v := (-1001)) hx hb dL_account_7 (by decide) ?_
      exact eGi S hr hlocks ⟨τ, hP1, hν⟩ hS ⟨by omega, by omega⟩ dL_account_10 (show gp (-1001) ν from hg)
    · exact absurd hi (by simp)
  · obtain ⟨ν, hν, hg⟩ := hQ σ r τ hC hp
    exact eGi S hr hlocks ⟨τ, hP1, hν⟩ hS ⟨by omega, by omega⟩ dL_account_5 hg
theorem ckh_undo : CKH yL_undo cL_undo 2 (some .int) [(0, 4, 5, 99)] 1 := ⟨sm_yL_undo, in_RL, co_yL_undo, ⟨by decide +kernel, by decide +kernel, by decide +kernel⟩, by decide⟩
set_option maxHeartbeats 1000000 in
set_option maxRecDepth 100000 in
theorem h_undo (l : Launch) {D : va_G} {ct : Nat → ClassId} {ek ad : Nat → Nat} {N0 d k : Nat} {X : va_W} {F : State → Prop} (hY : ∀ U, F U → FY U) (μ : Mem) {post : Mem → Int32 → Mem → Prop} {PX : Mem → String → Mem → Prop} {gp : Int32 → Mem → Prop}
    (hM : ∀ σ, CRel σ μ → MXi l yX10_undo cX10_undo 1 (some .int) d k D ct ek ad N0 X F (.ref (ad 0) :: []) σ (post σ) (PX σ))
    (hQ : ∀ σ r τ, CRel σ μ → post σ r τ → ∃ ν, CRel τ ν ∧ gp r ν)
    (hE : ∀ σ E τ, CRel σ μ → PX σ E τ → ∃ i, ([eIS] : List String)[i]? = some E ∧ ∃ ν, CRel τ ν ∧ gp (exV i) ν) :
    MG l yL_undo (.codeWith yL_undo cL_undo 2 (some .int) [(0, 4, 5, 99)]) (d + 1) k D ct ek ad N0 X F [.ref (ad 0)] μ (gQi D ct ek ad N0 X gp) := by
  refine msH (own := RL) (by decide) rfl (Nat.le_of_ble_eq_true rfl) (fun p e s m args below meth c S hr hlocks hT G hW hS ls hl => ?_)
  have hx := S.1
  have hb := S.2.1
  have FZ := hY s G.2.2.2.2.2
  replace hl : lv_has ls 2 [(0, .ref (ad 0))] := hl
  obtain ⟨σ, hP0, hC⟩ := hW
  refine lv_aload_n hx hb dL_undo_0 rfl (lv_at hl 0 rfl) ?_
  refine cLi (As := []) S G 0 (hM σ hC) ok_yX10_undo ml_RL_130 (by decide) oX rfl hP0 hS hl.1 rfl (Nat.le_refl _) rfl rfl (Nat.le_of_ble_eq_true rfl) ⟨by omega, by omega⟩ dL_undo_1 (fun E ce q τ H locs hp hP1 hS hce hcv hcl => ?_) (fun r τ H locs hp hP1 hS => ?_)
  · obtain ⟨i, hi, ν, hν, hg⟩ := hE σ E τ hC hp
    rcases i with _ | i
    · obtain rfl := Option.some.inj hi
      refine ctch (pre := []) (x := ⟨0, 4, 5, 99⟩) (suf := []) S FZ hT (fun z hz => absurd hz List.not_mem_nil) rfl (by decide) cl_RL_99 (by decide +kernel) hce hcv hcl ?_
      refine lv_astore_n (lv' := [(1, .ref q), (0, .ref (ad 0))]) hx hb dL_undo_5 rfl hl (by decide) rfl (fun ls hl => ?_)
      refine lv_sipush (v := (-1001)) hx hb dL_undo_6 (by decide) ?_
      exact eGi S hr hlocks ⟨τ, hP1, hν⟩ hS ⟨by omega, by omega⟩ dL_undo_9 (show gp (-1001) ν from hg)
    · exact absurd hi (by simp)
  · obtain ⟨ν, hν, hg⟩ := hQ σ r τ hC hp
    exact eGi S hr hlocks ⟨τ, hP1, hν⟩ hS ⟨by omega, by omega⟩ dL_undo_4 hg
theorem ckh_restore : CKH yL_restore cL_restore 2 (some .int) [(0, 4, 5, 99)] 1 := ⟨sm_yL_restore, in_RL, co_yL_restore, ⟨by decide +kernel, by decide +kernel, by decide +kernel⟩, by decide⟩
set_option maxHeartbeats 1000000 in
set_option maxRecDepth 100000 in
theorem h_restore (l : Launch) {D : va_G} {ct : Nat → ClassId} {ek ad : Nat → Nat} {N0 d k : Nat} {X : va_W} {F : State → Prop} (hY : ∀ U, F U → FY U) (μ : Mem) {post : Mem → Int32 → Mem → Prop} {PX : Mem → String → Mem → Prop} {gp : Int32 → Mem → Prop}
    (hM : ∀ σ, CRel σ μ → MXi l yX10_restore cX10_restore 1 (some .int) d k D ct ek ad N0 X F (.ref (ad 0) :: []) σ (post σ) (PX σ))
    (hQ : ∀ σ r τ, CRel σ μ → post σ r τ → ∃ ν, CRel τ ν ∧ gp r ν)
    (hE : ∀ σ E τ, CRel σ μ → PX σ E τ → ∃ i, ([eIS] : List String)[i]? = some E ∧ ∃ ν, CRel τ ν ∧ gp (exV i) ν) :
    MG l yL_restore (.codeWith yL_restore cL_restore 2 (some .int) [(0, 4, 5, 99)]) (d + 1) k D ct ek ad N0 X F [.ref (ad 0)] μ (gQi D ct ek ad N0 X gp) := by
  refine msH (own := RL) (by decide) rfl (Nat.le_of_ble_eq_true rfl) (fun p e s m args below meth c S hr hlocks hT G hW hS ls hl => ?_)
  have hx := S.1
  have hb := S.2.1
  have FZ := hY s G.2.2.2.2.2
  replace hl : lv_has ls 2 [(0, .ref (ad 0))] := hl
  obtain ⟨σ, hP0, hC⟩ := hW
  refine lv_aload_n hx hb dL_restore_0 rfl (lv_at hl 0 rfl) ?_
  refine cLi (As := []) S G 0 (hM σ hC) ok_yX10_restore ml_RL_133 (by decide) oX rfl hP0 hS hl.1 rfl (Nat.le_refl _) rfl rfl (Nat.le_of_ble_eq_true rfl) ⟨by omega, by omega⟩ dL_restore_1 (fun E ce q τ H locs hp hP1 hS hce hcv hcl => ?_) (fun r τ H locs hp hP1 hS => ?_)
  · obtain ⟨i, hi, ν, hν, hg⟩ := hE σ E τ hC hp
    rcases i with _ | i
    · obtain rfl := Option.some.inj hi
      refine ctch (pre := []) (x := ⟨0, 4, 5, 99⟩) (suf := []) S FZ hT (fun z hz => absurd hz List.not_mem_nil) rfl (by decide) cl_RL_99 (by decide +kernel) hce hcv hcl ?_
      refine lv_astore_n (lv' := [(1, .ref q), (0, .ref (ad 0))]) hx hb dL_restore_5 rfl hl (by decide) rfl (fun ls hl => ?_)
      refine lv_sipush (v := (-1001)) hx hb dL_restore_6 (by decide) ?_
      exact eGi S hr hlocks ⟨τ, hP1, hν⟩ hS ⟨by omega, by omega⟩ dL_restore_9 (show gp (-1001) ν from hg)
    · exact absurd hi (by simp)
  · obtain ⟨ν, hν, hg⟩ := hQ σ r τ hC hp
    exact eGi S hr hlocks ⟨τ, hP1, hν⟩ hS ⟨by omega, by omega⟩ dL_restore_4 hg

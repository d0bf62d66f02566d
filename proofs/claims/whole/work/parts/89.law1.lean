/-! the law's helpers (laid by wip/whole/spec_law.py) -/
set_option maxHeartbeats 1000000 in
set_option maxRecDepth 100000 in
theorem c_L_friends (l : Launch) {D : va_G} {ct : Nat → ClassId} {ek ad : Nat → Nat} {N0 qo qd d k : Nat} {F : State → Prop} (hY : ∀ U, F U → FY U) (σ : Mem) (v : Nat → Int64) (w : Nat → UInt64) (x y z : Int32) {post : Int32 → Mem → Prop} {PX : String → Mem → Prop}
    (hM : MXi l yX10_friends cX10_friends 4 (some .int) d k D ct ek ad N0 (outX ct qo qd v w) F (.ref (ad 0) :: [.int x, .int y, .int z]) σ post PX) (hE : ∀ E τ, PX E τ → E = eUO) :
    ML l yL_friends cL_friends 6 [(0, 12, 15, 13)] (d + 1) k D ct ek ad N0 qo qd F [.ref (ad 0), .int x, .int y, .int z, .ref qo] σ v w (LQ [eUO] v w post PX) := by
  refine ms0L (own := RL) (by decide) rfl (Nat.le_of_ble_eq_true rfl) (fun p e s m args below meth c S hr hlocks hT G hP hS ls hl => ?_)
  have hx := S.1
  have hb := S.2.1
  have FZ := hY s G.2.2.2.2.2
  replace hl : lv_has ls 6 [(0, .ref (ad 0)), (1, .int x), (2, .int y), (3, .int z), (4, .ref qo)] := hl
  refine lv_aload hx hb dL_friends_0 (lv_at hl 4 rfl) ?_
  refine lv_iconst (v := 0) hx hb dL_friends_2 (by decide) ?_
  refine lv_aload_n hx hb dL_friends_3 rfl (lv_at hl 0 rfl) ?_
  refine lv_iload_n hx hb dL_friends_4 rfl (lv_at hl 1 rfl) ?_
  refine lv_iload_n hx hb dL_friends_5 rfl (lv_at hl 2 rfl) ?_
  refine lv_iload_n hx hb dL_friends_6 rfl (lv_at hl 3 rfl) ?_
  refine cLi (As := [.int x, .int y, .int z]) S G 0 hM ok_yX10_friends ml_RL_15 (by decide) oX rfl hP hS hl.1 rfl (Nat.le_refl _) rfl rfl (Nat.le_of_ble_eq_true rfl) ⟨by omega, by omega⟩ dL_friends_7 (fun E ce q τ H locs hp hP hS hce hcv hcl => ?_) (fun r τ H locs hp hP hS => ?_)
  · rcases hE E τ hp with rfl
    refine ctch (pre := []) (x := ⟨0, 12, 15, 13⟩) (suf := []) S FZ hT (fun z hz => absurd hz List.not_mem_nil) rfl (by decide) cl_RL_13 (by decide +kernel) hce hcv hcl ?_
    refine lv_astore (lv' := [(5, .ref q), (0, .ref (ad 0)), (1, .int x), (2, .int y), (3, .int z), (4, .ref qo)]) hx hb dL_friends_15 hl (by decide) rfl (fun ls hl => ?_)
    refine lv_iconst (v := 1) hx hb dL_friends_17 (by decide) ?_
    exact eL S hr hlocks hP hS ⟨by omega, by omega⟩ dL_friends_18 (Or.inr ⟨0, _, rfl, hp, rfl, rfl⟩)
  · refine lv_i2l hx hb dL_friends_10 rfl ?_
    refine ost S G hP hS dL_friends_11 (fun H locs hP hS => ?_)
    refine lv_goto (tgt := 19) hx hb dL_friends_12 (by decide) ?_
    refine lv_iconst (v := 0) hx hb dL_friends_19 (by decide) ?_
    exact eL S hr hlocks hP hS ⟨by omega, by omega⟩ dL_friends_20 (Or.inl ⟨rfl, r, hp, rfl⟩)
set_option maxHeartbeats 1000000 in
set_option maxRecDepth 100000 in
theorem c_L_round (l : Launch) {D : va_G} {ct : Nat → ClassId} {ek ad : Nat → Nat} {N0 qo qd d k : Nat} {F : State → Prop} (hY : ∀ U, F U → FY U) (σ : Mem) (v : Nat → Int64) (w : Nat → UInt64) {post : Int32 → Mem → Prop} {PX : String → Mem → Prop}
    (hM : MXi l yX10_round cX10_round 1 (some .int) d k D ct ek ad N0 (outX ct qo qd v w) F (.ref (ad 0) :: []) σ post PX) (hE : ∀ E τ, PX E τ → E = eUO) :
    ML l yL_round cL_round 3 [(0, 8, 11, 13)] (d + 1) k D ct ek ad N0 qo qd F [.ref (ad 0), .ref qo] σ v w (LQ [eUO] v w post PX) := by
  refine ms0L (own := RL) (by decide) rfl (Nat.le_of_ble_eq_true rfl) (fun p e s m args below meth c S hr hlocks hT G hP hS ls hl => ?_)
  have hx := S.1
  have hb := S.2.1
  have FZ := hY s G.2.2.2.2.2
  replace hl : lv_has ls 3 [(0, .ref (ad 0)), (1, .ref qo)] := hl
  refine lv_aload_n hx hb dL_round_0 rfl (lv_at hl 1 rfl) ?_
  refine lv_iconst (v := 0) hx hb dL_round_1 (by decide) ?_
  refine lv_aload_n hx hb dL_round_2 rfl (lv_at hl 0 rfl) ?_
  refine cLi (As := []) S G 0 hM ok_yX10_round ml_RL_19 (by decide) oX rfl hP hS hl.1 rfl (Nat.le_refl _) rfl rfl (Nat.le_of_ble_eq_true rfl) ⟨by omega, by omega⟩ dL_round_3 (fun E ce q τ H locs hp hP hS hce hcv hcl => ?_) (fun r τ H locs hp hP hS => ?_)
  · rcases hE E τ hp with rfl
    refine ctch (pre := []) (x := ⟨0, 8, 11, 13⟩) (suf := []) S FZ hT (fun z hz => absurd hz List.not_mem_nil) rfl (by decide) cl_RL_13 (by decide +kernel) hce hcv hcl ?_
    refine lv_astore_n (lv' := [(2, .ref q), (0, .ref (ad 0)), (1, .ref qo)]) hx hb dL_round_11 rfl hl (by decide) rfl (fun ls hl => ?_)
    refine lv_iconst (v := 1) hx hb dL_round_12 (by decide) ?_
    exact eL S hr hlocks hP hS ⟨by omega, by omega⟩ dL_round_13 (Or.inr ⟨0, _, rfl, hp, rfl, rfl⟩)
  · refine lv_i2l hx hb dL_round_6 rfl ?_
    refine ost S G hP hS dL_round_7 (fun H locs hP hS => ?_)
    refine lv_goto (tgt := 14) hx hb dL_round_8 (by decide) ?_
    refine lv_iconst (v := 0) hx hb dL_round_14 (by decide) ?_
    exact eL S hr hlocks hP hS ⟨by omega, by omega⟩ dL_round_15 (Or.inl ⟨rfl, r, hp, rfl⟩)
set_option maxHeartbeats 1000000 in
set_option maxRecDepth 100000 in
theorem c_L_fact (l : Launch) {D : va_G} {ct : Nat → ClassId} {ek ad : Nat → Nat} {N0 qo qd d k : Nat} {F : State → Prop} (hY : ∀ U, F U → FY U) (σ : Mem) (v : Nat → Int64) (w : Nat → UInt64) (x y : Int32) {post : Int32 → Mem → Prop} {PX : String → Mem → Prop}
    (hM : MXi l yX10_fact cX10_fact 3 (some .int) d k D ct ek ad N0 (outX ct qo qd v w) F (.ref (ad 0) :: [.int x, .int y]) σ post PX) (hE : ∀ E τ, PX E τ → E = eUO) :
    ML l yL_fact cL_fact 5 [(0, 10, 13, 13)] (d + 1) k D ct ek ad N0 qo qd F [.ref (ad 0), .int x, .int y, .ref qo] σ v w (LQ [eUO] v w post PX) := by
  refine ms0L (own := RL) (by decide) rfl (Nat.le_of_ble_eq_true rfl) (fun p e s m args below meth c S hr hlocks hT G hP hS ls hl => ?_)
  have hx := S.1
  have hb := S.2.1
  have FZ := hY s G.2.2.2.2.2
  replace hl : lv_has ls 5 [(0, .ref (ad 0)), (1, .int x), (2, .int y), (3, .ref qo)] := hl
  refine lv_aload_n hx hb dL_fact_0 rfl (lv_at hl 3 rfl) ?_
  refine lv_iconst (v := 0) hx hb dL_fact_1 (by decide) ?_
  refine lv_aload_n hx hb dL_fact_2 rfl (lv_at hl 0 rfl) ?_
  refine lv_iload_n hx hb dL_fact_3 rfl (lv_at hl 1 rfl) ?_
  refine lv_iload_n hx hb dL_fact_4 rfl (lv_at hl 2 rfl) ?_
  refine cLi (As := [.int x, .int y]) S G 0 hM ok_yX10_fact ml_RL_23 (by decide) oX rfl hP hS hl.1 rfl (Nat.le_refl _) rfl rfl (Nat.le_of_ble_eq_true rfl) ⟨by omega, by omega⟩ dL_fact_5 (fun E ce q τ H locs hp hP hS hce hcv hcl => ?_) (fun r τ H locs hp hP hS => ?_)
  · rcases hE E τ hp with rfl
    refine ctch (pre := []) (x := ⟨0, 10, 13, 13⟩) (suf := []) S FZ hT (fun z hz => absurd hz List.not_mem_nil) rfl (by decide) cl_RL_13 (by decide +kernel) hce hcv hcl ?_
    refine lv_astore (lv' := [(4, .ref q), (0, .ref (ad 0)), (1, .int x), (2, .int y), (3, .ref qo)]) hx hb dL_fact_13 hl (by decide) rfl (fun ls hl => ?_)
    refine lv_iconst (v := 1) hx hb dL_fact_15 (by decide) ?_
    exact eL S hr hlocks hP hS ⟨by omega, by omega⟩ dL_fact_16 (Or.inr ⟨0, _, rfl, hp, rfl, rfl⟩)
  · refine lv_i2l hx hb dL_fact_8 rfl ?_
    refine ost S G hP hS dL_fact_9 (fun H locs hP hS => ?_)
    refine lv_goto (tgt := 17) hx hb dL_fact_10 (by decide) ?_
    refine lv_iconst (v := 0) hx hb dL_fact_17 (by decide) ?_
    exact eL S hr hlocks hP hS ⟨by omega, by omega⟩ dL_fact_18 (Or.inl ⟨rfl, r, hp, rfl⟩)
set_option maxHeartbeats 1000000 in
set_option maxRecDepth 100000 in
theorem c_L_beam (l : Launch) {D : va_G} {ct : Nat → ClassId} {ek ad : Nat → Nat} {N0 qo qd d k : Nat} {F : State → Prop} (hY : ∀ U, F U → FY U) (σ : Mem) (v : Nat → Int64) (w : Nat → UInt64) (x y z : Int32) {post : Int32 → Mem → Prop} {PX : String → Mem → Prop}
    (hM : MXi l yX10_beam cX10_beam 4 (some .int) d k D ct ek ad N0 (outX ct qo qd v w) F (.ref (ad 0) :: [.int x, .int y, .int z]) σ post PX) (hE : ∀ E τ, PX E τ → E = eUO) :
    ML l yL_beam cL_beam 6 [(0, 12, 15, 13)] (d + 1) k D ct ek ad N0 qo qd F [.ref (ad 0), .int x, .int y, .int z, .ref qo] σ v w (LQ [eUO] v w post PX) := by
  refine ms0L (own := RL) (by decide) rfl (Nat.le_of_ble_eq_true rfl) (fun p e s m args below meth c S hr hlocks hT G hP hS ls hl => ?_)
  have hx := S.1
  have hb := S.2.1
  have FZ := hY s G.2.2.2.2.2
  replace hl : lv_has ls 6 [(0, .ref (ad 0)), (1, .int x), (2, .int y), (3, .int z), (4, .ref qo)] := hl
  refine lv_aload hx hb dL_beam_0 (lv_at hl 4 rfl) ?_
  refine lv_iconst (v := 0) hx hb dL_beam_2 (by decide) ?_
  refine lv_aload_n hx hb dL_beam_3 rfl (lv_at hl 0 rfl) ?_
  refine lv_iload_n hx hb dL_beam_4 rfl (lv_at hl 1 rfl) ?_
  refine lv_iload_n hx hb dL_beam_5 rfl (lv_at hl 2 rfl) ?_
  refine lv_iload_n hx hb dL_beam_6 rfl (lv_at hl 3 rfl) ?_
  refine cLi (As := [.int x, .int y, .int z]) S G 0 hM ok_yX10_beam ml_RL_27 (by decide) oX rfl hP hS hl.1 rfl (Nat.le_refl _) rfl rfl (Nat.le_of_ble_eq_true rfl) ⟨by omega, by omega⟩ dL_beam_7 (fun E ce q τ H locs hp hP hS hce hcv hcl => ?_) (fun r τ H locs hp hP hS => ?_)
  · rcases hE E τ hp with rfl
    refine ctch (pre := []) (x := ⟨0, 12, 15, 13⟩) (suf := []) S FZ hT (fun z hz => absurd hz List.not_mem_nil) rfl (by decide) cl_RL_13 (by decide +kernel) hce hcv hcl ?_
    refine lv_astore (lv' := [(5, .ref q), (0, .ref (ad 0)), (1, .int x), (2, .int y), (3, .int z), (4, .ref qo)]) hx hb dL_beam_15 hl (by decide) rfl (fun ls hl => ?_)
    refine lv_iconst (v := 1) hx hb dL_beam_17 (by decide) ?_
    exact eL S hr hlocks hP hS ⟨by omega, by omega⟩ dL_beam_18 (Or.inr ⟨0, _, rfl, hp, rfl, rfl⟩)
  · refine lv_i2l hx hb dL_beam_10 rfl ?_
    refine ost S G hP hS dL_beam_11 (fun H locs hP hS => ?_)
    refine lv_goto (tgt := 19) hx hb dL_beam_12 (by decide) ?_
    refine lv_iconst (v := 0) hx hb dL_beam_19 (by decide) ?_
    exact eL S hr hlocks hP hS ⟨by omega, by omega⟩ dL_beam_20 (Or.inl ⟨rfl, r, hp, rfl⟩)
set_option maxHeartbeats 1000000 in
set_option maxRecDepth 100000 in
theorem c_L_remove (l : Launch) {D : va_G} {ct : Nat → ClassId} {ek ad : Nat → Nat} {N0 qo qd d k : Nat} {F : State → Prop} (hY : ∀ U, F U → FY U) (σ : Mem) (v : Nat → Int64) (w : Nat → UInt64) (x : Int32) {post : Int32 → Mem → Prop} {PX : String → Mem → Prop}
    (hM : MXi l yX10_remove cX10_remove 2 (some .int) d k D ct ek ad N0 (outX ct qo qd v w) F (.ref (ad 0) :: [.int x]) σ post PX) (hE : ∀ E τ, PX E τ → E = eUO) :
    ML l yL_remove cL_remove 4 [(0, 9, 12, 13)] (d + 1) k D ct ek ad N0 qo qd F [.ref (ad 0), .int x, .ref qo] σ v w (LQ [eUO] v w post PX) := by
  refine ms0L (own := RL) (by decide) rfl (Nat.le_of_ble_eq_true rfl) (fun p e s m args below meth c S hr hlocks hT G hP hS ls hl => ?_)
  have hx := S.1
  have hb := S.2.1
  have FZ := hY s G.2.2.2.2.2
  replace hl : lv_has ls 4 [(0, .ref (ad 0)), (1, .int x), (2, .ref qo)] := hl
  refine lv_aload_n hx hb dL_remove_0 rfl (lv_at hl 2 rfl) ?_
  refine lv_iconst (v := 0) hx hb dL_remove_1 (by decide) ?_
  refine lv_aload_n hx hb dL_remove_2 rfl (lv_at hl 0 rfl) ?_
  refine lv_iload_n hx hb dL_remove_3 rfl (lv_at hl 1 rfl) ?_
  refine cLi (As := [.int x]) S G 0 hM ok_yX10_remove ml_RL_30 (by decide) oX rfl hP hS hl.1 rfl (Nat.le_refl _) rfl rfl (Nat.le_of_ble_eq_true rfl) ⟨by omega, by omega⟩ dL_remove_4 (fun E ce q τ H locs hp hP hS hce hcv hcl => ?_) (fun r τ H locs hp hP hS => ?_)
  · rcases hE E τ hp with rfl
    refine ctch (pre := []) (x := ⟨0, 9, 12, 13⟩) (suf := []) S FZ hT (fun z hz => absurd hz List.not_mem_nil) rfl (by decide) cl_RL_13 (by decide +kernel) hce hcv hcl ?_
    refine lv_astore_n (lv' := [(3, .ref q), (0, .ref (ad 0)), (1, .int x), (2, .ref qo)]) hx hb dL_remove_12 rfl hl (by decide) rfl (fun ls hl => ?_)
    refine lv_iconst (v := 1) hx hb dL_remove_13 (by decide) ?_
    exact eL S hr hlocks hP hS ⟨by omega, by omega⟩ dL_remove_14 (Or.inr ⟨0, _, rfl, hp, rfl, rfl⟩)
  · refine lv_i2l hx hb dL_remove_7 rfl ?_
    refine ost S G hP hS dL_remove_8 (fun H locs hP hS => ?_)
    refine lv_goto (tgt := 15) hx hb dL_remove_9 (by decide) ?_
    refine lv_iconst (v := 0) hx hb dL_remove_15 (by decide) ?_
    exact eL S hr hlocks hP hS ⟨by omega, by omega⟩ dL_remove_16 (Or.inl ⟨rfl, r, hp, rfl⟩)
set_option maxHeartbeats 1000000 in
set_option maxRecDepth 100000 in
theorem c_L_habit (l : Launch) {D : va_G} {ct : Nat → ClassId} {ek ad : Nat → Nat} {N0 qo qd d k : Nat} {F : State → Prop} (hY : ∀ U, F U → FY U) (σ : Mem) (v : Nat → Int64) (w : Nat → UInt64) (x y : Int32) {post : Int32 → Mem → Prop} {PX : String → Mem → Prop}
    (hM : MXi l yX10_habit cX10_habit 3 (some .int) d k D ct ek ad N0 (outX ct qo qd v w) F (.ref (ad 0) :: [.int x, .int y]) σ post PX) (hE : ∀ E τ, PX E τ → E = eUO) :
    ML l yL_habit cL_habit 5 [(0, 10, 13, 13)] (d + 1) k D ct ek ad N0 qo qd F [.ref (ad 0), .int x, .int y, .ref qo] σ v w (LQ [eUO] v w post PX) := by
  refine ms0L (own := RL) (by decide) rfl (Nat.le_of_ble_eq_true rfl) (fun p e s m args below meth c S hr hlocks hT G hP hS ls hl => ?_)
  have hx := S.1
  have hb := S.2.1
  have FZ := hY s G.2.2.2.2.2
  replace hl : lv_has ls 5 [(0, .ref (ad 0)), (1, .int x), (2, .int y), (3, .ref qo)] := hl
  refine lv_aload_n hx hb dL_habit_0 rfl (lv_at hl 3 rfl) ?_
  refine lv_iconst (v := 0) hx hb dL_habit_1 (by decide) ?_
  refine lv_aload_n hx hb dL_habit_2 rfl (lv_at hl 0 rfl) ?_
  refine lv_iload_n hx hb dL_habit_3 rfl (lv_at hl 1 rfl) ?_
  refine lv_iload_n hx hb dL_habit_4 rfl (lv_at hl 2 rfl) ?_
  refine cLi (As := [.int x, .int y]) S G 0 hM ok_yX10_habit ml_RL_34 (by decide) oX rfl hP hS hl.1 rfl (Nat.le_refl _) rfl rfl (Nat.le_of_ble_eq_true rfl) ⟨by omega, by omega⟩ dL_habit_5 (fun E ce q τ H locs hp hP hS hce hcv hcl => ?_) (fun r τ H locs hp hP hS => ?_)
  · rcases hE E τ hp with rfl
    refine ctch (pre := []) (x := ⟨0, 10, 13, 13⟩) (suf := []) S FZ hT (fun z hz => absurd hz List.not_mem_nil) rfl (by decide) cl_RL_13 (by decide +kernel) hce hcv hcl ?_
    refine lv_astore (lv' := [(4, .ref q), (0, .ref (ad 0)), (1, .int x), (2, .int y), (3, .ref qo)]) hx hb dL_habit_13 hl (by decide) rfl (fun ls hl => ?_)
    refine lv_iconst (v := 1) hx hb dL_habit_15 (by decide) ?_
    exact eL S hr hlocks hP hS ⟨by omega, by omega⟩ dL_habit_16 (Or.inr ⟨0, _, rfl, hp, rfl, rfl⟩)
  · refine lv_i2l hx hb dL_habit_8 rfl ?_
    refine ost S G hP hS dL_habit_9 (fun H locs hP hS => ?_)
    refine lv_goto (tgt := 17) hx hb dL_habit_10 (by decide) ?_
    refine lv_iconst (v := 0) hx hb dL_habit_17 (by decide) ?_
    exact eL S hr hlocks hP hS ⟨by omega, by omega⟩ dL_habit_18 (Or.inl ⟨rfl, r, hp, rfl⟩)
set_option maxHeartbeats 1000000 in
set_option maxRecDepth 100000 in
theorem c_L_personOf (l : Launch) {D : va_G} {ct : Nat → ClassId} {ek ad : Nat → Nat} {N0 qo qd d k : Nat} {F : State → Prop} (hY : ∀ U, F U → FY U) (σ : Mem) (v : Nat → Int64) (w : Nat → UInt64) (x y : Int32) {post : Int32 → Mem → Prop} {PX : String → Mem → Prop}
    (hM : MXi l yX10_personOf cX10_personOf 4 (some .int) d k D ct ek ad N0 (outX ct qo qd v w) F (.ref (ad 0) :: [.int x, .int y]) σ post PX) (hE : ∀ E τ, PX E τ → E = eIB ∨ E = eIA) :
    ML l yL_personOf cL_personOf 5 [(0, 10, 13, 40), (0, 10, 17, 42)] (d + 1) k D ct ek ad N0 qo qd F [.ref (ad 0), .int x, .int y, .ref qo] σ v w (LQ [eIB, eIA] v w post PX) := by
  refine ms0L (own := RL) (by decide) rfl (Nat.le_of_ble_eq_true rfl) (fun p e s m args below meth c S hr hlocks hT G hP hS ls hl => ?_)
  have hx := S.1
  have hb := S.2.1
  have FZ := hY s G.2.2.2.2.2
  replace hl : lv_has ls 5 [(0, .ref (ad 0)), (1, .int x), (2, .int y), (3, .ref qo)] := hl
  refine lv_aload_n hx hb dL_personOf_0 rfl (lv_at hl 3 rfl) ?_
  refine lv_iconst (v := 0) hx hb dL_personOf_1 (by decide) ?_
  refine lv_aload_n hx hb dL_personOf_2 rfl (lv_at hl 0 rfl) ?_
  refine lv_iload_n hx hb dL_personOf_3 rfl (lv_at hl 1 rfl) ?_
  refine lv_iload_n hx hb dL_personOf_4 rfl (lv_at hl 2 rfl) ?_
  refine cLi (As := [.int x, .int y]) S G 0 hM ok_yX10_personOf ml_RL_37 (by decide) oX rfl hP hS hl.1 rfl (Nat.le_refl _) rfl rfl (Nat.le_of_ble_eq_true rfl) ⟨by omega, by omega⟩ dL_personOf_5 (fun E ce q τ H locs hp hP hS hce hcv hcl => ?_) (fun r τ H locs hp hP hS => ?_)
  · rcases hE E τ hp with rfl | rfl
    · refine ctch (pre := []) (x := ⟨0, 10, 13, 40⟩) (suf := [⟨0, 10, 17, 42⟩]) S FZ hT (fun z hz => absurd hz List.not_mem_nil) rfl (by decide) cl_RL_40 (by decide +kernel) hce hcv hcl ?_
      refine lv_astore (lv' := [(4, .ref q), (0, .ref (ad 0)), (1, .int x), (2, .int y), (3, .ref qo)]) hx hb dL_personOf_13 hl (by decide) rfl (fun ls hl => ?_)
      refine lv_iconst (v := 1) hx hb dL_personOf_15 (by decide) ?_
      exact eL S hr hlocks hP hS ⟨by omega, by omega⟩ dL_personOf_16 (Or.inr ⟨0, _, rfl, hp, rfl, rfl⟩)
    · refine ctch (pre := [⟨0, 10, 13, 40⟩]) (x := ⟨0, 10, 17, 42⟩) (suf := []) S FZ hT (fun z hz => by simp only [List.mem_cons, List.not_mem_nil, or_false] at hz; rcases hz with rfl; exact ⟨by decide, _, cl_RL_40, by decide⟩) rfl (by decide) cl_RL_42 (by decide +kernel) hce hcv hcl ?_
      refine lv_astore (lv' := [(4, .ref q), (0, .ref (ad 0)), (1, .int x), (2, .int y), (3, .ref qo)]) hx hb dL_personOf_17 hl (by decide) rfl (fun ls hl => ?_)
      refine lv_iconst (v := 2) hx hb dL_personOf_19 (by decide) ?_
      exact eL S hr hlocks hP hS ⟨by omega, by omega⟩ dL_personOf_20 (Or.inr ⟨1, _, rfl, hp, rfl, rfl⟩)
  · refine lv_i2l hx hb dL_personOf_8 rfl ?_
    refine ost S G hP hS dL_personOf_9 (fun H locs hP hS => ?_)
    refine lv_goto (tgt := 21) hx hb dL_personOf_10 (by decide) ?_
    refine lv_iconst (v := 0) hx hb dL_personOf_21 (by decide) ?_
    exact eL S hr hlocks hP hS ⟨by omega, by omega⟩ dL_personOf_22 (Or.inl ⟨rfl, r, hp, rfl⟩)
set_option maxHeartbeats 1000000 in
set_option maxRecDepth 100000 in
theorem c_L_weight (l : Launch) {D : va_G} {ct : Nat → ClassId} {ek ad : Nat → Nat} {N0 qo qd d k : Nat} {F : State → Prop} (hY : ∀ U, F U → FY U) (σ : Mem) (v : Nat → Int64) (w : Nat → UInt64) (x y : Int32) {post : Int32 → Mem → Prop} {PX : String → Mem → Prop}
    (hM : MXi l yX10_weight cX10_weight 3 (some .int) d k D ct ek ad N0 (outX ct qo qd v w) F (.ref (ad 0) :: [.int x, .int y]) σ post PX) (hE : ∀ E τ, PX E τ → E = eIB) :
    ML l yL_weight cL_weight 5 [(0, 10, 13, 40)] (d + 1) k D ct ek ad N0 qo qd F [.ref (ad 0), .int x, .int y, .ref qo] σ v w (LQ [eIB] v w post PX) := by
  refine ms0L (own := RL) (by decide) rfl (Nat.le_of_ble_eq_true rfl) (fun p e s m args below meth c S hr hlocks hT G hP hS ls hl => ?_)
  have hx := S.1
  have hb := S.2.1
  have FZ := hY s G.2.2.2.2.2
  replace hl : lv_has ls 5 [(0, .ref (ad 0)), (1, .int x), (2, .int y), (3, .ref qo)] := hl
  refine lv_aload_n hx hb dL_weight_0 rfl (lv_at hl 3 rfl) ?_
  refine lv_iconst (v := 0) hx hb dL_weight_1 (by decide) ?_
  refine lv_aload_n hx hb dL_weight_2 rfl (lv_at hl 0 rfl) ?_
  refine lv_iload_n hx hb dL_weight_3 rfl (lv_at hl 1 rfl) ?_
  refine lv_iload_n hx hb dL_weight_4 rfl (lv_at hl 2 rfl) ?_
  refine cLi (As := [.int x, .int y]) S G 0 hM ok_yX10_weight ml_RL_44 (by decide) oX rfl hP hS hl.1 rfl (Nat.le_refl _) rfl rfl (Nat.le_of_ble_eq_true rfl) ⟨by omega, by omega⟩ dL_weight_5 (fun E ce q τ H locs hp hP hS hce hcv hcl => ?_) (fun r τ H locs hp hP hS => ?_)
  · rcases hE E τ hp with rfl
    refine ctch (pre := []) (x := ⟨0, 10, 13, 40⟩) (suf := []) S FZ hT (fun z hz => absurd hz List.not_mem_nil) rfl (by decide) cl_RL_40 (by decide +kernel) hce hcv hcl ?_
    refine lv_astore (lv' := [(4, .ref q), (0, .ref (ad 0)), (1, .int x), (2, .int y), (3, .ref qo)]) hx hb dL_weight_13 hl (by decide) rfl (fun ls hl => ?_)
    refine lv_iconst (v := 1) hx hb dL_weight_15 (by decide) ?_
    exact eL S hr hlocks hP hS ⟨by omega, by omega⟩ dL_weight_16 (Or.inr ⟨0, _, rfl, hp, rfl, rfl⟩)
  · refine lv_i2l hx hb dL_weight_8 rfl ?_
    refine ost S G hP hS dL_weight_9 (fun H locs hP hS => ?_)
    refine lv_goto (tgt := 17) hx hb dL_weight_10 (by decide) ?_
    refine lv_iconst (v := 0) hx hb dL_weight_17 (by decide) ?_
    exact eL S hr hlocks hP hS ⟨by omega, by omega⟩ dL_weight_18 (Or.inl ⟨rfl, r, hp, rfl⟩)
set_option maxHeartbeats 1000000 in
set_option maxRecDepth 100000 in
theorem c_L_beamOf (l : Launch) {D : va_G} {ct : Nat → ClassId} {ek ad : Nat → Nat} {N0 qo qd d k : Nat} {F : State → Prop} (hY : ∀ U, F U → FY U) (σ : Mem) (v : Nat → Int64) (w : Nat → UInt64) (x y : Int32) {post : Int32 → Mem → Prop} {PX : String → Mem → Prop}
    (hM : MXi l yX10_beamOf cX10_beamOf 4 (some .int) d k D ct ek ad N0 (outX ct qo qd v w) F (.ref (ad 0) :: [.int x, .int y]) σ post PX) (hE : ∀ E τ, PX E τ → E = eIB ∨ E = eIA) :
    ML l yL_beamOf cL_beamOf 5 [(0, 10, 13, 40), (0, 10, 17, 42)] (d + 1) k D ct ek ad N0 qo qd F [.ref (ad 0), .int x, .int y, .ref qo] σ v w (LQ [eIB, eIA] v w post PX) := by
  refine ms0L (own := RL) (by decide) rfl (Nat.le_of_ble_eq_true rfl) (fun p e s m args below meth c S hr hlocks hT G hP hS ls hl => ?_)
  have hx := S.1
  have hb := S.2.1
  have FZ := hY s G.2.2.2.2.2
  replace hl : lv_has ls 5 [(0, .ref (ad 0)), (1, .int x), (2, .int y), (3, .ref qo)] := hl
  refine lv_aload_n hx hb dL_beamOf_0 rfl (lv_at hl 3 rfl) ?_
  refine lv_iconst (v := 0) hx hb dL_beamOf_1 (by decide) ?_
  refine lv_aload_n hx hb dL_beamOf_2 rfl (lv_at hl 0 rfl) ?_
  refine lv_iload_n hx hb dL_beamOf_3 rfl (lv_at hl 1 rfl) ?_
  refine lv_iload_n hx hb dL_beamOf_4 rfl (lv_at hl 2 rfl) ?_
  refine cLi (As := [.int x, .int y]) S G 0 hM ok_yX10_beamOf ml_RL_47 (by decide) oX rfl hP hS hl.1 rfl (Nat.le_refl _) rfl rfl (Nat.le_of_ble_eq_true rfl) ⟨by omega, by omega⟩ dL_beamOf_5 (fun E ce q τ H locs hp hP hS hce hcv hcl => ?_) (fun r τ H locs hp hP hS => ?_)
  · rcases hE E τ hp with rfl | rfl
    · refine ctch (pre := []) (x := ⟨0, 10, 13, 40⟩) (suf := [⟨0, 10, 17, 42⟩]) S FZ hT (fun z hz => absurd hz List.not_mem_nil) rfl (by decide) cl_RL_40 (by decide +kernel) hce hcv hcl ?_
      refine lv_astore (lv' := [(4, .ref q), (0, .ref (ad 0)), (1, .int x), (2, .int y), (3, .ref qo)]) hx hb dL_beamOf_13 hl (by decide) rfl (fun ls hl => ?_)
      refine lv_iconst (v := 1) hx hb dL_beamOf_15 (by decide) ?_
      exact eL S hr hlocks hP hS ⟨by omega, by omega⟩ dL_beamOf_16 (Or.inr ⟨0, _, rfl, hp, rfl, rfl⟩)
    · refine ctch (pre := [⟨0, 10, 13, 40⟩]) (x := ⟨0, 10, 17, 42⟩) (suf := []) S FZ hT (fun z hz => by simp only [List.mem_cons, List.not_mem_nil, or_false] at hz; rcases hz with rfl; exact ⟨by decide, _, cl_RL_40, by decide⟩) rfl (by decide) cl_RL_42 (by decide +kernel) hce hcv hcl ?_
      refine lv_astore (lv' := [(4, .ref q), (0, .ref (ad 0)), (1, .int x), (2, .int y), (3, .ref qo)]) hx hb dL_beamOf_17 hl (by decide) rfl (fun ls hl => ?_)
      refine lv_iconst (v := 2) hx hb dL_beamOf_19 (by decide) ?_
      exact eL S hr hlocks hP hS ⟨by omega, by omega⟩ dL_beamOf_20 (Or.inr ⟨1, _, rfl, hp, rfl, rfl⟩)
  · refine lv_i2l hx hb dL_beamOf_8 rfl ?_
    refine ost S G hP hS dL_beamOf_9 (fun H locs hP hS => ?_)
    refine lv_goto (tgt := 21) hx hb dL_beamOf_10 (by decide) ?_
    refine lv_iconst (v := 0) hx hb dL_beamOf_21 (by decide) ?_
    exact eL S hr hlocks hP hS ⟨by omega, by omega⟩ dL_beamOf_22 (Or.inl ⟨rfl, r, hp, rfl⟩)
set_option maxHeartbeats 1000000 in
set_option maxRecDepth 100000 in
theorem c_L_lean (l : Launch) {D : va_G} {ct : Nat → ClassId} {ek ad : Nat → Nat} {N0 qo qd d k : Nat} {F : State → Prop} (hY : ∀ U, F U → FY U) (σ : Mem) (v : Nat → Int64) (w : Nat → UInt64) (x : Int32) {post : Int32 → Mem → Prop} {PX : String → Mem → Prop}
    (hM : MXi l yX10_lean cX10_lean 2 (some .int) d k D ct ek ad N0 (outX ct qo qd v w) F (.ref (ad 0) :: [.int x]) σ post PX) (hE : ∀ E τ, PX E τ → E = eIB) :
    ML l yL_lean cL_lean 4 [(0, 9, 12, 40)] (d + 1) k D ct ek ad N0 qo qd F [.ref (ad 0), .int x, .ref qo] σ v w (LQ [eIB] v w post PX) := by
  refine ms0L (own := RL) (by decide) rfl (Nat.le_of_ble_eq_true rfl) (fun p e s m args below meth c S hr hlocks hT G hP hS ls hl => ?_)
  have hx := S.1
  have hb := S.2.1
  have FZ := hY s G.2.2.2.2.2
  replace hl : lv_has ls 4 [(0, .ref (ad 0)), (1, .int x), (2, .ref qo)] := hl
  refine lv_aload_n hx hb dL_lean_0 rfl (lv_at hl 2 rfl) ?_
  refine lv_iconst (v := 0) hx hb dL_lean_1 (by decide) ?_
  refine lv_aload_n hx hb dL_lean_2 rfl (lv_at hl 0 rfl) ?_
  refine lv_iload_n hx hb dL_lean_3 rfl (lv_at hl 1 rfl) ?_
  refine cLi (As := [.int x]) S G 0 hM ok_yX10_lean ml_RL_50 (by decide) oX rfl hP hS hl.1 rfl (Nat.le_refl _) rfl rfl (Nat.le_of_ble_eq_true rfl) ⟨by omega, by omega⟩ dL_lean_4 (fun E ce q τ H locs hp hP hS hce hcv hcl => ?_) (fun r τ H locs hp hP hS => ?_)
  · rcases hE E τ hp with rfl
    refine ctch (pre := []) (x := ⟨0, 9, 12, 40⟩) (suf := []) S FZ hT (fun z hz => absurd hz List.not_mem_nil) rfl (by decide) cl_RL_40 (by decide +kernel) hce hcv hcl ?_
    refine lv_astore_n (lv' := [(3, .ref q), (0, .ref (ad 0)), (1, .int x), (2, .ref qo)]) hx hb dL_lean_12 rfl hl (by decide) rfl (fun ls hl => ?_)
    refine lv_iconst (v := 1) hx hb dL_lean_13 (by decide) ?_
    exact eL S hr hlocks hP hS ⟨by omega, by omega⟩ dL_lean_14 (Or.inr ⟨0, _, rfl, hp, rfl, rfl⟩)
  · refine lv_i2l hx hb dL_lean_7 rfl ?_
    refine ost S G hP hS dL_lean_8 (fun H locs hP hS => ?_)
    refine lv_goto (tgt := 15) hx hb dL_lean_9 (by decide) ?_
    refine lv_iconst (v := 0) hx hb dL_lean_15 (by decide) ?_
    exact eL S hr hlocks hP hS ⟨by omega, by omega⟩ dL_lean_16 (Or.inl ⟨rfl, r, hp, rfl⟩)
set_option maxHeartbeats 1000000 in
set_option maxRecDepth 100000 in
theorem c_L_mean (l : Launch) {D : va_G} {ct : Nat → ClassId} {ek ad : Nat → Nat} {N0 qo qd d k : Nat} {F : State → Prop} (hY : ∀ U, F U → FY U) (σ : Mem) (v : Nat → Int64) (w : Nat → UInt64) (x : Int32) {post : Int32 → Mem → Prop} {PX : String → Mem → Prop}
    (hM : MXi l yX10_mean cX10_mean 2 (some .int) d k D ct ek ad N0 (outX ct qo qd v w) F (.ref (ad 0) :: [.int x]) σ post PX) (hE : ∀ E τ, PX E τ → E = eIB) :
    ML l yL_mean cL_mean 4 [(0, 9, 12, 40)] (d + 1) k D ct ek ad N0 qo qd F [.ref (ad 0), .int x, .ref qo] σ v w (LQ [eIB] v w post PX) := by
  refine ms0L (own := RL) (by decide) rfl (Nat.le_of_ble_eq_true rfl) (fun p e s m args below meth c S hr hlocks hT G hP hS ls hl => ?_)
  have hx := S.1
  have hb := S.2.1
  have FZ := hY s G.2.2.2.2.2
  replace hl : lv_has ls 4 [(0, .ref (ad 0)), (1, .int x), (2, .ref qo)] := hl
  refine lv_aload_n hx hb dL_mean_0 rfl (lv_at hl 2 rfl) ?_
  refine lv_iconst (v := 0) hx hb dL_mean_1 (by decide) ?_
  refine lv_aload_n hx hb dL_mean_2 rfl (lv_at hl 0 rfl) ?_
  refine lv_iload_n hx hb dL_mean_3 rfl (lv_at hl 1 rfl) ?_
  refine cLi (As := [.int x]) S G 0 hM ok_yX10_mean ml_RL_53 (by decide) oX rfl hP hS hl.1 rfl (Nat.le_refl _) rfl rfl (Nat.le_of_ble_eq_true rfl) ⟨by omega, by omega⟩ dL_mean_4 (fun E ce q τ H locs hp hP hS hce hcv hcl => ?_) (fun r τ H locs hp hP hS => ?_)
  · rcases hE E τ hp with rfl
    refine ctch (pre := []) (x := ⟨0, 9, 12, 40⟩) (suf := []) S FZ hT (fun z hz => absurd hz List.not_mem_nil) rfl (by decide) cl_RL_40 (by decide +kernel) hce hcv hcl ?_
    refine lv_astore_n (lv' := [(3, .ref q), (0, .ref (ad 0)), (1, .int x), (2, .ref qo)]) hx hb dL_mean_12 rfl hl (by decide) rfl (fun ls hl => ?_)
    refine lv_iconst (v := 1) hx hb dL_mean_13 (by decide) ?_
    exact eL S hr hlocks hP hS ⟨by omega, by omega⟩ dL_mean_14 (Or.inr ⟨0, _, rfl, hp, rfl, rfl⟩)
  · refine lv_i2l hx hb dL_mean_7 rfl ?_
    refine ost S G hP hS dL_mean_8 (fun H locs hP hS => ?_)
    refine lv_goto (tgt := 15) hx hb dL_mean_9 (by decide) ?_
    refine lv_iconst (v := 0) hx hb dL_mean_15 (by decide) ?_
    exact eL S hr hlocks hP hS ⟨by omega, by omega⟩ dL_mean_16 (Or.inl ⟨rfl, r, hp, rfl⟩)
set_option maxHeartbeats 1000000 in
set_option maxRecDepth 100000 in
theorem c_L_meanAgain (l : Launch) {D : va_G} {ct : Nat → ClassId} {ek ad : Nat → Nat} {N0 qo qd d k : Nat} {F : State → Prop} (hY : ∀ U, F U → FY U) (σ : Mem) (v : Nat → Int64) (w : Nat → UInt64) (x : Int32) {post : Int32 → Mem → Prop} {PX : String → Mem → Prop}
    (hM : MXi l yX10_meanAgain cX10_meanAgain 2 (some .int) d k D ct ek ad N0 (outX ct qo qd v w) F (.ref (ad 0) :: [.int x]) σ post PX) (hE : ∀ E τ, PX E τ → E = eIB) :
    ML l yL_meanAgain cL_meanAgain 4 [(0, 9, 12, 40)] (d + 1) k D ct ek ad N0 qo qd F [.ref (ad 0), .int x, .ref qo] σ v w (LQ [eIB] v w post PX) := by
  refine ms0L (own := RL) (by decide) rfl (Nat.le_of_ble_eq_true rfl) (fun p e s m args below meth c S hr hlocks hT G hP hS ls hl => ?_)
  have hx := S.1
  have hb := S.2.1
  have FZ := hY s G.2.2.2.2.2
  replace hl : lv_has ls 4 [(0, .ref (ad 0)), (1, .int x), (2, .ref qo)] := hl
  refine lv_aload_n hx hb dL_meanAgain_0 rfl (lv_at hl 2 rfl) ?_
  refine lv_iconst (v := 0) hx hb dL_meanAgain_1 (by decide) ?_
  refine lv_aload_n hx hb dL_meanAgain_2 rfl (lv_at hl 0 rfl) ?_
  refine lv_iload_n hx hb dL_meanAgain_3 rfl (lv_at hl 1 rfl) ?_
  refine cLi (As := [.int x]) S G 0 hM ok_yX10_meanAgain ml_RL_56 (by decide) oX rfl hP hS hl.1 rfl (Nat.le_refl _) rfl rfl (Nat.le_of_ble_eq_true rfl) ⟨by omega, by omega⟩ dL_meanAgain_4 (fun E ce q τ H locs hp hP hS hce hcv hcl => ?_) (fun r τ H locs hp hP hS => ?_)
  · rcases hE E τ hp with rfl
    refine ctch (pre := []) (x := ⟨0, 9, 12, 40⟩) (suf := []) S FZ hT (fun z hz => absurd hz List.not_mem_nil) rfl (by decide) cl_RL_40 (by decide +kernel) hce hcv hcl ?_
    refine lv_astore_n (lv' := [(3, .ref q), (0, .ref (ad 0)), (1, .int x), (2, .ref qo)]) hx hb dL_meanAgain_12 rfl hl (by decide) rfl (fun ls hl => ?_)
    refine lv_iconst (v := 1) hx hb dL_meanAgain_13 (by decide) ?_
    exact eL S hr hlocks hP hS ⟨by omega, by omega⟩ dL_meanAgain_14 (Or.inr ⟨0, _, rfl, hp, rfl, rfl⟩)
  · refine lv_i2l hx hb dL_meanAgain_7 rfl ?_
    refine ost S G hP hS dL_meanAgain_8 (fun H locs hP hS => ?_)
    refine lv_goto (tgt := 15) hx hb dL_meanAgain_9 (by decide) ?_
    refine lv_iconst (v := 0) hx hb dL_meanAgain_15 (by decide) ?_
    exact eL S hr hlocks hP hS ⟨by omega, by omega⟩ dL_meanAgain_16 (Or.inl ⟨rfl, r, hp, rfl⟩)
set_option maxHeartbeats 1000000 in
set_option maxRecDepth 100000 in
theorem c_L_wouldMove (l : Launch) {D : va_G} {ct : Nat → ClassId} {ek ad : Nat → Nat} {N0 qo qd d k : Nat} {F : State → Prop} (hY : ∀ U, F U → FY U) (σ : Mem) (v : Nat → Int64) (w : Nat → UInt64) (x : Int32) {post : Int32 → Mem → Prop} {PX : String → Mem → Prop}
    (hM : MXi l yX10_wouldMove cX10_wouldMove 2 (some .int) d k D ct ek ad N0 (outX ct qo qd v w) F (.ref (ad 0) :: [.int x]) σ post PX) (hE : ∀ E τ, PX E τ → E = eIB) :
    ML l yL_wouldMove cL_wouldMove 4 [(0, 9, 12, 40)] (d + 1) k D ct ek ad N0 qo qd F [.ref (ad 0), .int x, .ref qo] σ v w (LQ [eIB] v w post PX) := by
  refine ms0L (own := RL) (by decide) rfl (Nat.le_of_ble_eq_true rfl) (fun p e s m args below meth c S hr hlocks hT G hP hS ls hl => ?_)
  have hx := S.1
  have hb := S.2.1
  have FZ := hY s G.2.2.2.2.2
  replace hl : lv_has ls 4 [(0, .ref (ad 0)), (1, .int x), (2, .ref qo)] := hl
  refine lv_aload_n hx hb dL_wouldMove_0 rfl (lv_at hl 2 rfl) ?_
  refine lv_iconst (v := 0) hx hb dL_wouldMove_1 (by decide) ?_
  refine lv_aload_n hx hb dL_wouldMove_2 rfl (lv_at hl 0 rfl) ?_
  refine lv_iload_n hx hb dL_wouldMove_3 rfl (lv_at hl 1 rfl) ?_
  refine cLi (As := [.int x]) S G 0 hM ok_yX10_wouldMove ml_RL_59 (by decide) oX rfl hP hS hl.1 rfl (Nat.le_refl _) rfl rfl (Nat.le_of_ble_eq_true rfl) ⟨by omega, by omega⟩ dL_wouldMove_4 (fun E ce q τ H locs hp hP hS hce hcv hcl => ?_) (fun r τ H locs hp hP hS => ?_)
  · rcases hE E τ hp with rfl
    refine ctch (pre := []) (x := ⟨0, 9, 12, 40⟩) (suf := []) S FZ hT (fun z hz => absurd hz List.not_mem_nil) rfl (by decide) cl_RL_40 (by decide +kernel) hce hcv hcl ?_
    refine lv_astore_n (lv' := [(3, .ref q), (0, .ref (ad 0)), (1, .int x), (2, .ref qo)]) hx hb dL_wouldMove_12 rfl hl (by decide) rfl (fun ls hl => ?_)
    refine lv_iconst (v := 1) hx hb dL_wouldMove_13 (by decide) ?_
    exact eL S hr hlocks hP hS ⟨by omega, by omega⟩ dL_wouldMove_14 (Or.inr ⟨0, _, rfl, hp, rfl, rfl⟩)
  · refine lv_i2l hx hb dL_wouldMove_7 rfl ?_
    refine ost S G hP hS dL_wouldMove_8 (fun H locs hP hS => ?_)
    refine lv_goto (tgt := 15) hx hb dL_wouldMove_9 (by decide) ?_
    refine lv_iconst (v := 0) hx hb dL_wouldMove_15 (by decide) ?_
    exact eL S hr hlocks hP hS ⟨by omega, by omega⟩ dL_wouldMove_16 (Or.inl ⟨rfl, r, hp, rfl⟩)
set_option maxHeartbeats 1000000 in
set_option maxRecDepth 100000 in
theorem c_L_puller (l : Launch) {D : va_G} {ct : Nat → ClassId} {ek ad : Nat → Nat} {N0 qo qd d k : Nat} {F : State → Prop} (hY : ∀ U, F U → FY U) (σ : Mem) (v : Nat → Int64) (w : Nat → UInt64) (x : Int32) {post : Int32 → Mem → Prop} {PX : String → Mem → Prop}
    (hM : MXi l yX10_puller cX10_puller 3 (some .int) d k D ct ek ad N0 (outX ct qo qd v w) F (.ref (ad 0) :: [.int x]) σ post PX) (hE : ∀ E τ, PX E τ → E = eIB ∨ E = eNE) :
    ML l yL_puller cL_puller 4 [(0, 9, 12, 40), (0, 9, 15, 65)] (d + 1) k D ct ek ad N0 qo qd F [.ref (ad 0), .int x, .ref qo] σ v w (LQ [eIB, eNE] v w post PX) := by
  refine ms0L (own := RL) (by decide) rfl (Nat.le_of_ble_eq_true rfl) (fun p e s m args below meth c S hr hlocks hT G hP hS ls hl => ?_)
  have hx := S.1
  have hb := S.2.1
  have FZ := hY s G.2.2.2.2.2
  replace hl : lv_has ls 4 [(0, .ref (ad 0)), (1, .int x), (2, .ref qo)] := hl
  refine lv_aload_n hx hb dL_puller_0 rfl (lv_at hl 2 rfl) ?_
  refine lv_iconst (v := 0) hx hb dL_puller_1 (by decide) ?_
  refine lv_aload_n hx hb dL_puller_2 rfl (lv_at hl 0 rfl) ?_
  refine lv_iload_n hx hb dL_puller_3 rfl (lv_at hl 1 rfl) ?_
  refine cLi (As := [.int x]) S G 0 hM ok_yX10_puller ml_RL_62 (by decide) oX rfl hP hS hl.1 rfl (Nat.le_refl _) rfl rfl (Nat.le_of_ble_eq_true rfl) ⟨by omega, by omega⟩ dL_puller_4 (fun E ce q τ H locs hp hP hS hce hcv hcl => ?_) (fun r τ H locs hp hP hS => ?_)
  · rcases hE E τ hp with rfl | rfl
    · refine ctch (pre := []) (x := ⟨0, 9, 12, 40⟩) (suf := [⟨0, 9, 15, 65⟩]) S FZ hT (fun z hz => absurd hz List.not_mem_nil) rfl (by decide) cl_RL_40 (by decide +kernel) hce hcv hcl ?_
      refine lv_astore_n (lv' := [(3, .ref q), (0, .ref (ad 0)), (1, .int x), (2, .ref qo)]) hx hb dL_puller_12 rfl hl (by decide) rfl (fun ls hl => ?_)
      refine lv_iconst (v := 1) hx hb dL_puller_13 (by decide) ?_
      exact eL S hr hlocks hP hS ⟨by omega, by omega⟩ dL_puller_14 (Or.inr ⟨0, _, rfl, hp, rfl, rfl⟩)
    · refine ctch (pre := [⟨0, 9, 12, 40⟩]) (x := ⟨0, 9, 15, 65⟩) (suf := []) S FZ hT (fun z hz => by simp only [List.mem_cons, List.not_mem_nil, or_false] at hz; rcases hz with rfl; exact ⟨by decide, _, cl_RL_40, by decide⟩) rfl (by decide) cl_RL_65 (by decide +kernel) hce hcv hcl ?_
      refine lv_astore_n (lv' := [(3, .ref q), (0, .ref (ad 0)), (1, .int x), (2, .ref qo)]) hx hb dL_puller_15 rfl hl (by decide) rfl (fun ls hl => ?_)
      refine lv_iconst (v := 2) hx hb dL_puller_16 (by decide) ?_
      exact eL S hr hlocks hP hS ⟨by omega, by omega⟩ dL_puller_17 (Or.inr ⟨1, _, rfl, hp, rfl, rfl⟩)
  · refine lv_i2l hx hb dL_puller_7 rfl ?_
    refine ost S G hP hS dL_puller_8 (fun H locs hP hS => ?_)
    refine lv_goto (tgt := 18) hx hb dL_puller_9 (by decide) ?_
    refine lv_iconst (v := 0) hx hb dL_puller_18 (by decide) ?_
    exact eL S hr hlocks hP hS ⟨by omega, by omega⟩ dL_puller_19 (Or.inl ⟨rfl, r, hp, rfl⟩)
set_option maxHeartbeats 1000000 in
set_option maxRecDepth 100000 in
theorem c_L_force (l : Launch) {D : va_G} {ct : Nat → ClassId} {ek ad : Nat → Nat} {N0 qo qd d k : Nat} {F : State → Prop} (hY : ∀ U, F U → FY U) (σ : Mem) (v : Nat → Int64) (w : Nat → UInt64) (x y : Int32) {post : Int32 → Mem → Prop} {PX : String → Mem → Prop}
    (hM : MXi l yX10_force cX10_force 3 (some .int) d k D ct ek ad N0 (outX ct qo qd v w) F (.ref (ad 0) :: [.int x, .int y]) σ post PX) (hE : ∀ E τ, PX E τ → E = eIB ∨ E = eIA) :
    ML l yL_force cL_force 5 [(0, 10, 13, 40), (0, 10, 17, 42)] (d + 1) k D ct ek ad N0 qo qd F [.ref (ad 0), .int x, .int y, .ref qo] σ v w (LQ [eIB, eIA] v w post PX) := by
  refine ms0L (own := RL) (by decide) rfl (Nat.le_of_ble_eq_true rfl) (fun p e s m args below meth c S hr hlocks hT G hP hS ls hl => ?_)
  have hx := S.1
  have hb := S.2.1
  have FZ := hY s G.2.2.2.2.2
  replace hl : lv_has ls 5 [(0, .ref (ad 0)), (1, .int x), (2, .int y), (3, .ref qo)] := hl
  refine lv_aload_n hx hb dL_force_0 rfl (lv_at hl 3 rfl) ?_
  refine lv_iconst (v := 0) hx hb dL_force_1 (by decide) ?_
  refine lv_aload_n hx hb dL_force_2 rfl (lv_at hl 0 rfl) ?_
  refine lv_iload_n hx hb dL_force_3 rfl (lv_at hl 1 rfl) ?_
  refine lv_iload_n hx hb dL_force_4 rfl (lv_at hl 2 rfl) ?_
  refine cLi (As := [.int x, .int y]) S G 0 hM ok_yX10_force ml_RL_67 (by decide) oX rfl hP hS hl.1 rfl (Nat.le_refl _) rfl rfl (Nat.le_of_ble_eq_true rfl) ⟨by omega, by omega⟩ dL_force_5 (fun E ce q τ H locs hp hP hS hce hcv hcl => ?_) (fun r τ H locs hp hP hS => ?_)
  · rcases hE E τ hp with rfl | rfl
    · refine ctch (pre := []) (x := ⟨0, 10, 13, 40⟩) (suf := [⟨0, 10, 17, 42⟩]) S FZ hT (fun z hz => absurd hz List.not_mem_nil) rfl (by decide) cl_RL_40 (by decide +kernel) hce hcv hcl ?_
      refine lv_astore (lv' := [(4, .ref q), (0, .ref (ad 0)), (1, .int x), (2, .int y), (3, .ref qo)]) hx hb dL_force_13 hl (by decide) rfl (fun ls hl => ?_)
      refine lv_iconst (v := 1) hx hb dL_force_15 (by decide) ?_
      exact eL S hr hlocks hP hS ⟨by omega, by omega⟩ dL_force_16 (Or.inr ⟨0, _, rfl, hp, rfl, rfl⟩)
    · refine ctch (pre := [⟨0, 10, 13, 40⟩]) (x := ⟨0, 10, 17, 42⟩) (suf := []) S FZ hT (fun z hz => by simp only [List.mem_cons, List.not_mem_nil, or_false] at hz; rcases hz with rfl; exact ⟨by decide, _, cl_RL_40, by decide⟩) rfl (by decide) cl_RL_42 (by decide +kernel) hce hcv hcl ?_
      refine lv_astore (lv' := [(4, .ref q), (0, .ref (ad 0)), (1, .int x), (2, .int y), (3, .ref qo)]) hx hb dL_force_17 hl (by decide) rfl (fun ls hl => ?_)
      refine lv_iconst (v := 2) hx hb dL_force_19 (by decide) ?_
      exact eL S hr hlocks hP hS ⟨by omega, by omega⟩ dL_force_20 (Or.inr ⟨1, _, rfl, hp, rfl, rfl⟩)
  · refine lv_i2l hx hb dL_force_8 rfl ?_
    refine ost S G hP hS dL_force_9 (fun H locs hP hS => ?_)
    refine lv_goto (tgt := 21) hx hb dL_force_10 (by decide) ?_
    refine lv_iconst (v := 0) hx hb dL_force_21 (by decide) ?_
    exact eL S hr hlocks hP hS ⟨by omega, by omega⟩ dL_force_22 (Or.inl ⟨rfl, r, hp, rfl⟩)
set_option maxHeartbeats 1000000 in
set_option maxRecDepth 100000 in
theorem c_L_factsFor (l : Launch) {D : va_G} {ct : Nat → ClassId} {ek ad : Nat → Nat} {N0 qo qd d k : Nat} {F : State → Prop} (hY : ∀ U, F U → FY U) (σ : Mem) (v : Nat → Int64) (w : Nat → UInt64) (x y : Int32) {post : Int32 → Mem → Prop} {PX : String → Mem → Prop}
    (hM : MXi l yX10_factsFor cX10_factsFor 5 (some .int) d k D ct ek ad N0 (outX ct qo qd v w) F (.ref (ad 0) :: [.int x, .int y]) σ post PX) (hE : ∀ E τ, PX E τ → E = eIB ∨ E = eIA ∨ E = eNE) :
    ML l yL_factsFor cL_factsFor 5 [(0, 10, 13, 40), (0, 10, 17, 42), (0, 10, 21, 65)] (d + 1) k D ct ek ad N0 qo qd F [.ref (ad 0), .int x, .int y, .ref qo] σ v w (LQ [eIB, eIA, eNE] v w post PX) := by
  refine ms0L (own := RL) (by decide) rfl (Nat.le_of_ble_eq_true rfl) (fun p e s m args below meth c S hr hlocks hT G hP hS ls hl => ?_)
  have hx := S.1
  have hb := S.2.1
  have FZ := hY s G.2.2.2.2.2
  replace hl : lv_has ls 5 [(0, .ref (ad 0)), (1, .int x), (2, .int y), (3, .ref qo)] := hl
  refine lv_aload_n hx hb dL_factsFor_0 rfl (lv_at hl 3 rfl) ?_
  refine lv_iconst (v := 0) hx hb dL_factsFor_1 (by decide) ?_
  refine lv_aload_n hx hb dL_factsFor_2 rfl (lv_at hl 0 rfl) ?_
  refine lv_iload_n hx hb dL_factsFor_3 rfl (lv_at hl 1 rfl) ?_
  refine lv_iload_n hx hb dL_factsFor_4 rfl (lv_at hl 2 rfl) ?_
  refine cLi (As := [.int x, .int y]) S G 0 hM ok_yX10_factsFor ml_RL_70 (by decide) oX rfl hP hS hl.1 rfl (Nat.le_refl _) rfl rfl (Nat.le_of_ble_eq_true rfl) ⟨by omega, by omega⟩ dL_factsFor_5 (fun E ce q τ H locs hp hP hS hce hcv hcl => ?_) (fun r τ H locs hp hP hS => ?_)
  · rcases hE E τ hp with rfl | rfl | rfl
    · refine ctch (pre := []) (x := ⟨0, 10, 13, 40⟩) (suf := [⟨0, 10, 17, 42⟩, ⟨0, 10, 21, 65⟩]) S FZ hT (fun z hz => absurd hz List.not_mem_nil) rfl (by decide) cl_RL_40 (by decide +kernel) hce hcv hcl ?_
      refine lv_astore (lv' := [(4, .ref q), (0, .ref (ad 0)), (1, .int x), (2, .int y), (3, .ref qo)]) hx hb dL_factsFor_13 hl (by decide) rfl (fun ls hl => ?_)
      refine lv_iconst (v := 1) hx hb dL_factsFor_15 (by decide) ?_
      exact eL S hr hlocks hP hS ⟨by omega, by omega⟩ dL_factsFor_16 (Or.inr ⟨0, _, rfl, hp, rfl, rfl⟩)
    · refine ctch (pre := [⟨0, 10, 13, 40⟩]) (x := ⟨0, 10, 17, 42⟩) (suf := [⟨0, 10, 21, 65⟩]) S FZ hT (fun z hz => by simp only [List.mem_cons, List.not_mem_nil, or_false] at hz; rcases hz with rfl; exact ⟨by decide, _, cl_RL_40, by decide⟩) rfl (by decide) cl_RL_42 (by decide +kernel) hce hcv hcl ?_
      refine lv_astore (lv' := [(4, .ref q), (0, .ref (ad 0)), (1, .int x), (2, .int y), (3, .ref qo)]) hx hb dL_factsFor_17 hl (by decide) rfl (fun ls hl => ?_)
      refine lv_iconst (v := 2) hx hb dL_factsFor_19 (by decide) ?_
      exact eL S hr hlocks hP hS ⟨by omega, by omega⟩ dL_factsFor_20 (Or.inr ⟨1, _, rfl, hp, rfl, rfl⟩)
    · refine ctch (pre := [⟨0, 10, 13, 40⟩, ⟨0, 10, 17, 42⟩]) (x := ⟨0, 10, 21, 65⟩) (suf := []) S FZ hT (fun z hz => by
        simp only [List.mem_cons, List.not_mem_nil, or_false] at hz
        rcases hz with rfl | rfl
        · exact ⟨by decide, _, cl_RL_40, by decide⟩
        · exact ⟨by decide, _, cl_RL_42, by decide⟩) rfl (by decide) cl_RL_65 (by decide +kernel) hce hcv hcl ?_
      refine lv_astore (lv' := [(4, .ref q), (0, .ref (ad 0)), (1, .int x), (2, .int y), (3, .ref qo)]) hx hb dL_factsFor_21 hl (by decide) rfl (fun ls hl => ?_)
      refine lv_iconst (v := 3) hx hb dL_factsFor_23 (by decide) ?_
      exact eL S hr hlocks hP hS ⟨by omega, by omega⟩ dL_factsFor_24 (Or.inr ⟨2, _, rfl, hp, rfl, rfl⟩)
  · refine lv_i2l hx hb dL_factsFor_8 rfl ?_
    refine ost S G hP hS dL_factsFor_9 (fun H locs hP hS => ?_)
    refine lv_goto (tgt := 25) hx hb dL_factsFor_10 (by decide) ?_
    refine lv_iconst (v := 0) hx hb dL_factsFor_25 (by decide) ?_
    exact eL S hr hlocks hP hS ⟨by omega, by omega⟩ dL_factsFor_26 (Or.inl ⟨rfl, r, hp, rfl⟩)
set_option maxHeartbeats 1000000 in
set_option maxRecDepth 100000 in
theorem c_L_tiltIn (l : Launch) {D : va_G} {ct : Nat → ClassId} {ek ad : Nat → Nat} {N0 qo qd d k : Nat} {F : State → Prop} (hY : ∀ U, F U → FY U) (σ : Mem) (v : Nat → Int64) (w : Nat → UInt64) (x y : Int32) {post : Int32 → Mem → Prop} {PX : String → Mem → Prop}
    (hM : MXi l yX10_tiltIn cX10_tiltIn 4 (some .int) d k D ct ek ad N0 (outX ct qo qd v w) F (.ref (ad 0) :: [.int x, .int y]) σ post PX) (hE : ∀ E τ, PX E τ → E = eIB ∨ E = eIA) :
    ML l yL_tiltIn cL_tiltIn 5 [(0, 10, 13, 40), (0, 10, 17, 42)] (d + 1) k D ct ek ad N0 qo qd F [.ref (ad 0), .int x, .int y, .ref qo] σ v w (LQ [eIB, eIA] v w post PX) := by
  refine ms0L (own := RL) (by decide) rfl (Nat.le_of_ble_eq_true rfl) (fun p e s m args below meth c S hr hlocks hT G hP hS ls hl => ?_)
  have hx := S.1
  have hb := S.2.1
  have FZ := hY s G.2.2.2.2.2
  replace hl : lv_has ls 5 [(0, .ref (ad 0)), (1, .int x), (2, .int y), (3, .ref qo)] := hl
  refine lv_aload_n hx hb dL_tiltIn_0 rfl (lv_at hl 3 rfl) ?_
  refine lv_iconst (v := 0) hx hb dL_tiltIn_1 (by decide) ?_
  refine lv_aload_n hx hb dL_tiltIn_2 rfl (lv_at hl 0 rfl) ?_
  refine lv_iload_n hx hb dL_tiltIn_3 rfl (lv_at hl 1 rfl) ?_
  refine lv_iload_n hx hb dL_tiltIn_4 rfl (lv_at hl 2 rfl) ?_
  refine cLi (As := [.int x, .int y]) S G 0 hM ok_yX10_tiltIn ml_RL_73 (by decide) oX rfl hP hS hl.1 rfl (Nat.le_refl _) rfl rfl (Nat.le_of_ble_eq_true rfl) ⟨by omega, by omega⟩ dL_tiltIn_5 (fun E ce q τ H locs hp hP hS hce hcv hcl => ?_) (fun r τ H locs hp hP hS => ?_)
  · rcases hE E τ hp with rfl | rfl
    · refine ctch (pre := []) (x := ⟨0, 10, 13, 40⟩) (suf := [⟨0, 10, 17, 42⟩]) S FZ hT (fun z hz => absurd hz List.not_mem_nil) rfl (by decide) cl_RL_40 (by decide +kernel) hce hcv hcl ?_
      refine lv_astore (lv' := [(4, .ref q), (0, .ref (ad 0)), (1, .int x), (2, .int y), (3, .ref qo)]) hx hb dL_tiltIn_13 hl (by decide) rfl (fun ls hl => ?_)
      refine lv_iconst (v := 1) hx hb dL_tiltIn_15 (by decide) ?_
      exact eL S hr hlocks hP hS ⟨by omega, by omega⟩ dL_tiltIn_16 (Or.inr ⟨0, _, rfl, hp, rfl, rfl⟩)
    · refine ctch (pre := [⟨0, 10, 13, 40⟩]) (x := ⟨0, 10, 17, 42⟩) (suf := []) S FZ hT (fun z hz => by simp only [List.mem_cons, List.not_mem_nil, or_false] at hz; rcases hz with rfl; exact ⟨by decide, _, cl_RL_40, by decide⟩) rfl (by decide) cl_RL_42 (by decide +kernel) hce hcv hcl ?_
      refine lv_astore (lv' := [(4, .ref q), (0, .ref (ad 0)), (1, .int x), (2, .int y), (3, .ref qo)]) hx hb dL_tiltIn_17 hl (by decide) rfl (fun ls hl => ?_)
      refine lv_iconst (v := 2) hx hb dL_tiltIn_19 (by decide) ?_
      exact eL S hr hlocks hP hS ⟨by omega, by omega⟩ dL_tiltIn_20 (Or.inr ⟨1, _, rfl, hp, rfl, rfl⟩)
  · refine lv_i2l hx hb dL_tiltIn_8 rfl ?_
    refine ost S G hP hS dL_tiltIn_9 (fun H locs hP hS => ?_)
    refine lv_goto (tgt := 21) hx hb dL_tiltIn_10 (by decide) ?_
    refine lv_iconst (v := 0) hx hb dL_tiltIn_21 (by decide) ?_
    exact eL S hr hlocks hP hS ⟨by omega, by omega⟩ dL_tiltIn_22 (Or.inl ⟨rfl, r, hp, rfl⟩)
set_option maxHeartbeats 1000000 in
set_option maxRecDepth 100000 in
theorem c_L_restsIn (l : Launch) {D : va_G} {ct : Nat → ClassId} {ek ad : Nat → Nat} {N0 qo qd d k : Nat} {F : State → Prop} (hY : ∀ U, F U → FY U) (σ : Mem) (v : Nat → Int64) (w : Nat → UInt64) {post : Int32 → Mem → Prop} {PX : String → Mem → Prop}
    (hM : MXi l yX10_restsIn cX10_restsIn 2 (some .int) d k D ct ek ad N0 (outX ct qo qd v w) F (.ref (ad 0) :: []) σ post PX) (hE : ∀ E τ, PX E τ → E = eNE) :
    ML l yL_restsIn cL_restsIn 3 [(0, 8, 11, 65)] (d + 1) k D ct ek ad N0 qo qd F [.ref (ad 0), .ref qo] σ v w (LQ [eNE] v w post PX) := by
  refine ms0L (own := RL) (by decide) rfl (Nat.le_of_ble_eq_true rfl) (fun p e s m args below meth c S hr hlocks hT G hP hS ls hl => ?_)
  have hx := S.1
  have hb := S.2.1
  have FZ := hY s G.2.2.2.2.2
  replace hl : lv_has ls 3 [(0, .ref (ad 0)), (1, .ref qo)] := hl
  refine lv_aload_n hx hb dL_restsIn_0 rfl (lv_at hl 1 rfl) ?_
  refine lv_iconst (v := 0) hx hb dL_restsIn_1 (by decide) ?_
  refine lv_aload_n hx hb dL_restsIn_2 rfl (lv_at hl 0 rfl) ?_
  refine cLi (As := []) S G 0 hM ok_yX10_restsIn ml_RL_76 (by decide) oX rfl hP hS hl.1 rfl (Nat.le_refl _) rfl rfl (Nat.le_of_ble_eq_true rfl) ⟨by omega, by omega⟩ dL_restsIn_3 (fun E ce q τ H locs hp hP hS hce hcv hcl => ?_) (fun r τ H locs hp hP hS => ?_)
  · rcases hE E τ hp with rfl
    refine ctch (pre := []) (x := ⟨0, 8, 11, 65⟩) (suf := []) S FZ hT (fun z hz => absurd hz List.not_mem_nil) rfl (by decide) cl_RL_65 (by decide +kernel) hce hcv hcl ?_
    refine lv_astore_n (lv' := [(2, .ref q), (0, .ref (ad 0)), (1, .ref qo)]) hx hb dL_restsIn_11 rfl hl (by decide) rfl (fun ls hl => ?_)
    refine lv_iconst (v := 1) hx hb dL_restsIn_12 (by decide) ?_
    exact eL S hr hlocks hP hS ⟨by omega, by omega⟩ dL_restsIn_13 (Or.inr ⟨0, _, rfl, hp, rfl, rfl⟩)
  · refine lv_i2l hx hb dL_restsIn_6 rfl ?_
    refine ost S G hP hS dL_restsIn_7 (fun H locs hP hS => ?_)
    refine lv_goto (tgt := 14) hx hb dL_restsIn_8 (by decide) ?_
    refine lv_iconst (v := 0) hx hb dL_restsIn_14 (by decide) ?_
    exact eL S hr hlocks hP hS ⟨by omega, by omega⟩ dL_restsIn_15 (Or.inl ⟨rfl, r, hp, rfl⟩)
set_option maxHeartbeats 1000000 in
set_option maxRecDepth 100000 in
theorem c_L_breaksIn (l : Launch) {D : va_G} {ct : Nat → ClassId} {ek ad : Nat → Nat} {N0 qo qd d k : Nat} {F : State → Prop} (hY : ∀ U, F U → FY U) (σ : Mem) (v : Nat → Int64) (w : Nat → UInt64) (x : Int32) {post : Int32 → Mem → Prop} {PX : String → Mem → Prop}
    (hM : MXi l yX10_breaksIn cX10_breaksIn 5 (some .int) d k D ct ek ad N0 (outX ct qo qd v w) F (.ref (ad 0) :: [.int x]) σ post PX) (hE : ∀ E τ, PX E τ → E = eIB ∨ E = eNE) :
    ML l yL_breaksIn cL_breaksIn 4 [(0, 9, 12, 40), (0, 9, 15, 65)] (d + 1) k D ct ek ad N0 qo qd F [.ref (ad 0), .int x, .ref qo] σ v w (LQ [eIB, eNE] v w post PX) := by
  refine ms0L (own := RL) (by decide) rfl (Nat.le_of_ble_eq_true rfl) (fun p e s m args below meth c S hr hlocks hT G hP hS ls hl => ?_)
  have hx := S.1
  have hb := S.2.1
  have FZ := hY s G.2.2.2.2.2
  replace hl : lv_has ls 4 [(0, .ref (ad 0)), (1, .int x), (2, .ref qo)] := hl
  refine lv_aload_n hx hb dL_breaksIn_0 rfl (lv_at hl 2 rfl) ?_
  refine lv_iconst (v := 0) hx hb dL_breaksIn_1 (by decide) ?_
  refine lv_aload_n hx hb dL_breaksIn_2 rfl (lv_at hl 0 rfl) ?_
  refine lv_iload_n hx hb dL_breaksIn_3 rfl (lv_at hl 1 rfl) ?_
  refine cLi (As := [.int x]) S G 0 hM ok_yX10_breaksIn ml_RL_79 (by decide) oX rfl hP hS hl.1 rfl (Nat.le_refl _) rfl rfl (Nat.le_of_ble_eq_true rfl) ⟨by omega, by omega⟩ dL_breaksIn_4 (fun E ce q τ H locs hp hP hS hce hcv hcl => ?_) (fun r τ H locs hp hP hS => ?_)
  · rcases hE E τ hp with rfl | rfl
    · refine ctch (pre := []) (x := ⟨0, 9, 12, 40⟩) (suf := [⟨0, 9, 15, 65⟩]) S FZ hT (fun z hz => absurd hz List.not_mem_nil) rfl (by decide) cl_RL_40 (by decide +kernel) hce hcv hcl ?_
      refine lv_astore_n (lv' := [(3, .ref q), (0, .ref (ad 0)), (1, .int x), (2, .ref qo)]) hx hb dL_breaksIn_12 rfl hl (by decide) rfl (fun ls hl => ?_)
      refine lv_iconst (v := 1) hx hb dL_breaksIn_13 (by decide) ?_
      exact eL S hr hlocks hP hS ⟨by omega, by omega⟩ dL_breaksIn_14 (Or.inr ⟨0, _, rfl, hp, rfl, rfl⟩)
    · refine ctch (pre := [⟨0, 9, 12, 40⟩]) (x := ⟨0, 9, 15, 65⟩) (suf := []) S FZ hT (fun z hz => by simp only [List.mem_cons, List.not_mem_nil, or_false] at hz; rcases hz with rfl; exact ⟨by decide, _, cl_RL_40, by decide⟩) rfl (by decide) cl_RL_65 (by decide +kernel) hce hcv hcl ?_
      refine lv_astore_n (lv' := [(3, .ref q), (0, .ref (ad 0)), (1, .int x), (2, .ref qo)]) hx hb dL_breaksIn_15 rfl hl (by decide) rfl (fun ls hl => ?_)
      refine lv_iconst (v := 2) hx hb dL_breaksIn_16 (by decide) ?_
      exact eL S hr hlocks hP hS ⟨by omega, by omega⟩ dL_breaksIn_17 (Or.inr ⟨1, _, rfl, hp, rfl, rfl⟩)
  · refine lv_i2l hx hb dL_breaksIn_7 rfl ?_
    refine ost S G hP hS dL_breaksIn_8 (fun H locs hP hS => ?_)
    refine lv_goto (tgt := 18) hx hb dL_breaksIn_9 (by decide) ?_
    refine lv_iconst (v := 0) hx hb dL_breaksIn_18 (by decide) ?_
    exact eL S hr hlocks hP hS ⟨by omega, by omega⟩ dL_breaksIn_19 (Or.inl ⟨rfl, r, hp, rfl⟩)
set_option maxHeartbeats 1000000 in
set_option maxRecDepth 100000 in
theorem c_L_camp (l : Launch) {D : va_G} {ct : Nat → ClassId} {ek ad : Nat → Nat} {N0 qo qd d k : Nat} {F : State → Prop} (hY : ∀ U, F U → FY U) (σ : Mem) (v : Nat → Int64) (w : Nat → UInt64) (x : Int32) {post : Int32 → Mem → Prop} {PX : String → Mem → Prop}
    (hM : MXi l yX10_camp cX10_camp 2 (some .int) d k D ct ek ad N0 (outX ct qo qd v w) F (.ref (ad 0) :: [.int x]) σ post PX) (hE : ∀ E τ, PX E τ → E = eIB) :
    ML l yL_camp cL_camp 4 [(0, 9, 12, 40)] (d + 1) k D ct ek ad N0 qo qd F [.ref (ad 0), .int x, .ref qo] σ v w (LQ [eIB] v w post PX) := by
  refine ms0L (own := RL) (by decide) rfl (Nat.le_of_ble_eq_true rfl) (fun p e s m args below meth c S hr hlocks hT G hP hS ls hl => ?_)
  have hx := S.1
  have hb := S.2.1
  have FZ := hY s G.2.2.2.2.2
  replace hl : lv_has ls 4 [(0, .ref (ad 0)), (1, .int x), (2, .ref qo)] := hl
  refine lv_aload_n hx hb dL_camp_0 rfl (lv_at hl 2 rfl) ?_
  refine lv_iconst (v := 0) hx hb dL_camp_1 (by decide) ?_
  refine lv_aload_n hx hb dL_camp_2 rfl (lv_at hl 0 rfl) ?_
  refine lv_iload_n hx hb dL_camp_3 rfl (lv_at hl 1 rfl) ?_
  refine cLi (As := [.int x]) S G 0 hM ok_yX10_camp ml_RL_82 (by decide) oX rfl hP hS hl.1 rfl (Nat.le_refl _) rfl rfl (Nat.le_of_ble_eq_true rfl) ⟨by omega, by omega⟩ dL_camp_4 (fun E ce q τ H locs hp hP hS hce hcv hcl => ?_) (fun r τ H locs hp hP hS => ?_)
  · rcases hE E τ hp with rfl
    refine ctch (pre := []) (x := ⟨0, 9, 12, 40⟩) (suf := []) S FZ hT (fun z hz => absurd hz List.not_mem_nil) rfl (by decide) cl_RL_40 (by decide +kernel) hce hcv hcl ?_
    refine lv_astore_n (lv' := [(3, .ref q), (0, .ref (ad 0)), (1, .int x), (2, .ref qo)]) hx hb dL_camp_12 rfl hl (by decide) rfl (fun ls hl => ?_)
    refine lv_iconst (v := 1) hx hb dL_camp_13 (by decide) ?_
    exact eL S hr hlocks hP hS ⟨by omega, by omega⟩ dL_camp_14 (Or.inr ⟨0, _, rfl, hp, rfl, rfl⟩)
  · refine lv_i2l hx hb dL_camp_7 rfl ?_
    refine ost S G hP hS dL_camp_8 (fun H locs hP hS => ?_)
    refine lv_goto (tgt := 15) hx hb dL_camp_9 (by decide) ?_
    refine lv_iconst (v := 0) hx hb dL_camp_15 (by decide) ?_
    exact eL S hr hlocks hP hS ⟨by omega, by omega⟩ dL_camp_16 (Or.inl ⟨rfl, r, hp, rfl⟩)
set_option maxHeartbeats 1000000 in
set_option maxRecDepth 100000 in
theorem c_L_greatest (l : Launch) {D : va_G} {ct : Nat → ClassId} {ek ad : Nat → Nat} {N0 qo qd d k : Nat} {F : State → Prop} (hY : ∀ U, F U → FY U) (σ : Mem) (v : Nat → Int64) (w : Nat → UInt64) (x : Int32) {post : Int32 → Mem → Prop} {PX : String → Mem → Prop}
    (hM : MXi l yX10_greatest cX10_greatest 3 (some .int) d k D ct ek ad N0 (outX ct qo qd v w) F (.ref (ad 0) :: [.int x]) σ post PX) (hE : ∀ E τ, PX E τ → E = eNE) :
    ML l yL_greatest cL_greatest 4 [(0, 9, 12, 65)] (d + 1) k D ct ek ad N0 qo qd F [.ref (ad 0), .int x, .ref qo] σ v w (LQ [eNE] v w post PX) := by
  refine ms0L (own := RL) (by decide) rfl (Nat.le_of_ble_eq_true rfl) (fun p e s m args below meth c S hr hlocks hT G hP hS ls hl => ?_)
  have hx := S.1
  have hb := S.2.1
  have FZ := hY s G.2.2.2.2.2
  replace hl : lv_has ls 4 [(0, .ref (ad 0)), (1, .int x), (2, .ref qo)] := hl
  refine lv_aload_n hx hb dL_greatest_0 rfl (lv_at hl 2 rfl) ?_
  refine lv_iconst (v := 0) hx hb dL_greatest_1 (by decide) ?_
  refine lv_aload_n hx hb dL_greatest_2 rfl (lv_at hl 0 rfl) ?_
  refine lv_iload_n hx hb dL_greatest_3 rfl (lv_at hl 1 rfl) ?_
  refine cLi (As := [.int x]) S G 0 hM ok_yX10_greatest ml_RL_85 (by decide) oX rfl hP hS hl.1 rfl (Nat.le_refl _) rfl rfl (Nat.le_of_ble_eq_true rfl) ⟨by omega, by omega⟩ dL_greatest_4 (fun E ce q τ H locs hp hP hS hce hcv hcl => ?_) (fun r τ H locs hp hP hS => ?_)
  · rcases hE E τ hp with rfl
    refine ctch (pre := []) (x := ⟨0, 9, 12, 65⟩) (suf := []) S FZ hT (fun z hz => absurd hz List.not_mem_nil) rfl (by decide) cl_RL_65 (by decide +kernel) hce hcv hcl ?_
    refine lv_astore_n (lv' := [(3, .ref q), (0, .ref (ad 0)), (1, .int x), (2, .ref qo)]) hx hb dL_greatest_12 rfl hl (by decide) rfl (fun ls hl => ?_)
    refine lv_iconst (v := 1) hx hb dL_greatest_13 (by decide) ?_
    exact eL S hr hlocks hP hS ⟨by omega, by omega⟩ dL_greatest_14 (Or.inr ⟨0, _, rfl, hp, rfl, rfl⟩)
  · refine lv_i2l hx hb dL_greatest_7 rfl ?_
    refine ost S G hP hS dL_greatest_8 (fun H locs hP hS => ?_)
    refine lv_goto (tgt := 15) hx hb dL_greatest_9 (by decide) ?_
    refine lv_iconst (v := 0) hx hb dL_greatest_15 (by decide) ?_
    exact eL S hr hlocks hP hS ⟨by omega, by omega⟩ dL_greatest_16 (Or.inl ⟨rfl, r, hp, rfl⟩)
set_option maxHeartbeats 1000000 in
set_option maxRecDepth 100000 in
theorem c_L_ranked (l : Launch) {D : va_G} {ct : Nat → ClassId} {ek ad : Nat → Nat} {N0 qo qd d k : Nat} {F : State → Prop} (hY : ∀ U, F U → FY U) (σ : Mem) (v : Nat → Int64) (w : Nat → UInt64) (x y : Int32) {post : Int32 → Mem → Prop} {PX : String → Mem → Prop}
    (hM : MXi l yX10_ranked cX10_ranked 4 (some .int) d k D ct ek ad N0 (outX ct qo qd v w) F (.ref (ad 0) :: [.int x, .int y]) σ post PX) (hE : ∀ E τ, PX E τ → E = eIA ∨ E = eNE) :
    ML l yL_ranked cL_ranked 5 [(0, 10, 13, 42), (0, 10, 17, 65)] (d + 1) k D ct ek ad N0 qo qd F [.ref (ad 0), .int x, .int y, .ref qo] σ v w (LQ [eIA, eNE] v w post PX) := by
  refine ms0L (own := RL) (by decide) rfl (Nat.le_of_ble_eq_true rfl) (fun p e s m args below meth c S hr hlocks hT G hP hS ls hl => ?_)
  have hx := S.1
  have hb := S.2.1
  have FZ := hY s G.2.2.2.2.2
  replace hl : lv_has ls 5 [(0, .ref (ad 0)), (1, .int x), (2, .int y), (3, .ref qo)] := hl
  refine lv_aload_n hx hb dL_ranked_0 rfl (lv_at hl 3 rfl) ?_
  refine lv_iconst (v := 0) hx hb dL_ranked_1 (by decide) ?_
  refine lv_aload_n hx hb dL_ranked_2 rfl (lv_at hl 0 rfl) ?_
  refine lv_iload_n hx hb dL_ranked_3 rfl (lv_at hl 1 rfl) ?_
  refine lv_iload_n hx hb dL_ranked_4 rfl (lv_at hl 2 rfl) ?_
  refine cLi (As := [.int x, .int y]) S G 0 hM ok_yX10_ranked ml_RL_89 (by decide) oX rfl hP hS hl.1 rfl (Nat.le_refl _) rfl rfl (Nat.le_of_ble_eq_true rfl) ⟨by omega, by omega⟩ dL_ranked_5 (fun E ce q τ H locs hp hP hS hce hcv hcl => ?_) (fun r τ H locs hp hP hS => ?_)
  · rcases hE E τ hp with rfl | rfl
    · refine ctch (pre := []) (x := ⟨0, 10, 13, 42⟩) (suf := [⟨0, 10, 17, 65⟩]) S FZ hT (fun z hz => absurd hz List.not_mem_nil) rfl (by decide) cl_RL_42 (by decide +kernel) hce hcv hcl ?_
      refine lv_astore (lv' := [(4, .ref q), (0, .ref (ad 0)), (1, .int x), (2, .int y), (3, .ref qo)]) hx hb dL_ranked_13 hl (by decide) rfl (fun ls hl => ?_)
      refine lv_iconst (v := 1) hx hb dL_ranked_15 (by decide) ?_
      exact eL S hr hlocks hP hS ⟨by omega, by omega⟩ dL_ranked_16 (Or.inr ⟨0, _, rfl, hp, rfl, rfl⟩)
    · refine ctch (pre := [⟨0, 10, 13, 42⟩]) (x := ⟨0, 10, 17, 65⟩) (suf := []) S FZ hT (fun z hz => by simp only [List.mem_cons, List.not_mem_nil, or_false] at hz; rcases hz with rfl; exact ⟨by decide, _, cl_RL_42, by decide⟩) rfl (by decide) cl_RL_65 (by decide +kernel) hce hcv hcl ?_
      refine lv_astore (lv' := [(4, .ref q), (0, .ref (ad 0)), (1, .int x), (2, .int y), (3, .ref qo)]) hx hb dL_ranked_17 hl (by decide) rfl (fun ls hl => ?_)
      refine lv_iconst (v := 2) hx hb dL_ranked_19 (by decide) ?_
      exact eL S hr hlocks hP hS ⟨by omega, by omega⟩ dL_ranked_20 (Or.inr ⟨1, _, rfl, hp, rfl, rfl⟩)
  · refine lv_i2l hx hb dL_ranked_8 rfl ?_
    refine ost S G hP hS dL_ranked_9 (fun H locs hP hS => ?_)
    refine lv_goto (tgt := 21) hx hb dL_ranked_10 (by decide) ?_
    refine lv_iconst (v := 0) hx hb dL_ranked_21 (by decide) ?_
    exact eL S hr hlocks hP hS ⟨by omega, by omega⟩ dL_ranked_22 (Or.inl ⟨rfl, r, hp, rfl⟩)
set_option maxHeartbeats 1000000 in
set_option maxRecDepth 100000 in
theorem c_L_weakest (l : Launch) {D : va_G} {ct : Nat → ClassId} {ek ad : Nat → Nat} {N0 qo qd d k : Nat} {F : State → Prop} (hY : ∀ U, F U → FY U) (σ : Mem) (v : Nat → Int64) (w : Nat → UInt64) (x : Int32) {post : Int32 → Mem → Prop} {PX : String → Mem → Prop}
    (hM : MXi l yX10_weakest cX10_weakest 3 (some .int) d k D ct ek ad N0 (outX ct qo qd v w) F (.ref (ad 0) :: [.int x]) σ post PX) (hE : ∀ E τ, PX E τ → E = eNE) :
    ML l yL_weakest cL_weakest 4 [(0, 9, 12, 65)] (d + 1) k D ct ek ad N0 qo qd F [.ref (ad 0), .int x, .ref qo] σ v w (LQ [eNE] v w post PX) := by
  refine ms0L (own := RL) (by decide) rfl (Nat.le_of_ble_eq_true rfl) (fun p e s m args below meth c S hr hlocks hT G hP hS ls hl => ?_)
  have hx := S.1
  have hb := S.2.1
  have FZ := hY s G.2.2.2.2.2
  replace hl : lv_has ls 4 [(0, .ref (ad 0)), (1, .int x), (2, .ref qo)] := hl
  refine lv_aload_n hx hb dL_weakest_0 rfl (lv_at hl 2 rfl) ?_
  refine lv_iconst (v := 0) hx hb dL_weakest_1 (by decide) ?_
  refine lv_aload_n hx hb dL_weakest_2 rfl (lv_at hl 0 rfl) ?_
  refine lv_iload_n hx hb dL_weakest_3 rfl (lv_at hl 1 rfl) ?_
  refine cLi (As := [.int x]) S G 0 hM ok_yX10_weakest ml_RL_92 (by decide) oX rfl hP hS hl.1 rfl (Nat.le_refl _) rfl rfl (Nat.le_of_ble_eq_true rfl) ⟨by omega, by omega⟩ dL_weakest_4 (fun E ce q τ H locs hp hP hS hce hcv hcl => ?_) (fun r τ H locs hp hP hS => ?_)
  · rcases hE E τ hp with rfl
    refine ctch (pre := []) (x := ⟨0, 9, 12, 65⟩) (suf := []) S FZ hT (fun z hz => absurd hz List.not_mem_nil) rfl (by decide) cl_RL_65 (by decide +kernel) hce hcv hcl ?_
    refine lv_astore_n (lv' := [(3, .ref q), (0, .ref (ad 0)), (1, .int x), (2, .ref qo)]) hx hb dL_weakest_12 rfl hl (by decide) rfl (fun ls hl => ?_)
    refine lv_iconst (v := 1) hx hb dL_weakest_13 (by decide) ?_
    exact eL S hr hlocks hP hS ⟨by omega, by omega⟩ dL_weakest_14 (Or.inr ⟨0, _, rfl, hp, rfl, rfl⟩)
  · refine lv_i2l hx hb dL_weakest_7 rfl ?_
    refine ost S G hP hS dL_weakest_8 (fun H locs hP hS => ?_)
    refine lv_goto (tgt := 15) hx hb dL_weakest_9 (by decide) ?_
    refine lv_iconst (v := 0) hx hb dL_weakest_15 (by decide) ?_
    exact eL S hr hlocks hP hS ⟨by omega, by omega⟩ dL_weakest_16 (Or.inl ⟨rfl, r, hp, rfl⟩)
set_option maxHeartbeats 1000000 in
set_option maxRecDepth 100000 in
theorem c_L_append (l : Launch) {D : va_G} {ct : Nat → ClassId} {ek ad : Nat → Nat} {N0 qo qd d k : Nat} {F : State → Prop} (hY : ∀ U, F U → FY U) (σ : Mem) (v : Nat → Int64) (w : Nat → UInt64) (x : Int32) {post : Int32 → Mem → Prop} {PX : String → Mem → Prop}
    (hM : MXi l yX10_append cX10_append 2 (some .int) d k D ct ek ad N0 (outX ct qo qd v w) F (.ref (ad 0) :: [.int x]) σ post PX) (hE : ∀ E τ, PX E τ → E = eIS) :
    ML l yL_append cL_append 4 [(0, 9, 12, 99)] (d + 1) k D ct ek ad N0 qo qd F [.ref (ad 0), .int x, .ref qo] σ v w (LQ [eIS] v w post PX) := by
  refine ms0L (own := RL) (by decide) rfl (Nat.le_of_ble_eq_true rfl) (fun p e s m args below meth c S hr hlocks hT G hP hS ls hl => ?_)
  have hx := S.1
  have hb := S.2.1
  have FZ := hY s G.2.2.2.2.2
  replace hl : lv_has ls 4 [(0, .ref (ad 0)), (1, .int x), (2, .ref qo)] := hl
  refine lv_aload_n hx hb dL_append_0 rfl (lv_at hl 2 rfl) ?_
  refine lv_iconst (v := 0) hx hb dL_append_1 (by decide) ?_
  refine lv_aload_n hx hb dL_append_2 rfl (lv_at hl 0 rfl) ?_
  refine lv_iload_n hx hb dL_append_3 rfl (lv_at hl 1 rfl) ?_
  refine cLi (As := [.int x]) S G 0 hM ok_yX10_append ml_RL_95 (by decide) oX rfl hP hS hl.1 rfl (Nat.le_refl _) rfl rfl (Nat.le_of_ble_eq_true rfl) ⟨by omega, by omega⟩ dL_append_4 (fun E ce q τ H locs hp hP hS hce hcv hcl => ?_) (fun r τ H locs hp hP hS => ?_)
  · rcases hE E τ hp with rfl
    refine ctch (pre := []) (x := ⟨0, 9, 12, 99⟩) (suf := []) S FZ hT (fun z hz => absurd hz List.not_mem_nil) rfl (by decide) cl_RL_99 (by decide +kernel) hce hcv hcl ?_
    refine lv_astore_n (lv' := [(3, .ref q), (0, .ref (ad 0)), (1, .int x), (2, .ref qo)]) hx hb dL_append_12 rfl hl (by decide) rfl (fun ls hl => ?_)
    refine lv_iconst (v := 1) hx hb dL_append_13 (by decide) ?_
    exact eL S hr hlocks hP hS ⟨by omega, by omega⟩ dL_append_14 (Or.inr ⟨0, _, rfl, hp, rfl, rfl⟩)
  · refine lv_i2l hx hb dL_append_7 rfl ?_
    refine ost S G hP hS dL_append_8 (fun H locs hP hS => ?_)
    refine lv_goto (tgt := 15) hx hb dL_append_9 (by decide) ?_
    refine lv_iconst (v := 0) hx hb dL_append_15 (by decide) ?_
    exact eL S hr hlocks hP hS ⟨by omega, by omega⟩ dL_append_16 (Or.inl ⟨rfl, r, hp, rfl⟩)
set_option maxHeartbeats 1000000 in
set_option maxRecDepth 100000 in
theorem c_L_commands (l : Launch) {D : va_G} {ct : Nat → ClassId} {ek ad : Nat → Nat} {N0 qo qd d k : Nat} {F : State → Prop} (hY : ∀ U, F U → FY U) (σ : Mem) (v : Nat → Int64) (w : Nat → UInt64) {post : Int32 → Mem → Prop} {PX : String → Mem → Prop}
    (hM : MXi l yX10_commands cX10_commands 3 (some .int) d k D ct ek ad N0 (outX ct qo qd v w) F (.ref (ad 0) :: []) σ post PX) (hE : ∀ E τ, PX E τ → E = eIA ∨ E = eUO) :
    ML l yL_commands cL_commands 3 [(0, 8, 11, 42), (0, 8, 14, 13)] (d + 1) k D ct ek ad N0 qo qd F [.ref (ad 0), .ref qo] σ v w (LQ [eIA, eUO] v w post PX) := by
  refine ms0L (own := RL) (by decide) rfl (Nat.le_of_ble_eq_true rfl) (fun p e s m args below meth c S hr hlocks hT G hP hS ls hl => ?_)
  have hx := S.1
  have hb := S.2.1
  have FZ := hY s G.2.2.2.2.2
  replace hl : lv_has ls 3 [(0, .ref (ad 0)), (1, .ref qo)] := hl
  refine lv_aload_n hx hb dL_commands_0 rfl (lv_at hl 1 rfl) ?_
  refine lv_iconst (v := 0) hx hb dL_commands_1 (by decide) ?_
  refine lv_aload_n hx hb dL_commands_2 rfl (lv_at hl 0 rfl) ?_
  refine cLi (As := []) S G 0 hM ok_yX10_commands ml_RL_101 (by decide) oX rfl hP hS hl.1 rfl (Nat.le_refl _) rfl rfl (Nat.le_of_ble_eq_true rfl) ⟨by omega, by omega⟩ dL_commands_3 (fun E ce q τ H locs hp hP hS hce hcv hcl => ?_) (fun r τ H locs hp hP hS => ?_)
  · rcases hE E τ hp with rfl | rfl
    · refine ctch (pre := []) (x := ⟨0, 8, 11, 42⟩) (suf := [⟨0, 8, 14, 13⟩]) S FZ hT (fun z hz => absurd hz List.not_mem_nil) rfl (by decide) cl_RL_42 (by decide +kernel) hce hcv hcl ?_
      refine lv_astore_n (lv' := [(2, .ref q), (0, .ref (ad 0)), (1, .ref qo)]) hx hb dL_commands_11 rfl hl (by decide) rfl (fun ls hl => ?_)
      refine lv_iconst (v := 1) hx hb dL_commands_12 (by decide) ?_
      exact eL S hr hlocks hP hS ⟨by omega, by omega⟩ dL_commands_13 (Or.inr ⟨0, _, rfl, hp, rfl, rfl⟩)
    · refine ctch (pre := [⟨0, 8, 11, 42⟩]) (x := ⟨0, 8, 14, 13⟩) (suf := []) S FZ hT (fun z hz => by simp only [List.mem_cons, List.not_mem_nil, or_false] at hz; rcases hz with rfl; exact ⟨by decide, _, cl_RL_42, by decide⟩) rfl (by decide) cl_RL_13 (by decide +kernel) hce hcv hcl ?_
      refine lv_astore_n (lv' := [(2, .ref q), (0, .ref (ad 0)), (1, .ref qo)]) hx hb dL_commands_14 rfl hl (by decide) rfl (fun ls hl => ?_)
      refine lv_iconst (v := 2) hx hb dL_commands_15 (by decide) ?_
      exact eL S hr hlocks hP hS ⟨by omega, by omega⟩ dL_commands_16 (Or.inr ⟨1, _, rfl, hp, rfl, rfl⟩)
  · refine lv_i2l hx hb dL_commands_6 rfl ?_
    refine ost S G hP hS dL_commands_7 (fun H locs hP hS => ?_)
    refine lv_goto (tgt := 17) hx hb dL_commands_8 (by decide) ?_
    refine lv_iconst (v := 0) hx hb dL_commands_17 (by decide) ?_
    exact eL S hr hlocks hP hS ⟨by omega, by omega⟩ dL_commands_18 (Or.inl ⟨rfl, r, hp, rfl⟩)
set_option maxHeartbeats 1000000 in
set_option maxRecDepth 100000 in
theorem c_L_reason (l : Launch) {D : va_G} {ct : Nat → ClassId} {ek ad : Nat → Nat} {N0 qo qd d k : Nat} {F : State → Prop} (hY : ∀ U, F U → FY U) (σ : Mem) (v : Nat → Int64) (w : Nat → UInt64) (x : Int32) {post : Int32 → Mem → Prop} {PX : String → Mem → Prop}
    (hM : MXi l yX10_reason cX10_reason 2 (some .int) d k D ct ek ad N0 (outX ct qo qd v w) F (.ref (ad 0) :: [.int x]) σ post PX) (hE : ∀ E τ, PX E τ → E = eIA ∨ E = eNE) :
    ML l yL_reason cL_reason 4 [(0, 9, 12, 42), (0, 9, 15, 65)] (d + 1) k D ct ek ad N0 qo qd F [.ref (ad 0), .int x, .ref qo] σ v w (LQ [eIA, eNE] v w post PX) := by
  refine ms0L (own := RL) (by decide) rfl (Nat.le_of_ble_eq_true rfl) (fun p e s m args below meth c S hr hlocks hT G hP hS ls hl => ?_)
  have hx := S.1
  have hb := S.2.1
  have FZ := hY s G.2.2.2.2.2
  replace hl : lv_has ls 4 [(0, .ref (ad 0)), (1, .int x), (2, .ref qo)] := hl
  refine lv_aload_n hx hb dL_reason_0 rfl (lv_at hl 2 rfl) ?_
  refine lv_iconst (v := 0) hx hb dL_reason_1 (by decide) ?_
  refine lv_aload_n hx hb dL_reason_2 rfl (lv_at hl 0 rfl) ?_
  refine lv_iload_n hx hb dL_reason_3 rfl (lv_at hl 1 rfl) ?_
  refine cLi (As := [.int x]) S G 0 hM ok_yX10_reason ml_RL_104 (by decide) oX rfl hP hS hl.1 rfl (Nat.le_refl _) rfl rfl (Nat.le_of_ble_eq_true rfl) ⟨by omega, by omega⟩ dL_reason_4 (fun E ce q τ H locs hp hP hS hce hcv hcl => ?_) (fun r τ H locs hp hP hS => ?_)
  · rcases hE E τ hp with rfl | rfl
    · refine ctch (pre := []) (x := ⟨0, 9, 12, 42⟩) (suf := [⟨0, 9, 15, 65⟩]) S FZ hT (fun z hz => absurd hz List.not_mem_nil) rfl (by decide) cl_RL_42 (by decide +kernel) hce hcv hcl ?_
      refine lv_astore_n (lv' := [(3, .ref q), (0, .ref (ad 0)), (1, .int x), (2, .ref qo)]) hx hb dL_reason_12 rfl hl (by decide) rfl (fun ls hl => ?_)
      refine lv_iconst (v := 1) hx hb dL_reason_13 (by decide) ?_
      exact eL S hr hlocks hP hS ⟨by omega, by omega⟩ dL_reason_14 (Or.inr ⟨0, _, rfl, hp, rfl, rfl⟩)
    · refine ctch (pre := [⟨0, 9, 12, 42⟩]) (x := ⟨0, 9, 15, 65⟩) (suf := []) S FZ hT (fun z hz => by simp only [List.mem_cons, List.not_mem_nil, or_false] at hz; rcases hz with rfl; exact ⟨by decide, _, cl_RL_42, by decide⟩) rfl (by decide) cl_RL_65 (by decide +kernel) hce hcv hcl ?_
      refine lv_astore_n (lv' := [(3, .ref q), (0, .ref (ad 0)), (1, .int x), (2, .ref qo)]) hx hb dL_reason_15 rfl hl (by decide) rfl (fun ls hl => ?_)
      refine lv_iconst (v := 2) hx hb dL_reason_16 (by decide) ?_
      exact eL S hr hlocks hP hS ⟨by omega, by omega⟩ dL_reason_17 (Or.inr ⟨1, _, rfl, hp, rfl, rfl⟩)
  · refine lv_i2l hx hb dL_reason_7 rfl ?_
    refine ost S G hP hS dL_reason_8 (fun H locs hP hS => ?_)
    refine lv_goto (tgt := 18) hx hb dL_reason_9 (by decide) ?_
    refine lv_iconst (v := 0) hx hb dL_reason_18 (by decide) ?_
    exact eL S hr hlocks hP hS ⟨by omega, by omega⟩ dL_reason_19 (Or.inl ⟨rfl, r, hp, rfl⟩)
set_option maxHeartbeats 1000000 in
set_option maxRecDepth 100000 in
theorem c_L_line (l : Launch) {D : va_G} {ct : Nat → ClassId} {ek ad : Nat → Nat} {N0 qo qd d k : Nat} {F : State → Prop} (hY : ∀ U, F U → FY U) (σ : Mem) (v : Nat → Int64) (w : Nat → UInt64) (x : Int32) {post : Int32 → Mem → Prop} {PX : String → Mem → Prop}
    (hM : MXi l yX10_line cX10_line 2 (some .int) d k D ct ek ad N0 (outX ct qo qd v w) F (.ref (ad 0) :: [.int x]) σ post PX) (hE : ∀ E τ, PX E τ → E = eIB) :
    ML l yL_line cL_line 4 [(0, 9, 12, 40)] (d + 1) k D ct ek ad N0 qo qd F [.ref (ad 0), .int x, .ref qo] σ v w (LQ [eIB] v w post PX) := by
  refine ms0L (own := RL) (by decide) rfl (Nat.le_of_ble_eq_true rfl) (fun p e s m args below meth c S hr hlocks hT G hP hS ls hl => ?_)
  have hx := S.1
  have hb := S.2.1
  have FZ := hY s G.2.2.2.2.2
  replace hl : lv_has ls 4 [(0, .ref (ad 0)), (1, .int x), (2, .ref qo)] := hl
  refine lv_aload_n hx hb dL_line_0 rfl (lv_at hl 2 rfl) ?_
  refine lv_iconst (v := 0) hx hb dL_line_1 (by decide) ?_
  refine lv_aload_n hx hb dL_line_2 rfl (lv_at hl 0 rfl) ?_
  refine lv_iload_n hx hb dL_line_3 rfl (lv_at hl 1 rfl) ?_
  refine cLi (As := [.int x]) S G 0 hM ok_yX10_line ml_RL_107 (by decide) oX rfl hP hS hl.1 rfl (Nat.le_refl _) rfl rfl (Nat.le_of_ble_eq_true rfl) ⟨by omega, by omega⟩ dL_line_4 (fun E ce q τ H locs hp hP hS hce hcv hcl => ?_) (fun r τ H locs hp hP hS => ?_)
  · rcases hE E τ hp with rfl
    refine ctch (pre := []) (x := ⟨0, 9, 12, 40⟩) (suf := []) S FZ hT (fun z hz => absurd hz List.not_mem_nil) rfl (by decide) cl_RL_40 (by decide +kernel) hce hcv hcl ?_
    refine lv_astore_n (lv' := [(3, .ref q), (0, .ref (ad 0)), (1, .int x), (2, .ref qo)]) hx hb dL_line_12 rfl hl (by decide) rfl (fun ls hl => ?_)
    refine lv_iconst (v := 1) hx hb dL_line_13 (by decide) ?_
    exact eL S hr hlocks hP hS ⟨by omega, by omega⟩ dL_line_14 (Or.inr ⟨0, _, rfl, hp, rfl, rfl⟩)
  · refine lv_i2l hx hb dL_line_7 rfl ?_
    refine ost S G hP hS dL_line_8 (fun H locs hP hS => ?_)
    refine lv_goto (tgt := 15) hx hb dL_line_9 (by decide) ?_
    refine lv_iconst (v := 0) hx hb dL_line_15 (by decide) ?_
    exact eL S hr hlocks hP hS ⟨by omega, by omega⟩ dL_line_16 (Or.inl ⟨rfl, r, hp, rfl⟩)
set_option maxHeartbeats 1000000 in
set_option maxRecDepth 100000 in
theorem c_L_character (l : Launch) {D : va_G} {ct : Nat → ClassId} {ek ad : Nat → Nat} {N0 qo qd d k : Nat} {F : State → Prop} (hY : ∀ U, F U → FY U) (σ : Mem) (v : Nat → Int64) (w : Nat → UInt64) (x : Int32) {post : Int32 → Mem → Prop} {PX : String → Mem → Prop}
    (hM : MXi l yX10_character cX10_character 2 (some .char) d k D ct ek ad N0 (outX ct qo qd v w) F (.ref (ad 0) :: [.int x]) σ post PX) (hE : ∀ E τ, PX E τ → E = eIB) :
    ML l yL_character cL_character 4 [(0, 9, 12, 40)] (d + 1) k D ct ek ad N0 qo qd F [.ref (ad 0), .int x, .ref qo] σ v w (LQ [eIB] v w post PX) := by
  refine ms0L (own := RL) (by decide) rfl (Nat.le_of_ble_eq_true rfl) (fun p e s m args below meth c S hr hlocks hT G hP hS ls hl => ?_)
  have hx := S.1
  have hb := S.2.1
  have FZ := hY s G.2.2.2.2.2
  replace hl : lv_has ls 4 [(0, .ref (ad 0)), (1, .int x), (2, .ref qo)] := hl
  refine lv_aload_n hx hb dL_character_0 rfl (lv_at hl 2 rfl) ?_
  refine lv_iconst (v := 0) hx hb dL_character_1 (by decide) ?_
  refine lv_aload_n hx hb dL_character_2 rfl (lv_at hl 0 rfl) ?_
  refine lv_iload_n hx hb dL_character_3 rfl (lv_at hl 1 rfl) ?_
  refine cLi (As := [.int x]) S G 0 hM ok_yX10_character ml_RL_110 (by decide) oX rfl hP hS hl.1 rfl (Nat.le_refl _) rfl rfl (Nat.le_of_ble_eq_true rfl) ⟨by omega, by omega⟩ dL_character_4 (fun E ce q τ H locs hp hP hS hce hcv hcl => ?_) (fun r τ H locs hp hP hS => ?_)
  · rcases hE E τ hp with rfl
    refine ctch (pre := []) (x := ⟨0, 9, 12, 40⟩) (suf := []) S FZ hT (fun z hz => absurd hz List.not_mem_nil) rfl (by decide) cl_RL_40 (by decide +kernel) hce hcv hcl ?_
    refine lv_astore_n (lv' := [(3, .ref q), (0, .ref (ad 0)), (1, .int x), (2, .ref qo)]) hx hb dL_character_12 rfl hl (by decide) rfl (fun ls hl => ?_)
    refine lv_iconst (v := 1) hx hb dL_character_13 (by decide) ?_
    exact eL S hr hlocks hP hS ⟨by omega, by omega⟩ dL_character_14 (Or.inr ⟨0, _, rfl, hp, rfl, rfl⟩)
  · refine lv_i2l hx hb dL_character_7 rfl ?_
    refine ost S G hP hS dL_character_8 (fun H locs hP hS => ?_)
    refine lv_goto (tgt := 15) hx hb dL_character_9 (by decide) ?_
    refine lv_iconst (v := 0) hx hb dL_character_15 (by decide) ?_
    exact eL S hr hlocks hP hS ⟨by omega, by omega⟩ dL_character_16 (Or.inl ⟨rfl, r, hp, rfl⟩)
set_option maxHeartbeats 1000000 in
set_option maxRecDepth 100000 in
theorem c_L_account (l : Launch) {D : va_G} {ct : Nat → ClassId} {ek ad : Nat → Nat} {N0 qo qd d k : Nat} {F : State → Prop} (hY : ∀ U, F U → FY U) (σ : Mem) (v : Nat → Int64) (w : Nat → UInt64) (x : Int32) {post : Int32 → Mem → Prop} {PX : String → Mem → Prop}
    (hM : MXi l yX10_account cX10_account 2 (some .int) d k D ct ek ad N0 (outX ct qo qd v w) F (.ref (ad 0) :: [.int x]) σ post PX) (hE : ∀ E τ, PX E τ → E = eIA) :
    ML l yL_account cL_account 4 [(0, 9, 12, 42)] (d + 1) k D ct ek ad N0 qo qd F [.ref (ad 0), .int x, .ref qo] σ v w (LQ [eIA] v w post PX) := by
  refine ms0L (own := RL) (by decide) rfl (Nat.le_of_ble_eq_true rfl) (fun p e s m args below meth c S hr hlocks hT G hP hS ls hl => ?_)
  have hx := S.1
  have hb := S.2.1
  have FZ := hY s G.2.2.2.2.2
  replace hl : lv_has ls 4 [(0, .ref (ad 0)), (1, .int x), (2, .ref qo)] := hl
  refine lv_aload_n hx hb dL_account_0 rfl (lv_at hl 2 rfl) ?_
  refine lv_iconst (v := 0) hx hb dL_account_1 (by decide) ?_
  refine lv_aload_n hx hb dL_account_2 rfl (lv_at hl 0 rfl) ?_
  refine lv_iload_n hx hb dL_account_3 rfl (lv_at hl 1 rfl) ?_
  refine cLi (As := [.int x]) S G 0 hM ok_yX10_account ml_RL_124 (by decide) oX rfl hP hS hl.1 rfl (Nat.le_refl _) rfl rfl (Nat.le_of_ble_eq_true rfl) ⟨by omega, by omega⟩ dL_account_4 (fun E ce q τ H locs hp hP hS hce hcv hcl => ?_) (fun r τ H locs hp hP hS => ?_)
  · rcases hE E τ hp with rfl
    refine ctch (pre := []) (x := ⟨0, 9, 12, 42⟩) (suf := []) S FZ hT (fun z hz => absurd hz List.not_mem_nil) rfl (by decide) cl_RL_42 (by decide +kernel) hce hcv hcl ?_
    refine lv_astore_n (lv' := [(3, .ref q), (0, .ref (ad 0)), (1, .int x), (2, .ref qo)]) hx hb dL_account_12 rfl hl (by decide) rfl (fun ls hl => ?_)
    refine lv_iconst (v := 1) hx hb dL_account_13 (by decide) ?_
    exact eL S hr hlocks hP hS ⟨by omega, by omega⟩ dL_account_14 (Or.inr ⟨0, _, rfl, hp, rfl, rfl⟩)
  · refine lv_i2l hx hb dL_account_7 rfl ?_
    refine ost S G hP hS dL_account_8 (fun H locs hP hS => ?_)
    refine lv_goto (tgt := 15) hx hb dL_account_9 (by decide) ?_
    refine lv_iconst (v := 0) hx hb dL_account_15 (by decide) ?_
    exact eL S hr hlocks hP hS ⟨by omega, by omega⟩ dL_account_16 (Or.inl ⟨rfl, r, hp, rfl⟩)
set_option maxHeartbeats 1000000 in
set_option maxRecDepth 100000 in
theorem c_L_undo (l : Launch) {D : va_G} {ct : Nat → ClassId} {ek ad : Nat → Nat} {N0 qo qd d k : Nat} {F : State → Prop} (hY : ∀ U, F U → FY U) (σ : Mem) (v : Nat → Int64) (w : Nat → UInt64) {post : Int32 → Mem → Prop} {PX : String → Mem → Prop}
    (hM : MXi l yX10_undo cX10_undo 1 (some .int) d k D ct ek ad N0 (outX ct qo qd v w) F (.ref (ad 0) :: []) σ post PX) (hE : ∀ E τ, PX E τ → E = eIS) :
    ML l yL_undo cL_undo 3 [(0, 8, 11, 99)] (d + 1) k D ct ek ad N0 qo qd F [.ref (ad 0), .ref qo] σ v w (LQ [eIS] v w post PX) := by
  refine ms0L (own := RL) (by decide) rfl (Nat.le_of_ble_eq_true rfl) (fun p e s m args below meth c S hr hlocks hT G hP hS ls hl => ?_)
  have hx := S.1
  have hb := S.2.1
  have FZ := hY s G.2.2.2.2.2
  replace hl : lv_has ls 3 [(0, .ref (ad 0)), (1, .ref qo)] := hl
  refine lv_aload_n hx hb dL_undo_0 rfl (lv_at hl 1 rfl) ?_
  refine lv_iconst (v := 0) hx hb dL_undo_1 (by decide) ?_
  refine lv_aload_n hx hb dL_undo_2 rfl (lv_at hl 0 rfl) ?_
  refine cLi (As := []) S G 0 hM ok_yX10_undo ml_RL_127 (by decide) oX rfl hP hS hl.1 rfl (Nat.le_refl _) rfl rfl (Nat.le_of_ble_eq_true rfl) ⟨by omega, by omega⟩ dL_undo_3 (fun E ce q τ H locs hp hP hS hce hcv hcl => ?_) (fun r τ H locs hp hP hS => ?_)
  · rcases hE E τ hp with rfl
    refine ctch (pre := []) (x := ⟨0, 8, 11, 99⟩) (suf := []) S FZ hT (fun z hz => absurd hz List.not_mem_nil) rfl (by decide) cl_RL_99 (by decide +kernel) hce hcv hcl ?_
    refine lv_astore_n (lv' := [(2, .ref q), (0, .ref (ad 0)), (1, .ref qo)]) hx hb dL_undo_11 rfl hl (by decide) rfl (fun ls hl => ?_)
    refine lv_iconst (v := 1) hx hb dL_undo_12 (by decide) ?_
    exact eL S hr hlocks hP hS ⟨by omega, by omega⟩ dL_undo_13 (Or.inr ⟨0, _, rfl, hp, rfl, rfl⟩)
  · refine lv_i2l hx hb dL_undo_6 rfl ?_
    refine ost S G hP hS dL_undo_7 (fun H locs hP hS => ?_)
    refine lv_goto (tgt := 14) hx hb dL_undo_8 (by decide) ?_
    refine lv_iconst (v := 0) hx hb dL_undo_14 (by decide) ?_
    exact eL S hr hlocks hP hS ⟨by omega, by omega⟩ dL_undo_15 (Or.inl ⟨rfl, r, hp, rfl⟩)
set_option maxHeartbeats 1000000 in
set_option maxRecDepth 100000 in
theorem c_L_restore (l : Launch) {D : va_G} {ct : Nat → ClassId} {ek ad : Nat → Nat} {N0 qo qd d k : Nat} {F : State → Prop} (hY : ∀ U, F U → FY U) (σ : Mem) (v : Nat → Int64) (w : Nat → UInt64) {post : Int32 → Mem → Prop} {PX : String → Mem → Prop}
    (hM : MXi l yX10_restore cX10_restore 1 (some .int) d k D ct ek ad N0 (outX ct qo qd v w) F (.ref (ad 0) :: []) σ post PX) (hE : ∀ E τ, PX E τ → E = eIS) :
    ML l yL_restore cL_restore 3 [(0, 8, 11, 99)] (d + 1) k D ct ek ad N0 qo qd F [.ref (ad 0), .ref qo] σ v w (LQ [eIS] v w post PX) := by
  refine ms0L (own := RL) (by decide) rfl (Nat.le_of_ble_eq_true rfl) (fun p e s m args below meth c S hr hlocks hT G hP hS ls hl => ?_)
  have hx := S.1
  have hb := S.2.1
  have FZ := hY s G.2.2.2.2.2
  replace hl : lv_has ls 3 [(0, .ref (ad 0)), (1, .ref qo)] := hl
  refine lv_aload_n hx hb dL_restore_0 rfl (lv_at hl 1 rfl) ?_
  refine lv_iconst (v := 0) hx hb dL_restore_1 (by decide) ?_
  refine lv_aload_n hx hb dL_restore_2 rfl (lv_at hl 0 rfl) ?_
  refine cLi (As := []) S G 0 hM ok_yX10_restore ml_RL_130 (by decide) oX rfl hP hS hl.1 rfl (Nat.le_refl _) rfl rfl (Nat.le_of_ble_eq_true rfl) ⟨by omega, by omega⟩ dL_restore_3 (fun E ce q τ H locs hp hP hS hce hcv hcl => ?_) (fun r τ H locs hp hP hS => ?_)
  · rcases hE E τ hp with rfl
    refine ctch (pre := []) (x := ⟨0, 8, 11, 99⟩) (suf := []) S FZ hT (fun z hz => absurd hz List.not_mem_nil) rfl (by decide) cl_RL_99 (by decide +kernel) hce hcv hcl ?_
    refine lv_astore_n (lv' := [(2, .ref q), (0, .ref (ad 0)), (1, .ref qo)]) hx hb dL_restore_11 rfl hl (by decide) rfl (fun ls hl => ?_)
    refine lv_iconst (v := 1) hx hb dL_restore_12 (by decide) ?_
    exact eL S hr hlocks hP hS ⟨by omega, by omega⟩ dL_restore_13 (Or.inr ⟨0, _, rfl, hp, rfl, rfl⟩)
  · refine lv_i2l hx hb dL_restore_6 rfl ?_
    refine ost S G hP hS dL_restore_7 (fun H locs hP hS => ?_)
    refine lv_goto (tgt := 14) hx hb dL_restore_8 (by decide) ?_
    refine lv_iconst (v := 0) hx hb dL_restore_14 (by decide) ?_
    exact eL S hr hlocks hP hS ⟨by omega, by omega⟩ dL_restore_15 (Or.inl ⟨rfl, r, hp, rfl⟩)

/-! the reference: a command is carried out (laid by wip/whole/spec_model9.py) -/
theorem ok_yX11_carries : COK RX11 yX11_carries cX11_carries 1 (some .boolean) 0 := ⟨im_yX11_carries, se_RX11_yX11_carries, in_RX11, co_yX11_carries, ⟨rfl, by decide +kernel, by decide +kernel, by decide +kernel⟩, by decide⟩
set_option maxHeartbeats 1000000 in
set_option maxRecDepth 100000 in
theorem c_X11_carries0 (l : Launch) {D : va_G} {ct : Nat → ClassId} {ek ad : Nat → Nat} {N0 : Nat} {X : va_W} {F : State → Prop} (σ : Mem) (n : Nat) (hn : σ 277 0 = nI n) (hn6 : n ≤ 6) (hw : σ 276 13 = 111) : MI l yX11_carries cX11_carries 1 (some .boolean) 6 D ct ek ad N0 X F [.ref (ad 276)] σ (fun r τ => r = comB n (σ 285 0) ∧ τ = comM σ n (σ 285 0) 0) := by
  refine ms0 (own := RX11) (by decide) rfl (Nat.le_of_ble_eq_true rfl) (fun p e s m args below meth c S hr hlocks hnm G hP hS ls hl => ?_)
  have hx := S.1
  have hb := S.2.1
  replace hl : lv_has ls 1 [(0, .ref (ad 276))] := hl
  refine lv_aload_n hx hb dX11_carries_0 rfl (lv_at hl 0 rfl) ?_
  refine gf S G hP 276 13 (by decide) oM rfl inX11 (by decide) fl_RX11_223 rfl rfl dX11_carries_1 ?_
  refine lv_tableIn (off := 88) (tgt := 92) hx hb dX11_carries_4 (by rw [show σ 276 13 = 111 from hw]; decide) (by rw [show σ 276 13 = 111 from hw]; decide) (by rw [show σ 276 13 = 111 from hw]; rfl) (by decide) ?_
  refine lv_aload_n hx hb dX11_carries_92 rfl (lv_at hl 0 rfl) ?_
  refine lv_aload_n hx hb dX11_carries_93 rfl (lv_at hl 0 rfl) ?_
  refine gf S G hP 276 14 (by decide) oM rfl inX11 (by decide) fl_RX11_35 rfl rfl dX11_carries_94 ?_
  refine lv_iconst (v := 0) hx hb dX11_carries_97 (by decide) ?_
  refine ald S G hP 285 0 (by decide) (aM285 _) (by decide) (by omega) (by decide) dX11_carries_98 ?_
  refine lv_iconst (v := 0) hx hb dX11_carries_99 (by decide) ?_
  refine cVie (As := [.int (σ 285 0), .int 0]) S G 276 (c_X11_comes l (D := D) (ct := ct) (ek := ek) (ad := ad) (N0 := N0) (X := X) (F := F) σ (σ 285 0) 0 n (by first | assumption | omega | (simp [sg_at]; assumption) | (simp [sg_at]; done)) (by omega)) ok_yX11_comes ml_RX11_119 (by decide) oM rfl hP hS hl.1 rfl (by decide) rfl rfl (Nat.le_of_ble_eq_true rfl) ⟨Nat.zero_le _, Nat.zero_le _⟩ dX11_carries_100 (fun H locs hP hS => ?_)
  exact eZ S hr hlocks hP hS (by unfold comB; repeat (first | rfl | split)) dX11_carries_103 ⟨rfl, rfl⟩

set_option maxHeartbeats 1000000 in
set_option maxRecDepth 100000 in
theorem c_X11_carries1 (l : Launch) {D : va_G} {ct : Nat → ClassId} {ek ad : Nat → Nat} {N0 : Nat} {X : va_W} {F : State → Prop} (σ : Mem) (n : Nat) (hn : σ 277 0 = nI n) (hn6 : n ≤ 6) (hw : σ 276 13 = 115) : MI l yX11_carries cX11_carries 1 (some .boolean) 6 D ct ek ad N0 X F [.ref (ad 276)] σ (fun r τ => r = comB n (σ 285 0) ∧ τ = comM σ n (σ 285 0) 1) := by
  refine ms0 (own := RX11) (by decide) rfl (Nat.le_of_ble_eq_true rfl) (fun p e s m args below meth c S hr hlocks hnm G hP hS ls hl => ?_)
  have hx := S.1
  have hb := S.2.1
  replace hl : lv_has ls 1 [(0, .ref (ad 276))] := hl
  refine lv_aload_n hx hb dX11_carries_0 rfl (lv_at hl 0 rfl) ?_
  refine gf S G hP 276 13 (by decide) oM rfl inX11 (by decide) fl_RX11_223 rfl rfl dX11_carries_1 ?_
  refine lv_tableIn (off := 100) (tgt := 104) hx hb dX11_carries_4 (by rw [show σ 276 13 = 115 from hw]; decide) (by rw [show σ 276 13 = 115 from hw]; decide) (by rw [show σ 276 13 = 115 from hw]; rfl) (by decide) ?_
  refine lv_aload_n hx hb dX11_carries_104 rfl (lv_at hl 0 rfl) ?_
  refine lv_aload_n hx hb dX11_carries_105 rfl (lv_at hl 0 rfl) ?_
  refine gf S G hP 276 14 (by decide) oM rfl inX11 (by decide) fl_RX11_35 rfl rfl dX11_carries_106 ?_
  refine lv_iconst (v := 0) hx hb dX11_carries_109 (by decide) ?_
  refine ald S G hP 285 0 (by decide) (aM285 _) (by decide) (by omega) (by decide) dX11_carries_110 ?_
  refine lv_iconst (v := 1) hx hb dX11_carries_111 (by decide) ?_
  refine cVie (As := [.int (σ 285 0), .int 1]) S G 276 (c_X11_comes l (D := D) (ct := ct) (ek := ek) (ad := ad) (N0 := N0) (X := X) (F := F) σ (σ 285 0) 1 n (by first | assumption | omega | (simp [sg_at]; assumption) | (simp [sg_at]; done)) (by omega)) ok_yX11_comes ml_RX11_119 (by decide) oM rfl hP hS hl.1 rfl (by decide) rfl rfl (Nat.le_of_ble_eq_true rfl) ⟨Nat.zero_le _, Nat.zero_le _⟩ dX11_carries_112 (fun H locs hP hS => ?_)
  exact eZ S hr hlocks hP hS (by unfold comB; repeat (first | rfl | split)) dX11_carries_115 ⟨rfl, rfl⟩

set_option maxHeartbeats 1000000 in
set_option maxRecDepth 100000 in
theorem c_X11_carries2 (l : Launch) {D : va_G} {ct : Nat → ClassId} {ek ad : Nat → Nat} {N0 : Nat} {X : va_W} {F : State → Prop} (σ : Mem) (n : Nat) (hn : σ 277 0 = nI n) (hn6 : n ≤ 6) (hw : σ 276 13 = 102) : MI l yX11_carries cX11_carries 1 (some .boolean) 6 D ct ek ad N0 X F [.ref (ad 276)] σ (fun r τ => r = befB σ (σ 285 0) (σ 285 1) (σ 285 2) ∧ τ = befM σ (σ 285 0) (σ 285 1) (σ 285 2)) := by
  refine ms0 (own := RX11) (by decide) rfl (Nat.le_of_ble_eq_true rfl) (fun p e s m args below meth c S hr hlocks hnm G hP hS ls hl => ?_)
  have hx := S.1
  have hb := S.2.1
  replace hl : lv_has ls 1 [(0, .ref (ad 276))] := hl
  refine lv_aload_n hx hb dX11_carries_0 rfl (lv_at hl 0 rfl) ?_
  refine gf S G hP 276 13 (by decide) oM rfl inX11 (by decide) fl_RX11_223 rfl rfl dX11_carries_1 ?_
  refine lv_tableIn (off := 112) (tgt := 116) hx hb dX11_carries_4 (by rw [show σ 276 13 = 102 from hw]; decide) (by rw [show σ 276 13 = 102 from hw]; decide) (by rw [show σ 276 13 = 102 from hw]; rfl) (by decide) ?_
  refine lv_aload_n hx hb dX11_carries_116 rfl (lv_at hl 0 rfl) ?_
  refine lv_aload_n hx hb dX11_carries_117 rfl (lv_at hl 0 rfl) ?_
  refine gf S G hP 276 14 (by decide) oM rfl inX11 (by decide) fl_RX11_35 rfl rfl dX11_carries_118 ?_
  refine lv_iconst (v := 0) hx hb dX11_carries_121 (by decide) ?_
  refine ald S G hP 285 0 (by decide) (aM285 _) (by decide) (by omega) (by decide) dX11_carries_122 ?_
  refine lv_aload_n hx hb dX11_carries_123 rfl (lv_at hl 0 rfl) ?_
  refine gf S G hP 276 14 (by decide) oM rfl inX11 (by decide) fl_RX11_35 rfl rfl dX11_carries_124 ?_
  refine lv_iconst (v := 1) hx hb dX11_carries_127 (by decide) ?_
  refine ald S G hP 285 1 (by decide) (aM285 _) (by decide) (by omega) (by decide) dX11_carries_128 ?_
  refine lv_aload_n hx hb dX11_carries_129 rfl (lv_at hl 0 rfl) ?_
  refine gf S G hP 276 14 (by decide) oM rfl inX11 (by decide) fl_RX11_35 rfl rfl dX11_carries_130 ?_
  refine lv_iconst (v := 2) hx hb dX11_carries_133 (by decide) ?_
  refine ald S G hP 285 2 (by decide) (aM285 _) (by decide) (by omega) (by decide) dX11_carries_134 ?_
  refine cVie (As := [.int (σ 285 0), .int (σ 285 1), .int (σ 285 2)]) S G 276 (c_X11_befriends l (D := D) (ct := ct) (ek := ek) (ad := ad) (N0 := N0) (X := X) (F := F) σ (σ 285 0) (σ 285 1) (σ 285 2) n (by first | assumption | omega | (simp [sg_at]; assumption) | (simp [sg_at]; done)) (by omega)) ok_yX11_befriends ml_RX11_129 (by decide) oM rfl hP hS hl.1 rfl (by decide) rfl rfl (Nat.le_of_ble_eq_true rfl) ⟨Nat.zero_le _, Nat.zero_le _⟩ dX11_carries_135 (fun H locs hP hS => ?_)
  exact eZ S hr hlocks hP hS (by unfold befB; repeat (first | rfl | split)) dX11_carries_138 ⟨rfl, rfl⟩

set_option maxHeartbeats 1000000 in
set_option maxRecDepth 100000 in
theorem c_X11_carries3 (l : Launch) {D : va_G} {ct : Nat → ClassId} {ek ad : Nat → Nat} {N0 : Nat} {X : va_W} {F : State → Prop} (σ : Mem) (n : Nat) (mb : Nat) (hR : RowOK (σ 277) n mb) (hw : σ 276 13 = 114) : MI l yX11_carries cX11_carries 1 (some .boolean) 6 D ct ek ad N0 X F [.ref (ad 276)] σ (fun r τ => r = pasB n ∧ τ = pasM σ n mb) := by
  refine ms0 (own := RX11) (by decide) rfl (Nat.le_of_ble_eq_true rfl) (fun p e s m args below meth c S hr hlocks hnm G hP hS ls hl => ?_)
  have hx := S.1
  have hb := S.2.1
  replace hl : lv_has ls 1 [(0, .ref (ad 276))] := hl
  refine lv_aload_n hx hb dX11_carries_0 rfl (lv_at hl 0 rfl) ?_
  refine gf S G hP 276 13 (by decide) oM rfl inX11 (by decide) fl_RX11_223 rfl rfl dX11_carries_1 ?_
  refine lv_tableIn (off := 135) (tgt := 139) hx hb dX11_carries_4 (by rw [show σ 276 13 = 114 from hw]; decide) (by rw [show σ 276 13 = 114 from hw]; decide) (by rw [show σ 276 13 = 114 from hw]; rfl) (by decide) ?_
  refine lv_aload_n hx hb dX11_carries_139 rfl (lv_at hl 0 rfl) ?_
  refine cVie (As := []) S G 276 (c_X11_passes l (D := D) (ct := ct) (ek := ek) (ad := ad) (N0 := N0) (X := X) (F := F) σ n mb (by first | assumption | omega | (simp [sg_at]; assumption) | (simp [sg_at]; done))) ok_yX11_passes ml_RX11_146 (by decide) oM rfl hP hS hl.1 rfl (by decide) rfl rfl (Nat.le_of_ble_eq_true rfl) ⟨Nat.zero_le _, Nat.zero_le _⟩ dX11_carries_140 (fun H locs hP hS => ?_)
  exact eZ S hr hlocks hP hS (by unfold pasB; repeat (first | rfl | split)) dX11_carries_143 ⟨rfl, rfl⟩

set_option maxHeartbeats 1000000 in
set_option maxRecDepth 100000 in
theorem c_X11_carries4 (l : Launch) {D : va_G} {ct : Nat → ClassId} {ek ad : Nat → Nat} {N0 : Nat} {X : va_W} {F : State → Prop} (σ : Mem) (n : Nat) (hn : σ 277 0 = nI n) (hn6 : n ≤ 6) (hw : σ 276 13 = 112) : MI l yX11_carries cX11_carries 1 (some .boolean) 6 D ct ek ad N0 X F [.ref (ad 276)] σ (fun r τ => r = rtlB σ (σ 285 0) (σ 285 1) ∧ τ = rtlM σ (σ 285 0) (σ 285 1)) := by
  refine ms0 (own := RX11) (by decide) rfl (Nat.le_of_ble_eq_true rfl) (fun p e s m args below meth c S hr hlocks hnm G hP hS ls hl => ?_)
  have hx := S.1
  have hb := S.2.1
  replace hl : lv_has ls 1 [(0, .ref (ad 276))] := hl
  refine lv_aload_n hx hb dX11_carries_0 rfl (lv_at hl 0 rfl) ?_
  refine gf S G hP 276 13 (by decide) oM rfl inX11 (by decide) fl_RX11_223 rfl rfl dX11_carries_1 ?_
  refine lv_tableIn (off := 140) (tgt := 144) hx hb dX11_carries_4 (by rw [show σ 276 13 = 112 from hw]; decide) (by rw [show σ 276 13 = 112 from hw]; decide) (by rw [show σ 276 13 = 112 from hw]; rfl) (by decide) ?_
  refine lv_aload_n hx hb dX11_carries_144 rfl (lv_at hl 0 rfl) ?_
  refine lv_aload_n hx hb dX11_carries_145 rfl (lv_at hl 0 rfl) ?_
  refine gf S G hP 276 14 (by decide) oM rfl inX11 (by decide) fl_RX11_35 rfl rfl dX11_carries_146 ?_
  refine lv_iconst (v := 0) hx hb dX11_carries_149 (by decide) ?_
  refine ald S G hP 285 0 (by decide) (aM285 _) (by decide) (by omega) (by decide) dX11_carries_150 ?_
  refine lv_aload_n hx hb dX11_carries_151 rfl (lv_at hl 0 rfl) ?_
  refine gf S G hP 276 14 (by decide) oM rfl inX11 (by decide) fl_RX11_35 rfl rfl dX11_carries_152 ?_
  refine lv_iconst (v := 1) hx hb dX11_carries_155 (by decide) ?_
  refine ald S G hP 285 1 (by decide) (aM285 _) (by decide) (by omega) (by decide) dX11_carries_156 ?_
  refine cVie (As := [.int (σ 285 0), .int (σ 285 1)]) S G 276 (c_X11_tells l (D := D) (ct := ct) (ek := ek) (ad := ad) (N0 := N0) (X := X) (F := F) σ (σ 285 0) (σ 285 1) n (by first | assumption | omega | (simp [sg_at]; assumption) | (simp [sg_at]; done)) (by omega)) ok_yX11_tells ml_RX11_153 (by decide) oM rfl hP hS hl.1 rfl (by decide) rfl rfl (Nat.le_of_ble_eq_true rfl) ⟨Nat.zero_le _, Nat.zero_le _⟩ dX11_carries_157 (fun H locs hP hS => ?_)
  exact eZ S hr hlocks hP hS (by unfold rtlB; repeat (first | rfl | split)) dX11_carries_160 ⟨rfl, rfl⟩

set_option maxHeartbeats 1000000 in
set_option maxRecDepth 100000 in
theorem c_X11_carries5 (l : Launch) {D : va_G} {ct : Nat → ClassId} {ek ad : Nat → Nat} {N0 : Nat} {X : va_W} {F : State → Prop} (σ : Mem) (n : Nat) (hn : σ 277 0 = nI n) (hn6 : n ≤ 6) (mb : Nat) (hm : σ 277 1 = nI mb) (hm6 : mb ≤ 6) (hw : σ 276 13 = 98) : MI l yX11_carries cX11_carries 1 (some .boolean) 6 D ct ek ad N0 X F [.ref (ad 276)] σ (fun r τ => r = ptB σ mb (σ 285 0) (σ 285 1) (σ 285 2) ∧ τ = ptM σ mb (σ 285 0) (σ 285 1) (σ 285 2)) := by
  refine ms0 (own := RX11) (by decide) rfl (Nat.le_of_ble_eq_true rfl) (fun p e s m args below meth c S hr hlocks hnm G hP hS ls hl => ?_)
  have hx := S.1
  have hb := S.2.1
  replace hl : lv_has ls 1 [(0, .ref (ad 276))] := hl
  refine lv_aload_n hx hb dX11_carries_0 rfl (lv_at hl 0 rfl) ?_
  refine gf S G hP 276 13 (by decide) oM rfl inX11 (by decide) fl_RX11_223 rfl rfl dX11_carries_1 ?_
  refine lv_tableIn (off := 157) (tgt := 161) hx hb dX11_carries_4 (by rw [show σ 276 13 = 98 from hw]; decide) (by rw [show σ 276 13 = 98 from hw]; decide) (by rw [show σ 276 13 = 98 from hw]; rfl) (by decide) ?_
  refine lv_aload_n hx hb dX11_carries_161 rfl (lv_at hl 0 rfl) ?_
  refine lv_aload_n hx hb dX11_carries_162 rfl (lv_at hl 0 rfl) ?_
  refine gf S G hP 276 14 (by decide) oM rfl inX11 (by decide) fl_RX11_35 rfl rfl dX11_carries_163 ?_
  refine lv_iconst (v := 0) hx hb dX11_carries_166 (by decide) ?_
  refine ald S G hP 285 0 (by decide) (aM285 _) (by decide) (by omega) (by decide) dX11_carries_167 ?_
  refine lv_aload_n hx hb dX11_carries_168 rfl (lv_at hl 0 rfl) ?_
  refine gf S G hP 276 14 (by decide) oM rfl inX11 (by decide) fl_RX11_35 rfl rfl dX11_carries_169 ?_
  refine lv_iconst (v := 1) hx hb dX11_carries_172 (by decide) ?_
  refine ald S G hP 285 1 (by decide) (aM285 _) (by decide) (by omega) (by decide) dX11_carries_173 ?_
  refine lv_aload_n hx hb dX11_carries_174 rfl (lv_at hl 0 rfl) ?_
  refine gf S G hP 276 14 (by decide) oM rfl inX11 (by decide) fl_RX11_35 rfl rfl dX11_carries_175 ?_
  refine lv_iconst (v := 2) hx hb dX11_carries_178 (by decide) ?_
  refine ald S G hP 285 2 (by decide) (aM285 _) (by decide) (by omega) (by decide) dX11_carries_179 ?_
  refine cVie (As := [.int (σ 285 0), .int (σ 285 1), .int (σ 285 2)]) S G 276 (c_X11_puts l (D := D) (ct := ct) (ek := ek) (ad := ad) (N0 := N0) (X := X) (F := F) σ (σ 285 0) (σ 285 1) (σ 285 2) n (by first | assumption | omega | (simp [sg_at]; assumption) | (simp [sg_at]; done)) (by omega) mb (by first | assumption | omega | (simp [sg_at]; assumption) | (simp [sg_at]; done)) (by omega)) ok_yX11_puts ml_RX11_156 (by decide) oM rfl hP hS hl.1 rfl (by decide) rfl rfl (Nat.le_of_ble_eq_true rfl) ⟨Nat.zero_le _, Nat.zero_le _⟩ dX11_carries_180 (fun H locs hP hS => ?_)
  exact eZ S hr hlocks hP hS (by unfold ptB; repeat (first | rfl | split)) dX11_carries_183 ⟨rfl, rfl⟩

set_option maxHeartbeats 1000000 in
set_option maxRecDepth 100000 in
theorem c_X11_carries6 (l : Launch) {D : va_G} {ct : Nat → ClassId} {ek ad : Nat → Nat} {N0 : Nat} {X : va_W} {F : State → Prop} (σ : Mem) (mb : Nat) (hm : σ 277 1 = nI mb) (hm6 : mb ≤ 6) (hw : σ 276 13 = 120) : MI l yX11_carries cX11_carries 1 (some .boolean) 6 D ct ek ad N0 X F [.ref (ad 276)] σ (fun r τ => r = tkB σ (σ 285 0) ∧ τ = tkM σ mb (σ 285 0)) := by
  refine ms0 (own := RX11) (by decide) rfl (Nat.le_of_ble_eq_true rfl) (fun p e s m args below meth c S hr hlocks hnm G hP hS ls hl => ?_)
  have hx := S.1
  have hb := S.2.1
  replace hl : lv_has ls 1 [(0, .ref (ad 276))] := hl
  refine lv_aload_n hx hb dX11_carries_0 rfl (lv_at hl 0 rfl) ?_
  refine gf S G hP 276 13 (by decide) oM rfl inX11 (by decide) fl_RX11_223 rfl rfl dX11_carries_1 ?_
  refine lv_tableOut (tgt := 201) hx hb dX11_carries_4 (by rw [show σ 276 13 = 120 from hw]; decide) (by decide) ?_
  refine lv_aload_n hx hb dX11_carries_201 rfl (lv_at hl 0 rfl) ?_
  refine lv_aload_n hx hb dX11_carries_202 rfl (lv_at hl 0 rfl) ?_
  refine gf S G hP 276 14 (by decide) oM rfl inX11 (by decide) fl_RX11_35 rfl rfl dX11_carries_203 ?_
  refine lv_iconst (v := 0) hx hb dX11_carries_206 (by decide) ?_
  refine ald S G hP 285 0 (by decide) (aM285 _) (by decide) (by omega) (by decide) dX11_carries_207 ?_
  refine cVie (As := [.int (σ 285 0)]) S G 276 (c_X11_takesAway l (D := D) (ct := ct) (ek := ek) (ad := ad) (N0 := N0) (X := X) (F := F) σ (σ 285 0) mb (by first | assumption | omega | (simp [sg_at]; assumption) | (simp [sg_at]; done)) (by omega)) ok_yX11_takesAway ml_RX11_159 (by decide) oM rfl hP hS hl.1 rfl (by decide) rfl rfl (Nat.le_of_ble_eq_true rfl) ⟨Nat.zero_le _, Nat.zero_le _⟩ dX11_carries_208 (fun H locs hP hS => ?_)
  exact eZ S hr hlocks hP hS (by unfold tkB; repeat (first | rfl | split)) dX11_carries_211 ⟨rfl, rfl⟩

set_option maxHeartbeats 1000000 in
set_option maxRecDepth 100000 in
theorem c_X11_carries7 (l : Launch) {D : va_G} {ct : Nat → ClassId} {ek ad : Nat → Nat} {N0 : Nat} {X : va_W} {F : State → Prop} (σ : Mem) (n : Nat) (hn : σ 277 0 = nI n) (hn6 : n ≤ 6) (hw : σ 276 13 = 104) : MI l yX11_carries cX11_carries 1 (some .boolean) 6 D ct ek ad N0 X F [.ref (ad 276)] σ (fun r τ => r = acB σ (σ 285 0) (σ 285 1) ∧ τ = acM σ (σ 285 0) (σ 285 1)) := by
  refine ms0 (own := RX11) (by decide) rfl (Nat.le_of_ble_eq_true rfl) (fun p e s m args below meth c S hr hlocks hnm G hP hS ls hl => ?_)
  have hx := S.1
  have hb := S.2.1
  replace hl : lv_has ls 1 [(0, .ref (ad 276))] := hl
  refine lv_aload_n hx hb dX11_carries_0 rfl (lv_at hl 0 rfl) ?_
  refine gf S G hP 276 13 (by decide) oM rfl inX11 (by decide) fl_RX11_223 rfl rfl dX11_carries_1 ?_
  refine lv_tableIn (off := 180) (tgt := 184) hx hb dX11_carries_4 (by rw [show σ 276 13 = 104 from hw]; decide) (by rw [show σ 276 13 = 104 from hw]; decide) (by rw [show σ 276 13 = 104 from hw]; rfl) (by decide) ?_
  refine lv_aload_n hx hb dX11_carries_184 rfl (lv_at hl 0 rfl) ?_
  refine lv_aload_n hx hb dX11_carries_185 rfl (lv_at hl 0 rfl) ?_
  refine gf S G hP 276 14 (by decide) oM rfl inX11 (by decide) fl_RX11_35 rfl rfl dX11_carries_186 ?_
  refine lv_iconst (v := 0) hx hb dX11_carries_189 (by decide) ?_
  refine ald S G hP 285 0 (by decide) (aM285 _) (by decide) (by omega) (by decide) dX11_carries_190 ?_
  refine lv_aload_n hx hb dX11_carries_191 rfl (lv_at hl 0 rfl) ?_
  refine gf S G hP 276 14 (by decide) oM rfl inX11 (by decide) fl_RX11_35 rfl rfl dX11_carries_192 ?_
  refine lv_iconst (v := 1) hx hb dX11_carries_195 (by decide) ?_
  refine ald S G hP 285 1 (by decide) (aM285 _) (by decide) (by omega) (by decide) dX11_carries_196 ?_
  refine cVie (As := [.int (σ 285 0), .int (σ 285 1)]) S G 276 (c_X11_accustoms l (D := D) (ct := ct) (ek := ek) (ad := ad) (N0 := N0) (X := X) (F := F) σ (σ 285 0) (σ 285 1) n (by first | assumption | omega | (simp [sg_at]; assumption) | (simp [sg_at]; done)) (by omega)) ok_yX11_accustoms ml_RX11_162 (by decide) oM rfl hP hS hl.1 rfl (by decide) rfl rfl (Nat.le_of_ble_eq_true rfl) ⟨Nat.zero_le _, Nat.zero_le _⟩ dX11_carries_197 (fun H locs hP hS => ?_)
  exact eZ S hr hlocks hP hS (by unfold acB; repeat (first | rfl | split)) dX11_carries_200 ⟨rfl, rfl⟩
/-- a command is carried out: what stp says -/
theorem c_X11_carries (l : Launch) {D : va_G} {ct : Nat → ClassId} {ek ad : Nat → Nat} {N0 : Nat} {X : va_W} {F : State → Prop} (σ : Mem) (j : Nat) (hj : j < 8) (hR : RW (σ 277)) (hw : σ 276 13 = chB j 0) (x y z : Int32) (hx : 0 < nmC j → σ 285 0 = x) (hy : 1 < nmC j → σ 285 1 = y) (hz : 2 < nmC j → σ 285 2 = z) : MI l yX11_carries cX11_carries 1 (some .boolean) 6 D ct ek ad N0 X F [.ref (ad 276)] σ (fun r τ => r = (stp (σ 277) j x y z).1 ∧ StM τ σ (stp (σ 277) j x y z)) := by
  have hn := hR.1; have hn6 := hR.2.1; have hm := hR.2.2.1; have hm6 := hR.2.2.2.1
  rcases (show j = 0 ∨ j = 1 ∨ j = 2 ∨ j = 3 ∨ j = 4 ∨ j = 5 ∨ j = 6 ∨ j = 7 by omega) with rfl | rfl | rfl | rfl | rfl | rfl | rfl | rfl
  · rw [← hx (by decide)]
    refine MI.mono (c_X11_carries0 l σ (tN (σ 277 0)) hn hn6 hw) (fun r τ h => ?_)
    rw [h.1, h.2]; exact st_com
  · rw [← hx (by decide)]
    refine MI.mono (c_X11_carries1 l σ (tN (σ 277 0)) hn hn6 hw) (fun r τ h => ?_)
    rw [h.1, h.2]; exact st_com
  · rw [← hx (by decide), ← hy (by decide), ← hz (by decide)]
    refine MI.mono (c_X11_carries2 l σ (tN (σ 277 0)) hn hn6 hw) (fun r τ h => ?_)
    rw [h.1, h.2]; exact st_bef
  · refine MI.mono (c_X11_carries3 l σ (tN (σ 277 0)) (tN (σ 277 1)) hR hw) (fun r τ h => ?_)
    rw [h.1, h.2]; exact st_pas
  · rw [← hx (by decide), ← hy (by decide)]
    refine MI.mono (c_X11_carries4 l σ (tN (σ 277 0)) hn hn6 hw) (fun r τ h => ?_)
    rw [h.1, h.2]; exact st_tel
  · rw [← hx (by decide), ← hy (by decide), ← hz (by decide)]
    refine MI.mono (c_X11_carries5 l σ (tN (σ 277 0)) hn hn6 (tN (σ 277 1)) hm hm6 hw) (fun r τ h => ?_)
    rw [h.1, h.2]; exact st_put
  · rw [← hx (by decide)]
    refine MI.mono (c_X11_carries6 l σ (tN (σ 277 1)) hm hm6 hw) (fun r τ h => ?_)
    rw [h.1, h.2]; exact st_tak
  · rw [← hx (by decide), ← hy (by decide)]
    refine MI.mono (c_X11_carries7 l σ (tN (σ 277 0)) hn hn6 hw) (fun r τ h => ?_)
    rw [h.1, h.2]; exact st_acc

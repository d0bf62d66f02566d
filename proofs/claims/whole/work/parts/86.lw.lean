/-! the law's helpers: a call that may throw, with its own table -/
section LWR
variable {p : Program} {l : Launch} {e : Env} {R : Room} {s : State} {m : MethodId} {args : Array Value} {below : List Frame} {meth : Method} {c : Code} {H : Heap} {locs : List Loc} {cells slots : Nat} {Q : State → Prop}
variable {cc : ByteArray} {nL : Nat} {own : String} {pc : Nat} {ls : Array Slot} {rest : List Value}
variable {D : va_G} {ct : Nat → ClassId} {ek ad cs : Nat → Nat} {N0 : Nat} {X : va_W} {F : State → Prop} {σ : Mem}
/-- a call of a method that answers an int, what it throws to be handled -/
theorem cLi {C : String} {idx kp ci N n d d0 k k0 : Nat} {y : MethodName} {bs : ByteArray} {ret : Option FieldType} {T : u_T} {fs As st : List Value} {post : Int32 → Mem → Prop} {PX : String → Mem → Prop} (S : CallFix p m c cc nL s args BW own) (G : GI D ct ek ad N0 X F s) (b : Nat) (hM : MXi l y bs n ret d k D ct ek ad N0 X F (.ref (ad b) :: As) σ post PX) (ok : COK C y bs n ret kp) (hl : Cond.methodLink own idx y ∈ BW)
    (hb : b < 286) (he : cellF ct ek ad b (σ b) = .inr (ci, fs)) (hc : vcl[ci]? = some (C, T, N)) (hP : wP D ct ek ad X σ H) (hS : va_S (fr N0) s.heap H locs) (hls : ls.size = nL) (hR : R = rmd d0 k0 (6 * k0)) (hd : d + 1 ≤ d0) (hk : As.length = kp) (hst : st = As.reverse ++ .ref (ad b) :: rest) (hrest : (rest.map fun v => v.category).sum ≤ 8) (hcs : cells + k ≤ k0 ∧ slots + 6 * k ≤ 6 * k0) (hdg : decode cc pc = .ok (.invokevirtual idx, 3))
    (kx : ∀ (E : String) (ce : Cell) (q : Addr) (τ : Mem) (H : Heap) (locs : List Loc), PX E τ → wP D ct ek ad X τ H → va_S (fr N0) s.heap H locs → H[q]? = some ce → ce.vm = .none → s.vm.findClass E = some ce.cls → vx_W p l e R s m args below meth c H locs (cells + k) (slots + 6 * k) Q (F0 m pc ls rest) q)
    (kk : ∀ (r : Int32) (τ : Mem) (H : Heap) (locs : List Loc), post r τ → wP D ct ek ad X τ H → va_S (fr N0) s.heap H locs → W p l e R s m args below meth c H locs (cells + k) (slots + 6 * k) Q (F0 m (pc + 3) ls (.int r :: rest))) : W p l e R s m args below meth c H locs cells slots Q (F0 m pc ls st) := by
  subst hR
  subst hst
  refine vx_calli (vx_runV (As := As) (rest := rest) S hM (cwV kp S.2.2.2.2 (gBV ok hl) rfl rfl rfl ok.2.2.2.2.1 ⟨hd, ?_⟩) ⟨GI.blind, va_recv G.1 hP hc ((wl_at hb).trans (congrArg (fun z => some (ad b, z)) he)), fun U hU hW => ⟨rfl, G.at hS hU hW, by rw [hU]; exact hP⟩⟩ rfl hk hls rfl (lv_room hrest) hdg ⟨hcs.1, hcs.2⟩) hS (fun q _ h => h) (fun q h => h) (fun q _ h => h) (fun E ce q9 u t H1 locs1 ht _ _ hB hz hq hS1 hce hcv hcl => ?_) (fun r u t H1 locs1 ht _ hp hB _ _ hS1 => ?_)
  · have := ok.2.2.2.2.2
    show 8 + (n + 11) + 32 * d ≤ 32 * d0
    omega
  · exact kx E ce q9 u H1 locs1 hB.1 (by rw [← ht]; exact hB.2) hS1 hce hcv hcl
  · exact kk r u H1 locs1 hp (by rw [← ht]; exact hB) hS1
end LWR

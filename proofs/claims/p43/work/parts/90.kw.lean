/-! constants of the pools, natives (laid by wip/p43/gw.py) -/
theorem wG_e {D : va_G} {ct : Nat → ClassId} {ek ad : Nat → Nat} {X : va_W} {μ ν : Mem} {H : Heap} (h : wG D ct ek ad X μ H) (e : μ = ν) : wG D ct ek ad X ν H := e ▸ h
theorem oXe {ct : Nat → ClassId} {ek ad : Nat → Nat} : ∀ r, ∃ fs, cellF ct ek ad 0 r = .inr (8, fs) := fun r => ⟨_, oX⟩
theorem kl_RL_181 : (Cond.constantLong RL 181 (31 : Int64)) ∈ BW := bw 1027 (by decide +kernel) (by decide +kernel)
theorem kd_RL_120 : (Cond.constantDouble RL 120 (13875388141788987392 : UInt64)) ∈ BW := bw 1051 (by decide +kernel) (by decide +kernel)
theorem na_d2l : (Cond.native (⟨RJxe99ae, "doubleToRawLongBits", "(D)J"⟩ : MethodName)) ∈ BW := bw 1060 (by decide +kernel) (by decide +kernel)
theorem sm_d2l : (Cond.static (⟨RJxe99ae, "doubleToRawLongBits", "(D)J"⟩ : MethodName)) ∈ BW := bw 1059 (by decide +kernel) (by decide +kernel)
theorem kl_RJxe99ae_137 : (Cond.constantLong RJxe99ae 137 (9221120237041090560 : Int64)) ∈ BW := bw 1061 (by decide +kernel) (by decide +kernel)
theorem kf9_RL_126 : (Cond.constantFloat RL 126 (3296346112 : UInt32)) ∈ BW := bw 1069 (by decide +kernel) (by decide +kernel)
theorem na_f2i : (Cond.native (⟨RJxf58ca, "floatToRawIntBits", "(F)I"⟩ : MethodName)) ∈ BW := bw 1078 (by decide +kernel) (by decide +kernel)
theorem sm_f2i : (Cond.static (⟨RJxf58ca, "floatToRawIntBits", "(F)I"⟩ : MethodName)) ∈ BW := bw 1077 (by decide +kernel) (by decide +kernel)
theorem kc_RJxf58ca_77 : (Cond.constant RJxf58ca 77 (2143289344 : Int32)) ∈ BW := bw 1079 (by decide +kernel) (by decide +kernel)

/-! cells speak of the addresses of their own house alone -/
theorem pCell_ad {ct : Nat → ClassId} {ad ad' : Nat → Nat} {b o : Nat} {r : Nat → Int32} (h : ∀ c, b ≤ c → c < b + 14 → ad c = ad' c) : pCell ct ad b o r = pCell ct ad' b o r := by
  unfold pCell
  split
  · rw [h (b + 1) (by omega) (by omega), h (b + 2) (by omega) (by omega), h (b + 3) (by omega) (by omega), h (b + 4) (by omega) (by omega), h (b + 5) (by omega) (by omega), h (b + 6) (by omega) (by omega), h (b + 13) (by omega) (by omega)]
  · rfl
  · have e : (fun i => if i < 6 then some (ad (b + 7 + i)) else none) = (fun i => if i < 6 then some (ad' (b + 7 + i)) else none) := by
      funext i
      by_cases c : i < 6
      · rw [if_pos c, if_pos c, h _ (by omega) (by omega)]
      · rw [if_neg c, if_neg c]
    rw [e]
  · rfl
theorem bCell_ad {ct : Nat → ClassId} {ad ad' : Nat → Nat} {b o : Nat} {r : Nat → Int32} (h : ∀ c, b ≤ c → c < b + 5 → ad c = ad' c) : bCell ct ad b o r = bCell ct ad' b o r := by
  unfold bCell
  split
  · rw [h (b + 1) (by omega) (by omega), h (b + 2) (by omega) (by omega), h (b + 3) (by omega) (by omega), h (b + 4) (by omega) (by omega)]
  · rfl
theorem hCell_ad {ct : Nat → ClassId} {ad ad' : Nat → Nat} {b o : Nat} {r : Nat → Int32} (h : ∀ c, b ≤ c → c < b + 20 → ad c = ad' c) : hCell ct ad b o r = hCell ct ad' b o r := by
  unfold hCell
  split
  · rw [h (b + 1) (by omega) (by omega), h (b + 15) (by omega) (by omega)]
  · split
    · exact pCell_ad (fun c c1 c2 => h c (by omega) (by omega))
    · exact bCell_ad (fun c c1 c2 => h c (by omega) (by omega))
/-- a house's blocks, by their addresses alone -/
theorem wlH_ad {ct : Nat → ClassId} {ek ad ad' : Nat → Nat} {σ : Mem} {b : Nat} (hb : isH b) (h : ∀ c, b ≤ c → c < b + 20 → ad c = ad' c) : wlP ct ek ad σ ((List.range 20).map (b + ·)) = wlP ct ek ad' σ ((List.range 20).map (b + ·)) := by
  unfold wlP
  rw [List.map_map, List.map_map]
  refine List.map_congr_left fun o ho => ?_
  have ho := List.mem_range.mp ho
  show (ad (b + o), cellF ct ek ad (b + o) (σ (b + o))) = (ad' (b + o), cellF ct ek ad' (b + o) (σ (b + o)))
  rw [cH hb ho, cH hb ho, h _ (by omega) (by omega), hCell_ad h]

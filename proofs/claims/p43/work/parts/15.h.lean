/-! plain functions of camps, changes and houses -/
def alliedB (σ : Mem) (pb i j : Nat) : Int32 := if σ (pb + 7 + i) j = 0 then 0 else if sgnV (σ (pb + 1) i) 0 = 0 then 0 else if sgnV (σ (pb + 1) i) 0 = sgnV (σ (pb + 1) j) 0 then 1 else 0
def bitV (x : Int32) (q : Nat) : Int32 := (x >>> (nI q &&& 31)) &&& 1
def oneV (q : Nat) : Int32 := 1 <<< (nI q &&& 31)
def alIn (σ : Mem) (pb : Nat) (x : Int32) (q : Nat) (a : Int32) (t : Nat) : Int32 := fo (fun r a => if bitV x q = 0 then a else if alliedB σ pb q r = 0 then a else a ||| oneV r) a t
theorem alIn_s {σ : Mem} {pb q t : Nat} {x a : Int32} : alIn σ pb x q a (t + 1) = if bitV x q = 0 then alIn σ pb x q a t else if alliedB σ pb q t = 0 then alIn σ pb x q a t else alIn σ pb x q a t ||| oneV t := rfl
def alV (σ : Mem) (pb n : Nat) (x : Int32) (k : Nat) : Int32 := fo (fun q a => alIn σ pb x q a n) 0 k
theorem alV_s {σ : Mem} {pb n k : Nat} {x : Int32} : alV σ pb n x (k + 1) = alIn σ pb x k (alV σ pb n x k) n := rfl
def cpIt (σ : Mem) (pb n i t : Nat) : Int32 := fo (fun _ a => a ||| alV σ pb n a n) (oneV i) t
theorem cpIt_s {σ : Mem} {pb n i t : Nat} : cpIt σ pb n i (t + 1) = cpIt σ pb n i t ||| alV σ pb n (cpIt σ pb n i t) n := rfl
def campV (σ : Mem) (pb n i : Nat) : Int32 := if sgnV (σ (pb + 1) i) 0 = 0 then 0 else cpIt σ pb n i (n - 1)
def lowV (σ : Mem) (pb n k : Nat) : Int32 := fo (fun q a => if campV σ pb n q = 0 then a else if campV σ pb n q &&& (oneV q - 1) = 0 then a + 1 else a) 0 k
theorem lowV_s {σ : Mem} {pb n k : Nat} : lowV σ pb n (k + 1) = if campV σ pb n k = 0 then lowV σ pb n k else if campV σ pb n k &&& (oneV k - 1) = 0 then lowV σ pb n k + 1 else lowV σ pb n k := rfl
def jstep (σ : Mem) (pb n i j : Nat) (a : (Nat → Int32) × Int32) : (Nat → Int32) × Int32 := if alliedB σ pb i j = 0 then a else if a.1 i = a.1 j then a else (fil (fun q => if a.1 q = a.1 j then a.1 i else a.1 q) a.1 n, a.2 + (-1))
def jin (σ : Mem) (pb n i : Nat) (a : (Nat → Int32) × Int32) (t : Nat) : (Nat → Int32) × Int32 := fo (fun q a => jstep σ pb n i (i + 1 + q) a) a t
theorem jin_s {σ : Mem} {pb n i t : Nat} {a : (Nat → Int32) × Int32} : jin σ pb n i a (t + 1) = jstep σ pb n i (i + 1 + t) (jin σ pb n i a t) := rfl
def jout (σ : Mem) (pb n : Nat) (a : (Nat → Int32) × Int32) (k : Nat) : (Nat → Int32) × Int32 := fo (fun i a => jin σ pb n i a (n - (i + 1))) a k
theorem jout_s {σ : Mem} {pb n k : Nat} {a : (Nat → Int32) × Int32} : jout σ pb n a (k + 1) = jin σ pb n k (jout σ pb n a k) (n - (k + 1)) := rfl
theorem isP76 {pb k : Nat} (h : isP pb) (hk : k < 14) : pb + k ≠ 76 := by
  unfold isP isH at h
  rcases h with h | ⟨a, h, h'⟩
  · omega
  · rcases h with h | h | h | ⟨j, h1, h2⟩ <;> omega
theorem alliedB_c {σ τ : Mem} {pb i j : Nat} (h : ∀ c, c ≠ 76 → τ c = σ c) (hp : isP pb) (hi : i < 6) : alliedB τ pb i j = alliedB σ pb i j := by
  unfold alliedB
  rw [h (pb + 1) (isP76 hp (by omega)), h (pb + 7 + i) (by rw [Nat.add_assoc]; exact isP76 hp (by omega))]
theorem oCk {ct : Nat → ClassId} {ek ad : Nat → Nat} {b j : Nat} {r : Nat → Int32} (h : isC b) (hj : j < 8) : cellF ct ek ad b (upd r 0 (nI j)) = .inr (2, [.ref (ek j), .int (r 1), .int (r 2), .int (r 3), .int (r 4), .int (r 5), .int (r 6)]) := by
  rw [oC h]
  have e : (upd r 0 (nI j) 0).toNatClampNeg = j := by
    show (nI j).toNatClampNeg = j
    exact nI_clamp (by omega)
  rw [e]
  rfl
/-- a change that is asked: kind j, numbers x, y, z; no answer yet, not refused -/
def askM (σ : Mem) (cb j : Nat) (x y z : Int32) : Mem := sg (sg (sg (sg (sg (sg (sg σ cb 0 (nI j)) cb 1 x) cb 2 y) cb 3 z) cb 4 0) cb 5 0) cb 6 0

/-! HOW A BIRD FLIES -/
def bcI (v : Int32) : Int32 :=
  let v1 := v - ((v.toUInt32 >>> ((1 : Int32).toUInt32 &&& Int32.toUInt32 31)).toInt32 &&& 1431655765)
  let v2 := (v1 &&& 858993459) + ((v1.toUInt32 >>> ((2 : Int32).toUInt32 &&& Int32.toUInt32 31)).toInt32 &&& 858993459)
  let v3 := (v2 + (v2.toUInt32 >>> ((4 : Int32).toUInt32 &&& Int32.toUInt32 31)).toInt32) &&& 252645135
  let v4 := v3 + (v3.toUInt32 >>> ((8 : Int32).toUInt32 &&& Int32.toUInt32 31)).toInt32
  let v5 := v4 + (v4.toUInt32 >>> ((16 : Int32).toUInt32 &&& Int32.toUInt32 31)).toInt32
  v5 &&& 63
theorem bitCount_ok (v : Int32) (M : Mm) : fJ6_bitCount_0f7a4 v M = some (bcI v, M) := rfl
def leastI (v : Int32) : Int32 := bcI ((v &&& (-v)) - 1)
theorem least_ok (v : Int32) (M : Mm) : fX5_least v M = some (leastI v, M) := rfl
/-- the number of places in a set -/
def cntN (S : Nat) : Nat := (S.testBit 0).toNat + (S.testBit 1).toNat + (S.testBit 2).toNat + (S.testBit 3).toNat + (S.testBit 4).toNat + (S.testBit 5).toNat + (S.testBit 6).toNat + (S.testBit 7).toNat
theorem bc_all : ∀ S, S < 256 → bcI (nI S) = nI (cntN S) := by decide +kernel
/-- the least place of a set from k on, below 8 -/
def lsN (S k : Nat) : Nat := ((List.range 8).find? (fun y => decide (k ≤ y) && S.testBit y)).getD 9
/-- where a bird flies from x, with the set S beside it -/
def flN (S x : Nat) : Nat := if S = 0 then x else if lsN S (x + 1) < 8 then lsN S (x + 1) else lsN S 0
theorem fl_all : ∀ S, S < 256 → ∀ x, x < 8 → (if nI S = 0 then nI x else if nI S &&& (-((2 : Int32) <<< (nI x &&& 31))) = 0 then leastI (nI S) else leastI (nI S &&& (-((2 : Int32) <<< (nI x &&& 31))))) = nI (flN S x) := by decide +kernel
theorem fl_lt : ∀ n, n ≤ 8 → ∀ S, S < 2 ^ n → ∀ x, x < n → flN S x < n := by decide +kernel
/-- the reference's search, from above -/
def nx1 (n S x : Nat) : Nat → Int32
  | 0 => -9
  | j + 1 => if S.testBit (n - 1 - j) ∧ x < n - 1 - j then nI (n - 1 - j) else nx1 n S x j
def nx2 (n S x : Nat) (v0 : Int32) : Nat → Int32
  | 0 => v0
  | j + 1 => if nx2 n S x v0 j = -9 ∨ nx2 n S x v0 j < nI x then (if S.testBit (n - 1 - j) then nI (n - 1 - j) else nx2 n S x v0 j) else nx2 n S x v0 j
theorem nx_all : ∀ n, n ≤ 8 → ∀ S, S < 2 ^ n → ∀ x, x < n → (let v := nx2 n S x (nx1 n S x n) n; (if v = -9 then nI x else v) = nI (flN S x)) := by decide +kernel
section
variable {M : Mm} {a : Nat} {T : WT}
theorem flight_ok (h : RO M) (hw : isW a) (hC : CWd a T M) (hV : VT T) {x : Nat} (hx : x < tn T) : fX4_flightFrom a (nI x) M = some (nI (flN (te T x) x), M) := by
  have hn8 := hV.n8
  have he : te T x < 256 := pow_lt8 hn8 (hV.2.2.2.2.2.1 x hx)
  have ef := fl_all _ he x (by omega)
  have hl := (w_ln hw).2.2.1
  have ld : ∀ {α : Type} (K : Int32 → Option α), ldI M (a + 3) (nI x) K = K (nI (te T x)) := fun K => by rw [ld_w 8 hl (by omega) (by decide), hC.2.2.2.2.2.1 x hx]
  unfold fX4_flightFrom bX4_flightFrom_37
  rw [wB h hw, ld, wB h hw, ld, ltI_e, wB h hw, ld, least_ok, least_ok, cal_ok, cal_ok]
  by_cases q : nI (te T x) = 0
  · rw [if_pos q] at ef ⊢
    rw [ef]
  · rw [if_neg q] at ef ⊢
    by_cases r : nI (te T x) &&& (-((2 : Int32) <<< (nI x &&& 31))) = 0
    · rw [if_pos r] at ef ⊢
      rw [ef]
    · rw [if_neg r] at ef ⊢
      rw [ef]
end

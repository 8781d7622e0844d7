/-! HOW A BIRD FLIES -/
def bcI (v : Int32) : Int32 :=
  let v1 := v - ((v.toUInt32 >>> ((1 : Int32).toUInt32 &&& Int32.toUInt32 31)).toInt32 &&& 1431655765)
  let v2 := (v1 &&& 858993459) + ((v1.toUInt32 >>> ((2 : Int32).toUInt32 &&& Int32.toUInt32 31)).toInt32 &&& 858993459)
  let v3 := (v2 + (v2.toUInt32 >>> ((4 : Int32).toUInt32 &&& Int32.toUInt32 31)).toInt32) &&& 252645135
  let v4 := v3 + (v3.toUInt32 >>> ((8 : Int32).toUInt32 &&& Int32.toUInt32 31)).toInt32
  let v5 := v4 + (v4.toUInt32 >>> ((16 : Int32).toUInt32 &&& Int32.toUInt32 31)).toInt32
  v5 &&& 63
theorem bitCount_ok (v : Int32) (M : Mm) : fJ6_bitCount_0f7a4 v M = some (bcI v, M) := rfl
def leastI (v : Int32) : Int32 := bcI ((v &&& (-v)) - 1)
theorem least_ok (v : Int32) (M : Mm) : fX5_least v M = some (leastI v, M) := rfl
/-- the number of places in a set -/
def cntN (S : Nat) : Nat := (S.testBit 0).toNat + (S.testBit 1).toNat + (S.testBit 2).toNat + (S.testBit 3).toNat + (S.testBit 4).toNat + (S.testBit 5).toNat + (S.testBit 6).toNat + (S.testBit 7).toNat
theorem bc_all : ∀ S, S < 256 → bcI (nI S) = nI (cntN S) := by decide +kernel
/-- the least place of a set from k on, below 8 -/
def lsN (S k : Nat) : Nat := ((List.range 8).find? (fun y => decide (k ≤ y) && S.testBit y)).getD 9
/-- where a bird flies from x, with the set S beside it -/
def flN (S x : Nat) : Nat := if S = 0 then x else if lsN S (x + 1) < 8 then lsN S (x + 1) else lsN S 0
theorem flt_all : ∀ S, S < 256 → ∀ x, x < 8 → (if nI S = 0 then nI x else if nI S &&& (-((2 : Int32) <<< (nI x &&& 31))) = 0 then leastI (nI S) else leastI (nI S &&& (-((2 : Int32) <<< (nI x &&& 31))))) = nI (flN S x) := by decide +kernel
theorem fl_lt : ∀ n, n ≤ 8 → ∀ S, S < 2 ^ n → ∀ x, x < n → flN S x < n := by decide +kernel
/-- the reference's search, from above -/
def nx1 (n S x : Nat) : Nat → Int32
  | 0 => -9
  | j + 1 => if S.testBit (n - 1 - j) ∧ x < n - 1 - j then nI (n - 1 - j) else nx1 n S x j
def nx2 (n S x : Nat) (v0 : Int32) : Nat → Int32
  | 0 => v0
  | j + 1 => if nx2 n S x v0 j = -9 ∨ nx2 n S x v0 j < nI x then (if S.testBit (n - 1 - j) then nI (n - 1 - j) else nx2 n S x v0 j) else nx2 n S x v0 j
theorem nx_all : ∀ n, n ≤ 8 → ∀ S, S < 2 ^ n → ∀ x, x < n → S.testBit x = false → (if nx2 n S x (nx1 n S x n) n = -9 then nI x else nx2 n S x (nx1 n S x n) n) = nI (flN S x) := by decide +kernel
section
variable {M : Mm} {a : Nat} {T : WT}
theorem flight_ok (h : RO M) (hw : isW a) (hC : CWd a T M) (hV : VT T) {x : Nat} (hx : x < tn T) : fX4_flightFrom a (nI x) M = some (nI (flN (te T x) x), M) := by
  have hn8 := hV.n8
  have he : te T x < 256 := pow_lt8 hn8 (hV.2.2.2.2.2.1 x hx)
  have ef := flt_all _ he x (by omega)
  have hl := (w_ln hw).2.2.1
  have ld : ∀ {α : Type} (K : Int32 → Option α), ldI M (a + 3) (nI x) K = K (nI (te T x)) := fun K => by rw [ld_w 8 hl (by omega) (by decide), hC.2.2.2.2.2.1 x hx]
  unfold fX4_flightFrom bX4_flightFrom_37
  rw [wB h hw, ld, wB h hw, ld, ltI_e, wB h hw, ld, least_ok, least_ok, cal_ok, cal_ok]
  by_cases q : nI (te T x) = 0
  · rw [if_pos q] at ef ⊢
    rw [ef]
  · rw [if_neg q] at ef ⊢
    by_cases r : nI (te T x) &&& (-((2 : Int32) <<< (nI x &&& 31))) = 0
    · rw [if_pos r] at ef ⊢
      rw [ef]
    · rw [if_neg r] at ef ⊢
      rw [ef]
theorem dn_pred {n j : Nat} (hj : j < n) (hn : n ≤ 8) : nI (n - j) - 1 = nI (n - 1 - j) := by
  obtain ⟨k, hk⟩ : ∃ k, n - j = k + 1 := ⟨n - j - 1, by omega⟩
  rw [hk, nI_pred, show n - 1 - j = k by omega]
theorem dn_step {n j : Nat} (hj : j < n) (hn : n ≤ 8) : nI (n - 1 - j) + -1 = nI (n - (j + 1)) - 1 := by
  rw [show n - (j + 1) = n - 1 - j by omega]
  generalize nI (n - 1 - j) = v
  rw [Int32.sub_eq_add_neg]
theorem next_ok (h : RO M) {f : Nat} (hW : RVd f T M) (hV : VT T) {x : Nat} (hx : x < tn T) : fX6_nextOf 93 (nI x) M = some (nI (flN (te T x) x), M) := by
  have hn8 := hV.n8
  have he := hV.2.2.2.2.2.1 x hx
  have he8 : te T x < 256 := pow_lt8 hn8 he
  have hir := hV.2.2.2.2.2.2.2.1 x hx
  have ea := nx_all _ hn8 _ he x hx hir
  have ld : ∀ {α : Type} (K : Int32 → Option α), ldI M 101 (nI x) K = K (nI (te T x)) := fun K => by rw [ld_w 8 (show ln 101 = 8 from rfl) (by omega) (by decide), hW.2.2.2.1 x hx]
  unfold fX6_nextOf bX6_nextOf_0
  rw [gfI_e, hW.1, ltI_e]
  show fnl gX6_nextOf (1, 93, nI x, -9, nI (tn T) - 1, M) = _
  have l1 : fnl gX6_nextOf (1, 93, nI x, -9, nI (tn T) - 1, M) = fnl gX6_nextOf (1, 93, nI x, nx1 (tn T) (te T x) x (tn T), nI (tn T - tn T) - 1, M) := by
    refine fnl_up (fun j => (1, 93, nI x, nx1 (tn T) (te T x) x j, nI (tn T - j) - 1, M)) (tn T) (fun j hj => ?_)
    show bX6_nextOf_10 93 (nI x) (nx1 (tn T) (te T x) x j) (nI (tn T - j) - 1) M = _
    unfold bX6_nextOf_10 bX6_nextOf_36 bX6_nextOf_37
    rw [dn_pred hj hn8, if_neg (nI_pos (by omega)), gR h 0 93 13 101 (by decide), ld, has_ok he8 (by omega), cal_ok, dn_step hj hn8]
    show _ = some (Sum.inl (1, 93, nI x, (if (te T x).testBit (tn T - 1 - j) ∧ x < tn T - 1 - j then nI (tn T - 1 - j) else nx1 (tn T) (te T x) x j), nI (tn T - (j + 1)) - 1, M))
    by_cases q : (te T x).testBit (tn T - 1 - j) = true
    · rw [if_pos q, if_neg (by decide)]
      by_cases r : x < tn T - 1 - j
      · rw [if_neg (nI_ge r (by omega)), if_pos ⟨q, r⟩]
      · rw [if_pos (nI_le (by omega) (by omega)), if_neg (fun z => r z.2)]
    · rw [if_neg q, if_pos rfl, if_neg (fun z => q z.1)]
  rw [l1]
  have l2 : fnl gX6_nextOf (1, 93, nI x, nx1 (tn T) (te T x) x (tn T), nI (tn T - tn T) - 1, M) = fnl gX6_nextOf (2, 93, nI x, nx1 (tn T) (te T x) x (tn T), nI (tn T) - 1, M) := by
    refine fnl_in ?_
    show bX6_nextOf_10 93 (nI x) (nx1 (tn T) (te T x) x (tn T)) (nI (tn T - tn T) - 1) M = _
    unfold bX6_nextOf_10
    rw [Nat.sub_self, if_pos (show nI 0 - 1 < 0 by decide), gfI_e, hW.1, ltI_e]
  rw [l2]
  generalize nx1 (tn T) (te T x) x (tn T) = v0 at ea ⊢
  have key : ∀ d j, j + d = tn T → fnl gX6_nextOf (2, 93, nI x, nx2 (tn T) (te T x) x v0 j, nI (tn T - j) - 1, M) = some (if nx2 (tn T) (te T x) x v0 (tn T) = -9 then nI x else nx2 (tn T) (te T x) x v0 (tn T), M) := by
    intro d
    induction d with
    | zero =>
      intro j hj
      have hj : j = tn T := hj
      subst hj
      refine fnl_out ?_
      show bX6_nextOf_51 93 (nI x) (nx2 (tn T) (te T x) x v0 (tn T)) (nI (tn T - tn T) - 1) M = _
      unfold bX6_nextOf_51 bX6_nextOf_91
      rw [Nat.sub_self, if_pos (show nI 0 - 1 < 0 by decide)]
      by_cases q : nx2 (tn T) (te T x) x v0 (tn T) = -9
      · rw [if_pos q, if_pos q]
      · rw [if_neg q, if_neg q]
    | succ d ih =>
      intro j hj
      have hj1 : j < tn T := by omega
      have ih := ih (j + 1) (by omega)
      by_cases q : nx2 (tn T) (te T x) x v0 j = -9 ∨ nx2 (tn T) (te T x) x v0 j < nI x
      · have e2 : nx2 (tn T) (te T x) x v0 (j + 1) = if (te T x).testBit (tn T - 1 - j) then nI (tn T - 1 - j) else nx2 (tn T) (te T x) x v0 j := by
          show (if _ then _ else _) = _
          rw [if_pos q]
        have e66 : bX6_nextOf_66 93 (nI x) (nx2 (tn T) (te T x) x v0 j) (nI (tn T - 1 - j)) M = some (.inl (2, 93, nI x, nx2 (tn T) (te T x) x v0 (j + 1), nI (tn T - (j + 1)) - 1, M)) := by
          unfold bX6_nextOf_66 bX6_nextOf_84
          rw [gR h 0 93 13 101 (by decide), ld, has_ok he8 (by omega), cal_ok, dn_step hj1 hn8, e2]
          by_cases r : (te T x).testBit (tn T - 1 - j) = true
          · rw [if_pos r, if_neg (by decide), if_pos r]
          · rw [if_neg r, if_pos rfl, if_neg r]
        refine (fnl_in ?_).trans ih
        show bX6_nextOf_51 93 (nI x) (nx2 (tn T) (te T x) x v0 j) (nI (tn T - j) - 1) M = _
        unfold bX6_nextOf_51
        rw [dn_pred hj1 hn8, if_neg (nI_pos (by omega))]
        by_cases r : nx2 (tn T) (te T x) x v0 j = -9
        · rw [if_pos r]; exact e66
        · rw [if_neg r, if_neg (Int32.not_le.mpr (q.resolve_left r))]; exact e66
      · have stay : ∀ i, j ≤ i → nx2 (tn T) (te T x) x v0 i = nx2 (tn T) (te T x) x v0 j := by
          intro i hi
          induction i with
          | zero => rw [show j = 0 by omega]
          | succ i ihi =>
            by_cases hij : j = i + 1
            · rw [hij]
            · have e := ihi (by omega)
              show (if nx2 (tn T) (te T x) x v0 i = -9 ∨ nx2 (tn T) (te T x) x v0 i < nI x then _ else nx2 (tn T) (te T x) x v0 i) = _
              rw [e, if_neg q]
        rw [stay (tn T) (by omega)]
        refine fnl_out ?_
        show bX6_nextOf_51 93 (nI x) (nx2 (tn T) (te T x) x v0 j) (nI (tn T - j) - 1) M = _
        unfold bX6_nextOf_51 bX6_nextOf_91
        rw [dn_pred hj1 hn8, if_neg (nI_pos (by omega)), if_neg (fun z => q (Or.inl z)), if_pos (Int32.not_lt.mp (fun z => q (Or.inr z))), if_neg (fun z => q (Or.inl z)), if_neg (fun z => q (Or.inl z))]
  have := key (tn T) 0 (by omega)
  rw [ea] at this
  exact this
end

/-! THE REFERENCES are where they were made (but the reader's row and the sight's sets) -/
def r93 : List Nat := [0, 94, 0, 0, 0, 95, 96, 97, 98, 99, 0, 0, 100, 101, 0, 0, 0, 0, 0, 102, 103, 104, 105, 0, 106, 0, 107, 108, 109, 110, 111, 112, 0, 113, 114, 115, 116, 0, 0, 117, 0]
def r00 : List Nat := [1, 2, 33, 3, 45, 4, 6, 9, 12, 0, 0, 0, 0]
def woff : List Nat := [0, 0, 0, 1, 2, 3, 4, 8, 9, 10, 11]
def R0 (a f : Nat) : Nat := if a = 93 then r93.getD f 0 else if a = 0 then r00.getD f 0 else if a = 1 then 13 + 2 * f else if a = 2 then 25 + 2 * f else if a = 3 then 57 + 12 * f else if a = 6 then (if f = 7 then 8 else 7) else if a = 9 then (if f = 0 then 10 else 11) else if a < 33 then a + 1 else if (a - 33) % 12 = 0 then a + woff.getD f 0 else a + 1 + f
def RO (M : Mm) : Prop := ∀ a f, ¬ (a = 4 ∧ f = 0) → ¬ (a = 6 ∧ f = 0) → M.2.2 a f = R0 a f
theorem gfR_ok {α : Type} {M : Mm} {K : Nat → Option α} (h : RO M) {k a f : Nat} (b : Nat) (hb : R0 a f = b) (hs : sh b = k) (h1 : ¬ (a = 4 ∧ f = 0)) (h2 : ¬ (a = 6 ∧ f = 0)) : gfR M k a f K = K b := by
  unfold gfR
  rw [h a f h1 h2, hb, if_pos hs]
theorem ldR_ok {α : Type} {M : Mm} {K : Nat → Option α} (h : RO M) {k a j : Nat} (b : Nat) (hj : j < ln a) (hl : ln a < 2 ^ 31) (hb : R0 a j = b) (hs : sh b = k) (h1 : ¬ (a = 4 ∧ j = 0)) (h2 : ¬ (a = 6 ∧ j = 0)) : ldR M k a (nI j) K = K b := by
  unfold ldR
  rw [nI_clamp (Nat.lt_trans hj hl), h a j h1 h2, hb, if_pos ⟨nI_in hj hl ∘ fun q => by rw [nI_clamp (Nat.lt_trans hj hl)]; exact q, hs⟩]
theorem ldI_ok {α : Type} {M : Mm} {K : Int32 → Option α} {a j : Nat} (hj : j < ln a) (hl : ln a < 2 ^ 31) : ldI M a (nI j) K = K (M.1 a j) := by
  unfold ldI
  rw [nI_clamp (Nat.lt_trans hj hl), if_pos]
  intro q
  exact nI_in hj hl (by rw [nI_clamp (Nat.lt_trans hj hl)]; exact q)
theorem stI_ok {α : Type} {M : Mm} {K : Mm → Option α} {a j : Nat} {v : Int32} (hj : j < ln a) (hl : ln a < 2 ^ 31) : stI M a (nI j) v K = K (wI M a j v) := by
  unfold stI
  rw [nI_clamp (Nat.lt_trans hj hl), if_pos]
  intro q
  exact nI_in hj hl (by rw [nI_clamp (Nat.lt_trans hj hl)]; exact q)
theorem ldS_ok {α : Type} {f : Nat → Int32} {n j : Nat} {K : Int32 → Option α} (hj : j < n) (hl : n < 2 ^ 31) : ldS f n (nI j) K = K (f j) := by
  unfold ldS
  rw [nI_clamp (Nat.lt_trans hj hl), if_pos]
  intro q
  exact nI_in hj hl (by rw [nI_clamp (Nat.lt_trans hj hl)]; exact q)
/-- a loop by its number of rounds -/
theorem fnl_up {σ ρ : Type} {g : σ → Option (σ ⊕ ρ)} (s : Nat → σ) (n : Nat) (h : ∀ k, k < n → g (s k) = some (.inl (s (k + 1)))) : fnl g (s 0) = fnl g (s n) := by
  induction n with
  | zero => rfl
  | succ n ih => rw [ih (fun k hk => h k (Nat.lt_succ_of_lt hk)), fnl_in (h n (Nat.lt_succ_self n))]
theorem fnl_loop {σ ρ : Type} {g : σ → Option (σ ⊕ ρ)} (s : Nat → σ) (n : Nat) {r : ρ} (h : ∀ k, k < n → g (s k) = some (.inl (s (k + 1)))) (hx : g (s n) = some (.inr r)) : fnl g (s 0) = some r := (fnl_up s n h).trans (fnl_out hx)
theorem wI_at {M : Mm} {a k b j : Nat} {v : Int32} : (wI M a k v).1 b j = if b = a ∧ j = k then v else M.1 b j := rfl
theorem wI_21 {M : Mm} {a k : Nat} {v : Int32} : (wI M a k v).2.1 = M.2.1 := rfl
theorem wI_22 {M : Mm} {a k : Nat} {v : Int32} : (wI M a k v).2.2 = M.2.2 := rfl
theorem wJ_1 {M : Mm} {a k : Nat} {v : Int64} : (wJ M a k v).1 = M.1 := rfl
theorem wJ_at {M : Mm} {a k b j : Nat} {v : Int64} : (wJ M a k v).2.1 b j = if b = a ∧ j = k then v else M.2.1 b j := rfl
theorem wJ_22 {M : Mm} {a k : Nat} {v : Int64} : (wJ M a k v).2.2 = M.2.2 := rfl
theorem wC_at {M : Mm} {a0 a sp dp n b j : Nat} : (wC M a0 a sp dp n).1 b j = if b = a ∧ dp ≤ j ∧ j < dp + n then M.1 a0 (sp + (j - dp)) else M.1 b j := rfl
theorem RO.wI {M : Mm} (h : RO M) (a k : Nat) (v : Int32) : RO (wI M a k v) := h
theorem RO.wJ {M : Mm} (h : RO M) (a k : Nat) (v : Int64) : RO (wJ M a k v) := h
theorem RO.wC {M : Mm} (h : RO M) (a0 a sp dp n : Nat) : RO (wC M a0 a sp dp n) := h
theorem cal_ok {α β : Type} {r : α} {M : Mm} {K : α → Mm → Option β} : cal (some (r, M)) K = K r M := rfl
/-! numbers within bounds -/
theorem i32_nat {v : Int32} (h0 : 0 ≤ v) : v = nI v.toNatClampNeg ∧ v.toNatClampNeg < 2 ^ 31 := by
  have h1 : (0 : Int) ≤ v.toInt := by simpa using Int32.le_iff_toInt_le.mp h0
  have h2 : v.toInt < 2 ^ 31 := v.toInt_lt
  have h3 : (v.toNatClampNeg : Int) = v.toInt := by
    show ((v.toInt.toNat : Nat) : Int) = v.toInt
    omega
  refine ⟨?_, by omega⟩
  apply Int32.toInt_inj.mp
  rw [nI_toInt (by omega), h3]
theorem i32_lt_nat {v : Int32} {n : Nat} (hn : n < 2 ^ 31) (h0 : 0 ≤ v) (h : v < nI n) : ∃ k, k < n ∧ v = nI k := by
  obtain ⟨e, hb⟩ := i32_nat h0
  refine ⟨v.toNatClampNeg, ?_, e⟩
  have h1 := Int32.lt_iff_toInt_lt.mp h
  rw [e, nI_toInt hb, nI_toInt hn] at h1
  omega
theorem i32_le_nat {v : Int32} {n : Nat} (hn : n < 2 ^ 31) (h0 : 0 ≤ v) (h : v ≤ nI n) : ∃ k, k ≤ n ∧ v = nI k := by
  obtain ⟨e, hb⟩ := i32_nat h0
  refine ⟨v.toNatClampNeg, ?_, e⟩
  have h1 := Int32.le_iff_toInt_le.mp h
  rw [e, nI_toInt hb, nI_toInt hn] at h1
  omega
theorem nI_inj {a b : Nat} (ha : a < 2 ^ 31) (hb : b < 2 ^ 31) (h : nI a = nI b) : a = b := by
  have := congrArg Int32.toInt h
  rw [nI_toInt ha, nI_toInt hb] at this
  omega
theorem nI_pl (a b : Nat) : nI a + nI b = nI (a + b) := (Int32.ofNat_add a b).symm
theorem nI_mul (a b : Nat) : nI a * nI b = nI (a * b) := (Int32.ofNat_mul a b).symm
theorem nI_lit (n : Nat) : (OfNat.ofNat n : Int32) = nI n := rfl

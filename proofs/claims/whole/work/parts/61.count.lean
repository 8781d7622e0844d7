/-! COUNTS -/
def sumB (p : Nat → Bool) : Nat → Nat
  | 0 => 0
  | k + 1 => sumB p k + if p k then 1 else 0
def sumN (f : Nat → Nat) : Nat → Nat
  | 0 => 0
  | k + 1 => sumN f k + f k
theorem sumB_more {p : Nat → Bool} {n : Nat} : ∀ d, (∀ y, n ≤ y → p y = false) → sumB p (n + d) = sumB p n
  | 0, _ => rfl
  | d + 1, h => by
    show sumB p (n + d) + (if p (n + d) then 1 else 0) = _
    rw [h _ (by omega), sumB_more d h]
    simp
theorem sumB_congr {p q : Nat → Bool} : ∀ {n : Nat}, (∀ y, y < n → p y = q y) → sumB p n = sumB q n
  | 0, _ => rfl
  | n + 1, h => by
    show sumB p n + _ = sumB q n + _
    rw [sumB_congr (fun y hy => h y (by omega)), h n (by omega)]
theorem cnt_sum {S n : Nat} (hn : n ≤ 8) (hS : S < 2 ^ n) : cntN S = sumB (fun y => S.testBit y) n := by
  have e : sumB (fun y => S.testBit y) (n + (8 - n)) = sumB (fun y => S.testBit y) n := sumB_more _ (fun y hy => Nat.testBit_lt_two_pow (Nat.lt_of_lt_of_le hS (Nat.pow_le_pow_right (by decide) hy)))
  rw [show n + (8 - n) = 8 by omega] at e
  rw [← e]
  have tn : ∀ b : Bool, b.toNat = if b = true then 1 else 0 := by decide
  unfold cntN
  simp only [sumB, tn, Nat.zero_add]
theorem bits_s : ∀ S, S < 256 → S ≠ 0 → (nI S &&& (nI S - 1) = nI (S &&& (S - 1))) ∧ (S &&& (S - 1)) < S ∧ cntN (S &&& (S - 1)) + 1 = cntN S := by decide +kernel
theorem bits_ok {M : Mm} {S : Nat} (hS : S < 256) : fX6_bits (nI S) M = some (nI (cntN S), M) := by
  have key : ∀ d S j, S ≤ d → S < 256 → fnl gX6_bits (1, nI j, nI S, M) = some (nI (j + cntN S), M) := by
    intro d
    induction d with
    | zero =>
      intro S j h1 h2
      have h1 : S = 0 := by omega
      subst h1
      refine fnl_out ?_
      show bX6_bits_4 (nI j) (nI 0) M = _
      rfl
    | succ d ih =>
      intro S j h1 h2
      by_cases h0 : S = 0
      · exact ih S j (by omega) h2
      · obtain ⟨b1, b2, b3⟩ := bits_s S h2 h0
        refine (fnl_in (y := (1, nI (j + 1), nI (S &&& (S - 1)), M)) ?_).trans ((ih _ _ (by omega) (by omega)).trans (by rw [show j + 1 + cntN (S &&& (S - 1)) = j + cntN S by omega]))
        show bX6_bits_4 (nI j) (nI S) M = _
        unfold bX6_bits_4
        rw [if_neg (nI_ne0 (by omega) (by omega)), ltI_e, b1, np1]
  unfold fX6_bits bX6_bits_0
  rw [fen_l]
  refine (key S S 0 (Nat.le_refl _) hS).trans (by rw [Nat.zero_add])
theorem L2 : (2 : Int32) = nI 2 := rfl
theorem L3 : (3 : Int32) = nI 3 := rfl
theorem L4 : (4 : Int32) = nI 4 := rfl
theorem L5 : (5 : Int32) = nI 5 := rfl
theorem L6 : (6 : Int32) = nI 6 := rfl
theorem L7 : (7 : Int32) = nI 7 := rfl
theorem L8 : (8 : Int32) = nI 8 := rfl
theorem L9 : (9 : Int32) = nI 9 := rfl
theorem L10 : (10 : Int32) = nI 10 := rfl
theorem L11 : (11 : Int32) = nI 11 := rfl
theorem nsub {a b c : Nat} (h : a = b + c) : nI a - nI b = nI c := by
  subst h
  rw [← nI_pl]
  generalize nI b = u
  generalize nI c = v
  rw [Int32.add_comm, Int32.add_sub_cancel]
section
variable {α : Type} {M : Mm} {k : Nat}
theorem g1s {K : Nat → Option α} (h : RO M) : gfR M 3 0 0 K = K 1 := gR h 3 0 0 1 (by decide)
theorem g2s {K : Nat → Option α} (h : RO M) : gfR M 3 0 1 K = K 2 := gR h 3 0 1 2 (by decide)
theorem g3s {K : Nat → Option α} (h : RO M) : gfR M 4 0 3 K = K 3 := gR h 4 0 3 3 (by decide)
theorem r93_108 {K : Nat → Option α} (h : RO M) : gfR M 2 93 27 K = K 108 := gR h 2 93 27 108 (by decide)
theorem r93_109 {K : Nat → Option α} (h : RO M) : gfR M 0 93 28 K = K 109 := gR h 0 93 28 109 (by decide)
theorem ldRow {K : Nat → Option α} (h : RO M) (hk : k < 6) : ldR M 12 1 (nI k) K = K (13 + 2 * k) := ldR_ok h (13 + 2 * k) hk (by decide) rfl (strip_sh k (by omega)).1 (by omega) (by omega)
theorem ldTxt {K : Nat → Option α} (h : RO M) (hk : k < 4) : ldR M 12 2 (nI k) K = K (25 + 2 * k) := ldR_ok h (25 + 2 * k) hk (by decide) rfl (strip_shT k (by omega)).1 (by omega) (by omega)
theorem kp_W (hk : k < 3) : isW (57 + 12 * k) := by unfold isW; omega
theorem ldKp {K : Nat → Option α} (h : RO M) (hk : k < 3) : ldR M 14 3 (nI k) K = K (57 + 12 * k) := ldR_ok h (57 + 12 * k) hk (by decide) rfl (w_sh (kp_W hk)) (by omega) (by omega)
theorem gStrip {K : Nat → Option α} (h : RO M) (hk : k < 6) : gfR M 0 (13 + 2 * k) 0 K = K (13 + 2 * k + 1) := gR h 0 (13 + 2 * k) 0 _ ⟨(strip_sh k (by omega)).2.2, (strip_sh k (by omega)).2.1, by omega, by omega⟩
theorem gStripT {K : Nat → Option α} (h : RO M) (hk : k < 4) : gfR M 0 (25 + 2 * k) 0 K = K (25 + 2 * k + 1) := gR h 0 (25 + 2 * k) 0 _ ⟨(strip_shT k (by omega)).2.2, (strip_shT k (by omega)).2.1, by omega, by omega⟩
variable {K : Int32 → Option α} {x : Nat}
theorem ldRow1 (hk : k < 6) (hx : x < 40) : ldI M (13 + 2 * k + 1) (nI x) K = K (M.1 (13 + 2 * k + 1) x) := ld_w 40 (strip_ln.1 k hk) hx (by decide)
theorem ldTxt1 (hk : k < 4) (hx : x < 80) : ldI M (25 + 2 * k + 1) (nI x) K = K (M.1 (25 + 2 * k + 1) x) := ld_w 80 (strip_ln.2 k hk) hx (by decide)
theorem ld95 (hx : x < 6) : ldI M 95 (nI x) K = K (M.1 95 x) := ld_w 6 rfl hx (by decide)
theorem ld96 (hx : x < 240) : ldI M 96 (nI x) K = K (M.1 96 x) := ld_w 240 rfl hx (by decide)
theorem ld98 (hx : x < 4) : ldI M 98 (nI x) K = K (M.1 98 x) := ld_w 4 rfl hx (by decide)
theorem ld99 (hx : x < 320) : ldI M 99 (nI x) K = K (M.1 99 x) := ld_w 320 rfl hx (by decide)
theorem ld108 (hx : x < 3) : ldI M 108 (nI x) K = K (M.1 108 x) := ld_w 3 rfl hx (by decide)
theorem ld109 (hx : x < 3) : ldI M 109 (nI x) K = K (M.1 109 x) := ld_w 3 rfl hx (by decide)
theorem dv2 {v : Int32} : dvI v 2 K = K (v / 2) := by
  unfold dvI
  rw [if_pos (by decide)]
end
theorem isE_ok (a : Nat) (M : Mm) : fX4_isEmpty a M = some (if M.1 a 0 = 0 then 1 else 0, M) := by
  unfold fX4_isEmpty
  rw [gfI_e]
  by_cases h : M.1 a 0 = 0
  · rw [if_pos h, if_pos h]
  · rw [if_neg h, if_neg h]
theorem row_eq {o sz ct w mx : Nat} {M : Mm} {r : Nat} (h : Row1 o sz ct w mx M r) : M.1 (o + 2 * r) 1 = M.1 sz r := by
  rcases h with h | ⟨n, h1, h2, h3, h4⟩
  · rw [h.1, h.2]
  · rw [h2, h3]
theorem kp_eq {T : WT} {M : Mm} {k : Nat} (h : Kp1 T M k) : (M.1 (57 + 12 * k) 0 = 0 ↔ M.1 108 k = 0) ∧ (M.1 (57 + 12 * k) 0 ≠ 0 → M.1 (57 + 12 * k) 2 = M.1 109 k) := by
  rcases h with h | ⟨h0, T2, h1, h2, h3, h4, h5, h6, h7⟩
  · exact ⟨by rw [h.1, h.2], fun q => absurd h.2 q⟩
  · refine ⟨?_, fun _ => by rw [h6.s, h7.1]⟩
    rw [h0, h6.n]
    exact ⟨fun q => absurd q (nI_ne0 (by omega) (by have := h1.n8; omega)), fun q => absurd q (by decide)⟩
def cntI (M : Mm) (T : WT) (w : Nat) : Int32 := if w = 0 then nI (tn T) else if w = 1 then nI (sumN (fun x => cntN (te T x)) (tn T)) / 2 else if w = 2 then nI (tb T) else if w = 3 then nI (ts T) else if w = 4 then nI (sumN (tm T 0) (tn T)) else if w = 5 then nI (sumN (tm T 1) (tn T)) else if w = 6 then nI (sumN (tm T 2) (tn T)) else if w = 7 then nI (sumB (fun r => decide (0 ≤ M.1 95 r)) 6) else if w = 8 then nI (sumB (fun r => decide (0 ≤ M.1 98 r)) 4) else if w = 9 then nI (sumB (fun k => decide (¬ M.1 108 k = 0)) 3) else nI (sumB (fun x => isK (tk T x) 2) (tn T))
section
variable {M : Mm} {a : Nat} {T : WT}
theorem pathNumber_ok (h : RO M) (hw : isW a) (hC : CWd a T M) (hV : VT T) : fX4_pathNumber a M = some (nI (sumN (fun x => cntN (te T x)) (tn T)) / 2, M) := by
  have hn8 := hV.n8
  unfold fX4_pathNumber bX4_pathNumber_0
  rw [fen_l]
  refine fnl_loop (fun k => (1, a, nI (sumN (fun x => cntN (te T x)) k), nI k, M)) (tn T) (fun k hk => ?_) ?_
  · show bX4_pathNumber_4 a (nI (sumN (fun x => cntN (te T x)) k)) (nI k) M = some (Sum.inl (1, a, nI (sumN (fun x => cntN (te T x)) k + cntN (te T k)), nI (k + 1), M))
    unfold bX4_pathNumber_4
    simp (disch := first | assumption | omega | decide) only [↓reduceIte, ↓gfI_e, ↓pfI_e, ↓gfJ_e, ↓pfJ_e, ↓ltI_e, ↓ltJ_e, ↓cal_ok, ↓rz0, ↓rz1, ↓g33, ↓g45, ↓wK, ↓wO, ↓wB, ↓wL, ↓wS, ↓wP, ↓wQ, ↓wY, ↓wL0, ↓wL1, ↓wL2, ↓r93_95, ↓r93_96, ↓r93_98, ↓r93_99, ↓r93_100, ↓r93_101, ↓r93_106, ↓r93_107, ↓ldw1, ↓ldw2, ↓ldw3, ↓ldw5, ↓ldw6, ↓ldw7, ↓ldw8, ↓ldw9, ↓ldw10, ↓ldw11, ↓ld100, ↓ld101, ↓ld106, ↓ld107, nle_F, nle_T, nlt_F, nlt_T, neq_F, neq_T, nle0_T, nle0_F, nlt0_F, n0lt_T, n0lt_F, n0le_T, n1_eq0, n0_eq0, n0_eq1, n1_eq1, np1, Bool.false_eq_true, hC.n, hC.e, bitCount_ok, bc_all _ (hV.e8 hk), nI_pl]
  · show bX4_pathNumber_4 a (nI (sumN (fun x => cntN (te T x)) (tn T))) (nI (tn T)) M = _
    unfold bX4_pathNumber_4
    simp (disch := first | assumption | omega | decide) only [↓reduceIte, ↓gfI_e, ↓pfI_e, ↓gfJ_e, ↓pfJ_e, ↓ltI_e, ↓ltJ_e, ↓cal_ok, ↓rz0, ↓rz1, ↓g33, ↓g45, ↓wK, ↓wO, ↓wB, ↓wL, ↓wS, ↓wP, ↓wQ, ↓wY, ↓wL0, ↓wL1, ↓wL2, ↓r93_95, ↓r93_96, ↓r93_98, ↓r93_99, ↓r93_100, ↓r93_101, ↓r93_106, ↓r93_107, ↓ldw1, ↓ldw2, ↓ldw3, ↓ldw5, ↓ldw6, ↓ldw7, ↓ldw8, ↓ldw9, ↓ldw10, ↓ldw11, ↓ld100, ↓ld101, ↓ld106, ↓ld107, nle_F, nle_T, nlt_F, nlt_T, neq_F, neq_T, nle0_T, nle0_F, nlt0_F, n0lt_T, n0lt_F, n0le_T, n1_eq0, n0_eq0, n0_eq1, n1_eq1, np1, Bool.false_eq_true, hC.n, dv2]
theorem pathMany_ok (h : RO M) (hW : RWd T M) (hV : VT T) : fX6_pathMany 93 M = some (nI (sumN (fun x => cntN (te T x)) (tn T)) / 2, M) := by
  have hn8 := hV.n8
  unfold fX6_pathMany bX6_pathMany_0
  rw [fen_l]
  refine fnl_loop (fun k => (1, 93, nI (sumN (fun x => cntN (te T x)) k), nI k, M)) (tn T) (fun k hk => ?_) ?_
  · show bX6_pathMany_4 93 (nI (sumN (fun x => cntN (te T x)) k)) (nI k) M = some (Sum.inl (1, 93, nI (sumN (fun x => cntN (te T x)) k + cntN (te T k)), nI (k + 1), M))
    unfold bX6_pathMany_4
    simp (disch := first | assumption | omega | decide) only [↓reduceIte, ↓gfI_e, ↓pfI_e, ↓gfJ_e, ↓pfJ_e, ↓ltI_e, ↓ltJ_e, ↓cal_ok, ↓rz0, ↓rz1, ↓g33, ↓g45, ↓wK, ↓wO, ↓wB, ↓wL, ↓wS, ↓wP, ↓wQ, ↓wY, ↓wL0, ↓wL1, ↓wL2, ↓r93_95, ↓r93_96, ↓r93_98, ↓r93_99, ↓r93_100, ↓r93_101, ↓r93_106, ↓r93_107, ↓ldw1, ↓ldw2, ↓ldw3, ↓ldw5, ↓ldw6, ↓ldw7, ↓ldw8, ↓ldw9, ↓ldw10, ↓ldw11, ↓ld100, ↓ld101, ↓ld106, ↓ld107, nle_F, nle_T, nlt_F, nlt_T, neq_F, neq_T, nle0_T, nle0_F, nlt0_F, n0lt_T, n0lt_F, n0le_T, n1_eq0, n0_eq0, n0_eq1, n1_eq1, np1, Bool.false_eq_true, hW.v.n, hW.v.e, bits_ok (hV.e8 hk), nI_pl]
  · show bX6_pathMany_4 93 (nI (sumN (fun x => cntN (te T x)) (tn T))) (nI (tn T)) M = _
    unfold bX6_pathMany_4
    simp (disch := first | assumption | omega | decide) only [↓reduceIte, ↓gfI_e, ↓pfI_e, ↓gfJ_e, ↓pfJ_e, ↓ltI_e, ↓ltJ_e, ↓cal_ok, ↓rz0, ↓rz1, ↓g33, ↓g45, ↓wK, ↓wO, ↓wB, ↓wL, ↓wS, ↓wP, ↓wQ, ↓wY, ↓wL0, ↓wL1, ↓wL2, ↓r93_95, ↓r93_96, ↓r93_98, ↓r93_99, ↓r93_100, ↓r93_101, ↓r93_106, ↓r93_107, ↓ldw1, ↓ldw2, ↓ldw3, ↓ldw5, ↓ldw6, ↓ldw7, ↓ldw8, ↓ldw9, ↓ldw10, ↓ldw11, ↓ld100, ↓ld101, ↓ld106, ↓ld107, nle_F, nle_T, nlt_F, nlt_T, neq_F, neq_T, nle0_T, nle0_F, nlt0_F, n0lt_T, n0lt_F, n0le_T, n1_eq0, n0_eq0, n0_eq1, n1_eq1, np1, Bool.false_eq_true, hW.v.n, dv2]
theorem wLn {α : Type} {K : Nat → Option α} {m : Nat} (h : RO M) (hw : isW a) (hm : m < 3) : ldR M 0 (a + 4) (nI m) K = K (a + 5 + m) := wLr h hw m rfl hm
theorem ldw5m {α : Type} {K : Int32 → Option α} {m x : Nat} (hw : isW a) (hm : m < 3) (hx : x < 8) : ldI M (a + 5 + m) (nI x) K = K (M.1 (a + 5 + m) x) := ld_w 8 ((w_ln hw).2.2.2.1 m hm) hx (by decide)
theorem CWd.m (h : CWd a T M) {m x : Nat} (hm : m < 3) (hx : x < tn T) : M.1 (a + 5 + m) x = nI (tm T m x) := h.2.2.2.2.2.2.1 m x hm hx
theorem totalOf_ok (h : RO M) (hw : isW a) (hC : CWd a T M) (hV : VT T) {m : Nat} (hm : m < 3) : fX4_totalOf a (nI m) M = some (nI (sumN (tm T m) (tn T)), M) := by
  have hn8 := hV.n8
  unfold fX4_totalOf bX4_totalOf_0
  rw [fen_l]
  refine fnl_loop (fun k => (1, a, nI m, nI (sumN (tm T m) k), nI k, M)) (tn T) (fun k hk => ?_) ?_
  · show bX4_totalOf_4 a (nI m) (nI (sumN (tm T m) k)) (nI k) M = some (Sum.inl (1, a, nI m, nI (sumN (tm T m) k + tm T m k), nI (k + 1), M))
    unfold bX4_totalOf_4
    simp (disch := first | assumption | omega | decide) only [↓reduceIte, ↓gfI_e, ↓pfI_e, ↓gfJ_e, ↓pfJ_e, ↓ltI_e, ↓ltJ_e, ↓cal_ok, ↓rz0, ↓rz1, ↓g33, ↓g45, ↓wK, ↓wO, ↓wB, ↓wL, ↓wS, ↓wP, ↓wQ, ↓wY, ↓wL0, ↓wL1, ↓wL2, ↓r93_95, ↓r93_96, ↓r93_98, ↓r93_99, ↓r93_100, ↓r93_101, ↓r93_106, ↓r93_107, ↓ldw1, ↓ldw2, ↓ldw3, ↓ldw5, ↓ldw6, ↓ldw7, ↓ldw8, ↓ldw9, ↓ldw10, ↓ldw11, ↓ld100, ↓ld101, ↓ld106, ↓ld107, nle_F, nle_T, nlt_F, nlt_T, neq_F, neq_T, nle0_T, nle0_F, nlt0_F, n0lt_T, n0lt_F, n0le_T, n1_eq0, n0_eq0, n0_eq1, n1_eq1, np1, Bool.false_eq_true, hC.n, wLn h hw hm, ldw5m hw hm, hC.m hm, nI_pl]
  · show bX4_totalOf_4 a (nI m) (nI (sumN (tm T m) (tn T))) (nI (tn T)) M = _
    unfold bX4_totalOf_4
    simp (disch := first | assumption | omega | decide) only [↓reduceIte, ↓gfI_e, ↓pfI_e, ↓gfJ_e, ↓pfJ_e, ↓ltI_e, ↓ltJ_e, ↓cal_ok, ↓rz0, ↓rz1, ↓g33, ↓g45, ↓wK, ↓wO, ↓wB, ↓wL, ↓wS, ↓wP, ↓wQ, ↓wY, ↓wL0, ↓wL1, ↓wL2, ↓r93_95, ↓r93_96, ↓r93_98, ↓r93_99, ↓r93_100, ↓r93_101, ↓r93_106, ↓r93_107, ↓ldw1, ↓ldw2, ↓ldw3, ↓ldw5, ↓ldw6, ↓ldw7, ↓ldw8, ↓ldw9, ↓ldw10, ↓ldw11, ↓ld100, ↓ld101, ↓ld106, ↓ld107, nle_F, nle_T, nlt_F, nlt_T, neq_F, neq_T, nle0_T, nle0_F, nlt0_F, n0lt_T, n0lt_F, n0le_T, n1_eq0, n0_eq0, n0_eq1, n1_eq1, np1, Bool.false_eq_true, hC.n]
theorem lying_ok (h : RO M) (hW : RWd T M) (hV : VT T) {m : Nat} (hm : m < 3) : fX6_lying 93 (nI m) M = some (nI (sumN (tm T m) (tn T)), M) := by
  have hn8 := hV.n8
  unfold fX6_lying bX6_lying_0
  rw [fen_l]
  refine fnl_loop (fun k => (1, 93, nI m, nI (sumN (tm T m) k), nI k, M)) (tn T) (fun k hk => ?_) ?_
  · show bX6_lying_4 93 (nI m) (nI (sumN (tm T m) k)) (nI k) M = some (Sum.inl (1, 93, nI m, nI (sumN (tm T m) k + tm T m k), nI (k + 1), M))
    have em := marks0_ok h m rfl hm (x := k) (by omega)
    rw [hW.2.2.2.2.2.1 m k hm hk] at em
    unfold bX6_lying_4
    simp (disch := first | assumption | omega | decide) only [↓reduceIte, ↓gfI_e, ↓pfI_e, ↓gfJ_e, ↓pfJ_e, ↓ltI_e, ↓ltJ_e, ↓cal_ok, ↓rz0, ↓rz1, ↓g33, ↓g45, ↓wK, ↓wO, ↓wB, ↓wL, ↓wS, ↓wP, ↓wQ, ↓wY, ↓wL0, ↓wL1, ↓wL2, ↓r93_95, ↓r93_96, ↓r93_98, ↓r93_99, ↓r93_100, ↓r93_101, ↓r93_106, ↓r93_107, ↓ldw1, ↓ldw2, ↓ldw3, ↓ldw5, ↓ldw6, ↓ldw7, ↓ldw8, ↓ldw9, ↓ldw10, ↓ldw11, ↓ld100, ↓ld101, ↓ld106, ↓ld107, nle_F, nle_T, nlt_F, nlt_T, neq_F, neq_T, nle0_T, nle0_F, nlt0_F, n0lt_T, n0lt_F, n0le_T, n1_eq0, n0_eq0, n0_eq1, n1_eq1, np1, Bool.false_eq_true, hW.v.n, em, nI_pl]
  · show bX6_lying_4 93 (nI m) (nI (sumN (tm T m) (tn T))) (nI (tn T)) M = _
    unfold bX6_lying_4
    simp (disch := first | assumption | omega | decide) only [↓reduceIte, ↓gfI_e, ↓pfI_e, ↓gfJ_e, ↓pfJ_e, ↓ltI_e, ↓ltJ_e, ↓cal_ok, ↓rz0, ↓rz1, ↓g33, ↓g45, ↓wK, ↓wO, ↓wB, ↓wL, ↓wS, ↓wP, ↓wQ, ↓wY, ↓wL0, ↓wL1, ↓wL2, ↓r93_95, ↓r93_96, ↓r93_98, ↓r93_99, ↓r93_100, ↓r93_101, ↓r93_106, ↓r93_107, ↓ldw1, ↓ldw2, ↓ldw3, ↓ldw5, ↓ldw6, ↓ldw7, ↓ldw8, ↓ldw9, ↓ldw10, ↓ldw11, ↓ld100, ↓ld101, ↓ld106, ↓ld107, nle_F, nle_T, nlt_F, nlt_T, neq_F, neq_T, nle0_T, nle0_F, nlt0_F, n0lt_T, n0lt_F, n0le_T, n1_eq0, n0_eq0, n0_eq1, n1_eq1, np1, Bool.false_eq_true, hW.v.n]
end
theorem miss_if (o : Nat) (M : Mm) : fX2_isMissing o M = some (if 0 ≤ M.1 o 1 then 0 else 1, M) := isMissing_ok o M
theorem thereR_ok {M : Mm} (h : RO M) (hR : ∀ r, r < 6 → M.1 (13 + 2 * r) 1 = M.1 95 r) : fX5_thereOf 1 M = some (nI (sumB (fun r => decide (0 ≤ M.1 95 r)) 6), M) := by
  unfold fX5_thereOf bX5_thereOf_0
  rw [fen_l]
  refine fnl_loop (fun k => (1, 1, nI (sumB (fun r => decide (0 ≤ M.1 95 r)) k), nI k, M)) 6 (fun k hk => ?_) ?_
  · show bX5_thereOf_4 1 (nI (sumB (fun r => decide (0 ≤ M.1 95 r)) k)) (nI k) M = some (Sum.inl (1, 1, nI (sumB (fun r => decide (0 ≤ M.1 95 r)) k + if decide (0 ≤ M.1 95 k) = true then 1 else 0), nI (k + 1), M))
    unfold bX5_thereOf_4 bX5_thereOf_22
    rw [show Int32.ofNat (ln 1) = nI 6 from rfl]
    by_cases q : 0 ≤ M.1 95 k
    · simp (disch := first | assumption | omega | decide) only [↓reduceIte, ↓gfI_e, ↓pfI_e, ↓gfJ_e, ↓pfJ_e, ↓ltI_e, ↓ltJ_e, ↓cal_ok, ↓rz0, ↓rz1, ↓g33, ↓g45, ↓wK, ↓wO, ↓wB, ↓wL, ↓wS, ↓wP, ↓wQ, ↓wY, ↓wL0, ↓wL1, ↓wL2, ↓r93_95, ↓r93_96, ↓r93_98, ↓r93_99, ↓r93_100, ↓r93_101, ↓r93_106, ↓r93_107, ↓ldw1, ↓ldw2, ↓ldw3, ↓ldw5, ↓ldw6, ↓ldw7, ↓ldw8, ↓ldw9, ↓ldw10, ↓ldw11, ↓ld100, ↓ld101, ↓ld106, ↓ld107, nle_F, nle_T, nlt_F, nlt_T, neq_F, neq_T, nle0_T, nle0_F, nlt0_F, n0lt_T, n0lt_F, n0le_T, n1_eq0, n0_eq0, n0_eq1, n1_eq1, np1, Bool.false_eq_true, ldRow, miss_if, hR, q, decide_true]
    · simp (disch := first | assumption | omega | decide) only [↓reduceIte, ↓gfI_e, ↓pfI_e, ↓gfJ_e, ↓pfJ_e, ↓ltI_e, ↓ltJ_e, ↓cal_ok, ↓rz0, ↓rz1, ↓g33, ↓g45, ↓wK, ↓wO, ↓wB, ↓wL, ↓wS, ↓wP, ↓wQ, ↓wY, ↓wL0, ↓wL1, ↓wL2, ↓r93_95, ↓r93_96, ↓r93_98, ↓r93_99, ↓r93_100, ↓r93_101, ↓r93_106, ↓r93_107, ↓ldw1, ↓ldw2, ↓ldw3, ↓ldw5, ↓ldw6, ↓ldw7, ↓ldw8, ↓ldw9, ↓ldw10, ↓ldw11, ↓ld100, ↓ld101, ↓ld106, ↓ld107, nle_F, nle_T, nlt_F, nlt_T, neq_F, neq_T, nle0_T, nle0_F, nlt0_F, n0lt_T, n0lt_F, n0le_T, n1_eq0, n0_eq0, n0_eq1, n1_eq1, np1, Bool.false_eq_true, ldRow, miss_if, hR, q, decide_false, Nat.add_zero]
  · rfl
theorem thereT_ok {M : Mm} (h : RO M) (hR : ∀ r, r < 4 → M.1 (25 + 2 * r) 1 = M.1 98 r) : fX5_thereOf 2 M = some (nI (sumB (fun r => decide (0 ≤ M.1 98 r)) 4), M) := by
  unfold fX5_thereOf bX5_thereOf_0
  rw [fen_l]
  refine fnl_loop (fun k => (1, 2, nI (sumB (fun r => decide (0 ≤ M.1 98 r)) k), nI k, M)) 4 (fun k hk => ?_) ?_
  · show bX5_thereOf_4 2 (nI (sumB (fun r => decide (0 ≤ M.1 98 r)) k)) (nI k) M = some (Sum.inl (1, 2, nI (sumB (fun r => decide (0 ≤ M.1 98 r)) k + if decide (0 ≤ M.1 98 k) = true then 1 else 0), nI (k + 1), M))
    unfold bX5_thereOf_4 bX5_thereOf_22
    rw [show Int32.ofNat (ln 2) = nI 4 from rfl]
    by_cases q : 0 ≤ M.1 98 k
    · simp (disch := first | assumption | omega | decide) only [↓reduceIte, ↓gfI_e, ↓pfI_e, ↓gfJ_e, ↓pfJ_e, ↓ltI_e, ↓ltJ_e, ↓cal_ok, ↓rz0, ↓rz1, ↓g33, ↓g45, ↓wK, ↓wO, ↓wB, ↓wL, ↓wS, ↓wP, ↓wQ, ↓wY, ↓wL0, ↓wL1, ↓wL2, ↓r93_95, ↓r93_96, ↓r93_98, ↓r93_99, ↓r93_100, ↓r93_101, ↓r93_106, ↓r93_107, ↓ldw1, ↓ldw2, ↓ldw3, ↓ldw5, ↓ldw6, ↓ldw7, ↓ldw8, ↓ldw9, ↓ldw10, ↓ldw11, ↓ld100, ↓ld101, ↓ld106, ↓ld107, nle_F, nle_T, nlt_F, nlt_T, neq_F, neq_T, nle0_T, nle0_F, nlt0_F, n0lt_T, n0lt_F, n0le_T, n1_eq0, n0_eq0, n0_eq1, n1_eq1, np1, Bool.false_eq_true, ldTxt, miss_if, hR, q, decide_true]
    · simp (disch := first | assumption | omega | decide) only [↓reduceIte, ↓gfI_e, ↓pfI_e, ↓gfJ_e, ↓pfJ_e, ↓ltI_e, ↓ltJ_e, ↓cal_ok, ↓rz0, ↓rz1, ↓g33, ↓g45, ↓wK, ↓wO, ↓wB, ↓wL, ↓wS, ↓wP, ↓wQ, ↓wY, ↓wL0, ↓wL1, ↓wL2, ↓r93_95, ↓r93_96, ↓r93_98, ↓r93_99, ↓r93_100, ↓r93_101, ↓r93_106, ↓r93_107, ↓ldw1, ↓ldw2, ↓ldw3, ↓ldw5, ↓ldw6, ↓ldw7, ↓ldw8, ↓ldw9, ↓ldw10, ↓ldw11, ↓ld100, ↓ld101, ↓ld106, ↓ld107, nle_F, nle_T, nlt_F, nlt_T, neq_F, neq_T, nle0_T, nle0_F, nlt0_F, n0lt_T, n0lt_F, n0le_T, n1_eq0, n0_eq0, n0_eq1, n1_eq1, np1, Bool.false_eq_true, ldTxt, miss_if, hR, q, decide_false, Nat.add_zero]
  · rfl
theorem keptN_ok {M : Mm} (h : RO M) (hR : ∀ k, k < 3 → (M.1 (57 + 12 * k) 0 = 0 ↔ M.1 108 k = 0)) : fX5_keptNumber 0 M = some (nI (sumB (fun k => decide (¬ M.1 108 k = 0)) 3), M) := by
  unfold fX5_keptNumber bX5_keptNumber_0
  rw [fen_l]
  refine fnl_loop (fun k => (1, 0, nI (sumB (fun k => decide (¬ M.1 108 k = 0)) k), nI k, M)) 3 (fun k hk => ?_) ?_
  · show bX5_keptNumber_4 0 (nI (sumB (fun k => decide (¬ M.1 108 k = 0)) k)) (nI k) M = some (Sum.inl (1, 0, nI (sumB (fun k => decide (¬ M.1 108 k = 0)) k + if decide (¬ M.1 108 k = 0) = true then 1 else 0), nI (k + 1), M))
    unfold bX5_keptNumber_4 bX5_keptNumber_24
    have hr := hR k hk
    by_cases q : M.1 108 k = 0
    · have q2 := hr.mpr q
      simp (disch := first | assumption | omega | decide) only [↓reduceIte, ↓gfI_e, ↓pfI_e, ↓gfJ_e, ↓pfJ_e, ↓ltI_e, ↓ltJ_e, ↓cal_ok, ↓rz0, ↓rz1, ↓g33, ↓g45, ↓wK, ↓wO, ↓wB, ↓wL, ↓wS, ↓wP, ↓wQ, ↓wY, ↓wL0, ↓wL1, ↓wL2, ↓r93_95, ↓r93_96, ↓r93_98, ↓r93_99, ↓r93_100, ↓r93_101, ↓r93_106, ↓r93_107, ↓ldw1, ↓ldw2, ↓ldw3, ↓ldw5, ↓ldw6, ↓ldw7, ↓ldw8, ↓ldw9, ↓ldw10, ↓ldw11, ↓ld100, ↓ld101, ↓ld106, ↓ld107, nle_F, nle_T, nlt_F, nlt_T, neq_F, neq_T, nle0_T, nle0_F, nlt0_F, n0lt_T, n0lt_F, n0le_T, n1_eq0, n0_eq0, n0_eq1, n1_eq1, np1, Bool.false_eq_true, L3, g3s, ldKp, isE_ok, q2, q, not_true, decide_false, Nat.add_zero]
    · have q2 : ¬ M.1 (57 + 12 * k) 0 = 0 := fun z => q (hr.mp z)
      simp (disch := first | assumption | omega | decide) only [↓reduceIte, ↓gfI_e, ↓pfI_e, ↓gfJ_e, ↓pfJ_e, ↓ltI_e, ↓ltJ_e, ↓cal_ok, ↓rz0, ↓rz1, ↓g33, ↓g45, ↓wK, ↓wO, ↓wB, ↓wL, ↓wS, ↓wP, ↓wQ, ↓wY, ↓wL0, ↓wL1, ↓wL2, ↓r93_95, ↓r93_96, ↓r93_98, ↓r93_99, ↓r93_100, ↓r93_101, ↓r93_106, ↓r93_107, ↓ldw1, ↓ldw2, ↓ldw3, ↓ldw5, ↓ldw6, ↓ldw7, ↓ldw8, ↓ldw9, ↓ldw10, ↓ldw11, ↓ld100, ↓ld101, ↓ld106, ↓ld107, nle_F, nle_T, nlt_F, nlt_T, neq_F, neq_T, nle0_T, nle0_F, nlt0_F, n0lt_T, n0lt_F, n0le_T, n1_eq0, n0_eq0, n0_eq1, n1_eq1, np1, Bool.false_eq_true, L3, g3s, ldKp, isE_ok, q2, q, not_false_eq_true, decide_true]
  · rfl

section
variable {M : Mm} {a : Nat} {T : WT}
theorem glade_ok (h : RO M) {f : Nat} (hW : RVd f T M) (hV : VT T) {x : Nat} (hx : x < tn T) : fX6_isGlade 93 (nI x) M = some (if isK (tk T x) 1 then 1 else 0, M) := by
  have hn8 := hV.n8
  have k5 := hV.k5 hx
  rw [(isK_all _ k5).2.2.2]
  unfold fX6_isGlade bX6_isGlade_20
  rw [show (1 : Int32) = nI 1 from rfl, show (4 : Int32) = nI 4 from rfl]
  by_cases q : tk T x = 1
  · simp (disch := first | assumption | omega | decide) only [↓reduceIte, ↓gfI_e, ↓pfI_e, ↓gfJ_e, ↓pfJ_e, ↓ltI_e, ↓ltJ_e, ↓cal_ok, ↓rz0, ↓rz1, ↓g33, ↓g45, ↓wK, ↓wO, ↓wB, ↓wL, ↓wS, ↓wP, ↓wQ, ↓wY, ↓wL0, ↓wL1, ↓wL2, ↓r93_95, ↓r93_96, ↓r93_98, ↓r93_99, ↓r93_100, ↓r93_101, ↓r93_106, ↓r93_107, ↓ldw1, ↓ldw2, ↓ldw3, ↓ldw5, ↓ldw6, ↓ldw7, ↓ldw8, ↓ldw9, ↓ldw10, ↓ldw11, ↓ld100, ↓ld101, ↓ld106, ↓ld107, nle_F, nle_T, nlt_F, nlt_T, neq_F, neq_T, nle0_T, nle0_F, nlt0_F, n0lt_T, n0lt_F, n0le_T, n1_eq0, n0_eq0, n0_eq1, n1_eq1, np1, hW.k, q]
    simp
  · by_cases r : tk T x = 4
    · simp (disch := first | assumption | omega | decide) only [↓reduceIte, ↓gfI_e, ↓pfI_e, ↓gfJ_e, ↓pfJ_e, ↓ltI_e, ↓ltJ_e, ↓cal_ok, ↓rz0, ↓rz1, ↓g33, ↓g45, ↓wK, ↓wO, ↓wB, ↓wL, ↓wS, ↓wP, ↓wQ, ↓wY, ↓wL0, ↓wL1, ↓wL2, ↓r93_95, ↓r93_96, ↓r93_98, ↓r93_99, ↓r93_100, ↓r93_101, ↓r93_106, ↓r93_107, ↓ldw1, ↓ldw2, ↓ldw3, ↓ldw5, ↓ldw6, ↓ldw7, ↓ldw8, ↓ldw9, ↓ldw10, ↓ldw11, ↓ld100, ↓ld101, ↓ld106, ↓ld107, nle_F, nle_T, nlt_F, nlt_T, neq_F, neq_T, nle0_T, nle0_F, nlt0_F, n0lt_T, n0lt_F, n0le_T, n1_eq0, n0_eq0, n0_eq1, n1_eq1, np1, hW.k, r]
      simp
    · simp (disch := first | assumption | omega | decide) only [↓reduceIte, ↓gfI_e, ↓pfI_e, ↓gfJ_e, ↓pfJ_e, ↓ltI_e, ↓ltJ_e, ↓cal_ok, ↓rz0, ↓rz1, ↓g33, ↓g45, ↓wK, ↓wO, ↓wB, ↓wL, ↓wS, ↓wP, ↓wQ, ↓wY, ↓wL0, ↓wL1, ↓wL2, ↓r93_95, ↓r93_96, ↓r93_98, ↓r93_99, ↓r93_100, ↓r93_101, ↓r93_106, ↓r93_107, ↓ldw1, ↓ldw2, ↓ldw3, ↓ldw5, ↓ldw6, ↓ldw7, ↓ldw8, ↓ldw9, ↓ldw10, ↓ldw11, ↓ld100, ↓ld101, ↓ld106, ↓ld107, nle_F, nle_T, nlt_F, nlt_T, neq_F, neq_T, nle0_T, nle0_F, nlt0_F, n0lt_T, n0lt_F, n0le_T, n1_eq0, n0_eq0, n0_eq1, n1_eq1, np1, hW.k]
      simp [q, r]
theorem thicket_ok (h : RO M) {f : Nat} (hW : RVd f T M) (hV : VT T) {x : Nat} (hx : x < tn T) : fX6_isThicket 93 (nI x) M = some (if isK (tk T x) 2 then 1 else 0, M) := by
  have hn8 := hV.n8
  have k5 := hV.k5 hx
  rw [(isK_all _ k5).2.1]
  unfold fX6_isThicket bX6_isThicket_20
  rw [show (2 : Int32) = nI 2 from rfl, show (5 : Int32) = nI 5 from rfl]
  by_cases q : tk T x = 2
  · simp (disch := first | assumption | omega | decide) only [↓reduceIte, ↓gfI_e, ↓pfI_e, ↓gfJ_e, ↓pfJ_e, ↓ltI_e, ↓ltJ_e, ↓cal_ok, ↓rz0, ↓rz1, ↓g33, ↓g45, ↓wK, ↓wO, ↓wB, ↓wL, ↓wS, ↓wP, ↓wQ, ↓wY, ↓wL0, ↓wL1, ↓wL2, ↓r93_95, ↓r93_96, ↓r93_98, ↓r93_99, ↓r93_100, ↓r93_101, ↓r93_106, ↓r93_107, ↓ldw1, ↓ldw2, ↓ldw3, ↓ldw5, ↓ldw6, ↓ldw7, ↓ldw8, ↓ldw9, ↓ldw10, ↓ldw11, ↓ld100, ↓ld101, ↓ld106, ↓ld107, nle_F, nle_T, nlt_F, nlt_T, neq_F, neq_T, nle0_T, nle0_F, nlt0_F, n0lt_T, n0lt_F, n0le_T, n1_eq0, n0_eq0, n0_eq1, n1_eq1, np1, hW.k, q]
    simp
  · by_cases r : tk T x = 5
    · simp (disch := first | assumption | omega | decide) only [↓reduceIte, ↓gfI_e, ↓pfI_e, ↓gfJ_e, ↓pfJ_e, ↓ltI_e, ↓ltJ_e, ↓cal_ok, ↓rz0, ↓rz1, ↓g33, ↓g45, ↓wK, ↓wO, ↓wB, ↓wL, ↓wS, ↓wP, ↓wQ, ↓wY, ↓wL0, ↓wL1, ↓wL2, ↓r93_95, ↓r93_96, ↓r93_98, ↓r93_99, ↓r93_100, ↓r93_101, ↓r93_106, ↓r93_107, ↓ldw1, ↓ldw2, ↓ldw3, ↓ldw5, ↓ldw6, ↓ldw7, ↓ldw8, ↓ldw9, ↓ldw10, ↓ldw11, ↓ld100, ↓ld101, ↓ld106, ↓ld107, nle_F, nle_T, nlt_F, nlt_T, neq_F, neq_T, nle0_T, nle0_F, nlt0_F, n0lt_T, n0lt_F, n0le_T, n1_eq0, n0_eq0, n0_eq1, n1_eq1, np1, hW.k, r]
      simp
    · simp (disch := first | assumption | omega | decide) only [↓reduceIte, ↓gfI_e, ↓pfI_e, ↓gfJ_e, ↓pfJ_e, ↓ltI_e, ↓ltJ_e, ↓cal_ok, ↓rz0, ↓rz1, ↓g33, ↓g45, ↓wK, ↓wO, ↓wB, ↓wL, ↓wS, ↓wP, ↓wQ, ↓wY, ↓wL0, ↓wL1, ↓wL2, ↓r93_95, ↓r93_96, ↓r93_98, ↓r93_99, ↓r93_100, ↓r93_101, ↓r93_106, ↓r93_107, ↓ldw1, ↓ldw2, ↓ldw3, ↓ldw5, ↓ldw6, ↓ldw7, ↓ldw8, ↓ldw9, ↓ldw10, ↓ldw11, ↓ld100, ↓ld101, ↓ld106, ↓ld107, nle_F, nle_T, nlt_F, nlt_T, neq_F, neq_T, nle0_T, nle0_F, nlt0_F, n0lt_T, n0lt_F, n0le_T, n1_eq0, n0_eq0, n0_eq1, n1_eq1, np1, hW.k]
      simp [q, r]
theorem eat_ok (h : RO M) {f : Nat} (hW : RVd f T M) (hV : VT T) {x : Nat} (hx : x < tn T) : fX6_eatSet 93 (nI x) M = some (nI (rchT T x), M) := by
  have hn8 := hV.n8
  have e8 := hV.e8 hx
  unfold fX6_eatSet bX6_eatSet_0
  rw [shl1 x (by omega), ltI_e, fen_l]
  by_cases q : isK (tk T x) 1 = true
  · have key : ∀ k, k ≤ tn T → 2 ^ x ||| setN (fun y => (te T x).testBit y && !isK (tk T y) 2) k < 256 := fun k hk => Nat.or_lt_two_pow (n := 8) (pow_lt (by omega)) (pow_lt8 (show k ≤ 8 by omega) (setN_lt _ _))
    refine (show fnl gX6_eatSet (1, 93, nI x, nI (2 ^ x), 0, M) = fnl gX6_eatSet (1, 93, nI x, nI (2 ^ x ||| setN (fun y => (te T x).testBit y && !isK (tk T y) 2) 0), nI 0, M) from by
      show _ = fnl gX6_eatSet (1, 93, nI x, nI (2 ^ x ||| 0), nI 0, M)
      rw [Nat.or_zero]
      rfl).trans ?_
    refine (fnl_loop (fun k => (1, 93, nI x, nI (2 ^ x ||| setN (fun y => (te T x).testBit y && !isK (tk T y) 2) k), nI k, M)) (tn T) (r := (nI (2 ^ x ||| setN (fun y => (te T x).testBit y && !isK (tk T y) 2) (tn T)), M)) (fun k hk => ?_) ?_).trans ?_
    · show bX6_eatSet_6 93 (nI x) (nI (2 ^ x ||| setN (fun y => (te T x).testBit y && !isK (tk T y) 2) k)) (nI k) M = some (Sum.inl (1, 93, nI x, nI (2 ^ x ||| setN (fun y => (te T x).testBit y && !isK (tk T y) 2) (k + 1)), nI (k + 1), M))
      unfold bX6_eatSet_6 bX6_eatSet_50 bX6_eatSet_51
      have e1 := has_ok (M := M) e8 (show k < 8 by omega)
      have e2 := thicket_ok h hW hV hk
      rw [setN_or, ← Nat.or_assoc, ← nI_or (2 ^ x ||| _)]
      rw [glade_ok h hW hV hx, q]
      by_cases r : (te T x).testBit k = true
      · by_cases s : isK (tk T k) 2 = true
        · rw [r] at e1
          rw [s] at e2
          simp (disch := first | assumption | omega | decide) only [↓reduceIte, ↓gfI_e, ↓pfI_e, ↓gfJ_e, ↓pfJ_e, ↓ltI_e, ↓ltJ_e, ↓cal_ok, ↓rz0, ↓rz1, ↓g33, ↓g45, ↓wK, ↓wO, ↓wB, ↓wL, ↓wS, ↓wP, ↓wQ, ↓wY, ↓wL0, ↓wL1, ↓wL2, ↓r93_95, ↓r93_96, ↓r93_98, ↓r93_99, ↓r93_100, ↓r93_101, ↓r93_106, ↓r93_107, ↓ldw1, ↓ldw2, ↓ldw3, ↓ldw5, ↓ldw6, ↓ldw7, ↓ldw8, ↓ldw9, ↓ldw10, ↓ldw11, ↓ld100, ↓ld101, ↓ld106, ↓ld107, nle_F, nle_T, nlt_F, nlt_T, neq_F, neq_T, nle0_T, nle0_F, nlt0_F, n0lt_T, n0lt_F, n0le_T, n1_eq0, n0_eq0, n0_eq1, n1_eq1, np1, hW.n, hW.e, e1, e2, r, s, Bool.not_true, Bool.and_false, Bool.false_eq_true]
          rfl
        · rw [r] at e1
          rw [show isK (tk T k) 2 = false by simpa using s] at e2 ⊢
          simp (disch := first | assumption | omega | decide) only [↓reduceIte, ↓gfI_e, ↓pfI_e, ↓gfJ_e, ↓pfJ_e, ↓ltI_e, ↓ltJ_e, ↓cal_ok, ↓rz0, ↓rz1, ↓g33, ↓g45, ↓wK, ↓wO, ↓wB, ↓wL, ↓wS, ↓wP, ↓wQ, ↓wY, ↓wL0, ↓wL1, ↓wL2, ↓r93_95, ↓r93_96, ↓r93_98, ↓r93_99, ↓r93_100, ↓r93_101, ↓r93_106, ↓r93_107, ↓ldw1, ↓ldw2, ↓ldw3, ↓ldw5, ↓ldw6, ↓ldw7, ↓ldw8, ↓ldw9, ↓ldw10, ↓ldw11, ↓ld100, ↓ld101, ↓ld106, ↓ld107, nle_F, nle_T, nlt_F, nlt_T, neq_F, neq_T, nle0_T, nle0_F, nlt0_F, n0lt_T, n0lt_F, n0le_T, n1_eq0, n0_eq0, n0_eq1, n1_eq1, np1, hW.n, hW.e, e1, e2, r, Bool.not_false, Bool.and_true, Bool.false_eq_true, shl1]
      · rw [show (te T x).testBit k = false by simpa using r] at e1 ⊢
        simp (disch := first | assumption | omega | decide) only [↓reduceIte, ↓gfI_e, ↓pfI_e, ↓gfJ_e, ↓pfJ_e, ↓ltI_e, ↓ltJ_e, ↓cal_ok, ↓rz0, ↓rz1, ↓g33, ↓g45, ↓wK, ↓wO, ↓wB, ↓wL, ↓wS, ↓wP, ↓wQ, ↓wY, ↓wL0, ↓wL1, ↓wL2, ↓r93_95, ↓r93_96, ↓r93_98, ↓r93_99, ↓r93_100, ↓r93_101, ↓r93_106, ↓r93_107, ↓ldw1, ↓ldw2, ↓ldw3, ↓ldw5, ↓ldw6, ↓ldw7, ↓ldw8, ↓ldw9, ↓ldw10, ↓ldw11, ↓ld100, ↓ld101, ↓ld106, ↓ld107, nle_F, nle_T, nlt_F, nlt_T, neq_F, neq_T, nle0_T, nle0_F, nlt0_F, n0lt_T, n0lt_F, n0le_T, n1_eq0, n0_eq0, n0_eq1, n1_eq1, np1, hW.n, hW.e, e1, Bool.false_and, Bool.false_eq_true]
        rfl
    · show bX6_eatSet_6 93 (nI x) _ (nI (tn T)) M = _
      unfold bX6_eatSet_6 bX6_eatSet_59
      simp (disch := first | assumption | omega | decide) only [↓reduceIte, ↓gfI_e, ↓pfI_e, ↓gfJ_e, ↓pfJ_e, ↓ltI_e, ↓ltJ_e, ↓cal_ok, ↓rz0, ↓rz1, ↓g33, ↓g45, ↓wK, ↓wO, ↓wB, ↓wL, ↓wS, ↓wP, ↓wQ, ↓wY, ↓wL0, ↓wL1, ↓wL2, ↓r93_95, ↓r93_96, ↓r93_98, ↓r93_99, ↓r93_100, ↓r93_101, ↓r93_106, ↓r93_107, ↓ldw1, ↓ldw2, ↓ldw3, ↓ldw5, ↓ldw6, ↓ldw7, ↓ldw8, ↓ldw9, ↓ldw10, ↓ldw11, ↓ld100, ↓ld101, ↓ld106, ↓ld107, nle_F, nle_T, nlt_F, nlt_T, neq_F, neq_T, nle0_T, nle0_F, nlt0_F, n0lt_T, n0lt_F, n0le_T, n1_eq0, n0_eq0, n0_eq1, n1_eq1, np1, hW.n]
    · congr 3
      refine set_ext (n := tn T) (Nat.or_lt_two_pow (pow_lt hx) (setN_lt _ _)) (rch_lt _ _) (fun y hy => ?_)
      unfold rchT
      rw [Nat.testBit_or, Nat.testBit_two_pow, setN_bit, setN_bit, q]
      by_cases hxy : x = y
      · simp [hy, hxy]
      · simp [hy, hxy, show ¬ y = x from fun e => hxy e.symm]
  · have q1 : isK (tk T x) 1 = false := by simpa using q
    refine fnl_out ?_
    show bX6_eatSet_6 93 (nI x) (nI (2 ^ x)) (nI 0) M = _
    unfold bX6_eatSet_6 bX6_eatSet_59
    rw [glade_ok h hW hV hx, q1]
    simp (disch := first | assumption | omega | decide) only [↓reduceIte, ↓gfI_e, ↓pfI_e, ↓gfJ_e, ↓pfJ_e, ↓ltI_e, ↓ltJ_e, ↓cal_ok, ↓rz0, ↓rz1, ↓g33, ↓g45, ↓wK, ↓wO, ↓wB, ↓wL, ↓wS, ↓wP, ↓wQ, ↓wY, ↓wL0, ↓wL1, ↓wL2, ↓r93_95, ↓r93_96, ↓r93_98, ↓r93_99, ↓r93_100, ↓r93_101, ↓r93_106, ↓r93_107, ↓ldw1, ↓ldw2, ↓ldw3, ↓ldw5, ↓ldw6, ↓ldw7, ↓ldw8, ↓ldw9, ↓ldw10, ↓ldw11, ↓ld100, ↓ld101, ↓ld106, ↓ld107, nle_F, nle_T, nlt_F, nlt_T, neq_F, neq_T, nle0_T, nle0_F, nlt0_F, n0lt_T, n0lt_F, n0le_T, n1_eq0, n0_eq0, n0_eq1, n1_eq1, np1, hW.n, Bool.false_eq_true]
    congr 4
    refine set_ext (n := tn T) (pow_lt hx) (rch_lt _ _) (fun y hy => ?_)
    unfold rchT
    rw [Nat.testBit_two_pow, setN_bit, q1]
    by_cases hxy : x = y
    · simp [hy, hxy]
    · simp [hy, hxy, show ¬ y = x from fun e => hxy e.symm]
theorem crumbs6_ok (h : RO M) {f : Nat} (hf : f < 4) (hW : RVd f T M) (hV : VT T) {S : Nat} (hS : S < 256) : fX6_crumbsOn 93 (nI f) (nI S) M = some (nI (crN T S (tn T)), M) := by
  have hn8 := hV.n8
  unfold fX6_crumbsOn bX6_crumbsOn_0
  rw [fen_l]
  refine fnl_loop (fun k => (1, 93, nI f, nI S, nI (crN T S k), nI k, M)) (tn T) (fun k hk => ?_) ?_
  · show bX6_crumbsOn_5 93 (nI f) (nI S) (nI (crN T S k)) (nI k) M = some (Sum.inl (1, 93, nI f, nI S, nI (crN T S k + if S.testBit k then tm T 0 k else 0), nI (k + 1), M))
    unfold bX6_crumbsOn_5 bX6_crumbsOn_36
    have e1 := has_ok (M := M) hS (show k < 8 by omega)
    have e2 := marks_ok h (f := f) (m := 0) (x := k) (by omega)
    rw [hW.m (by decide) hk, show nI 0 = (0 : Int32) from rfl] at e2
    by_cases q : S.testBit k = true
    · rw [q] at e1
      simp (disch := first | assumption | omega | decide) only [↓reduceIte, ↓gfI_e, ↓pfI_e, ↓gfJ_e, ↓pfJ_e, ↓ltI_e, ↓ltJ_e, ↓cal_ok, ↓rz0, ↓rz1, ↓g33, ↓g45, ↓wK, ↓wO, ↓wB, ↓wL, ↓wS, ↓wP, ↓wQ, ↓wY, ↓wL0, ↓wL1, ↓wL2, ↓r93_95, ↓r93_96, ↓r93_98, ↓r93_99, ↓r93_100, ↓r93_101, ↓r93_106, ↓r93_107, ↓ldw1, ↓ldw2, ↓ldw3, ↓ldw5, ↓ldw6, ↓ldw7, ↓ldw8, ↓ldw9, ↓ldw10, ↓ldw11, ↓ld100, ↓ld101, ↓ld106, ↓ld107, nle_F, nle_T, nlt_F, nlt_T, neq_F, neq_T, nle0_T, nle0_F, nlt0_F, n0lt_T, n0lt_F, n0le_T, n1_eq0, n0_eq0, n0_eq1, n1_eq1, np1, hW.n, e1, e2, q, nI_pl]
    · rw [show S.testBit k = false by simpa using q] at e1 ⊢
      simp (disch := first | assumption | omega | decide) only [↓reduceIte, ↓gfI_e, ↓pfI_e, ↓gfJ_e, ↓pfJ_e, ↓ltI_e, ↓ltJ_e, ↓cal_ok, ↓rz0, ↓rz1, ↓g33, ↓g45, ↓wK, ↓wO, ↓wB, ↓wL, ↓wS, ↓wP, ↓wQ, ↓wY, ↓wL0, ↓wL1, ↓wL2, ↓r93_95, ↓r93_96, ↓r93_98, ↓r93_99, ↓r93_100, ↓r93_101, ↓r93_106, ↓r93_107, ↓ldw1, ↓ldw2, ↓ldw3, ↓ldw5, ↓ldw6, ↓ldw7, ↓ldw8, ↓ldw9, ↓ldw10, ↓ldw11, ↓ld100, ↓ld101, ↓ld106, ↓ld107, nle_F, nle_T, nlt_F, nlt_T, neq_F, neq_T, nle0_T, nle0_F, nlt0_F, n0lt_T, n0lt_F, n0le_T, n1_eq0, n0_eq0, n0_eq1, n1_eq1, np1, hW.n, e1, Bool.false_eq_true, Nat.add_zero, Int32.add_zero]
  · show bX6_crumbsOn_5 93 (nI f) (nI S) (nI (crN T S (tn T))) (nI (tn T)) M = _
    unfold bX6_crumbsOn_5
    simp (disch := first | assumption | omega | decide) only [↓reduceIte, ↓gfI_e, ↓pfI_e, ↓gfJ_e, ↓pfJ_e, ↓ltI_e, ↓ltJ_e, ↓cal_ok, ↓rz0, ↓rz1, ↓g33, ↓g45, ↓wK, ↓wO, ↓wB, ↓wL, ↓wS, ↓wP, ↓wQ, ↓wY, ↓wL0, ↓wL1, ↓wL2, ↓r93_95, ↓r93_96, ↓r93_98, ↓r93_99, ↓r93_100, ↓r93_101, ↓r93_106, ↓r93_107, ↓ldw1, ↓ldw2, ↓ldw3, ↓ldw5, ↓ldw6, ↓ldw7, ↓ldw8, ↓ldw9, ↓ldw10, ↓ldw11, ↓ld100, ↓ld101, ↓ld106, ↓ld107, nle_F, nle_T, nlt_F, nlt_T, neq_F, neq_T, nle0_T, nle0_F, nlt0_F, n0lt_T, n0lt_F, n0le_T, n1_eq0, n0_eq0, n0_eq1, n1_eq1, np1, hW.n]
/-- one bird of the class -/
theorem bird5_ok (h : RO M) (hw : isW a) (hC : CWd a T M) (hV : VT T) {i e : Nat} (hi : i < tb T) (l1 l3 : Int32) : ∃ M1, bX4_passHours_12 a l1 (nI e) l3 (nI i) M = some (.inl (2, a, l1, nI (e + bdE T i), l3, nI (i + 1), M1)) ∧ CWd a (bdT T i) M1 ∧ Off (fun c _ => c = a + 5 ∨ c = a + 9) M M1 := by
  have hn8 := hV.n8
  have hb4 := hV.b4
  have hp := hV.p8 hi
  have hr8 : rchT T (tp T i) < 256 := pow_lt8 hn8 (rch_lt _ _)
  obtain ⟨M1, e1, hC1, hO1⟩ := clear_ok h hw hC hV hr8
  have h1 := hO1.ro h
  have ef := flight_ok h1 hw hC1 hV.clr (x := tp T i) hp
  have ep : M1.1 (a + 9) i = nI (tp T i) := hC1.p hi
  refine ⟨wI M1 (a + 9) i (nI (flN (te T (tp T i)) (tp T i))), ?_, hC1.setp, (hO1.mo (fun c j q => Or.inl q)).wI (Or.inr rfl)⟩
  unfold bX4_passHours_12
  simp (disch := first | assumption | omega | decide) only [↓reduceIte, ↓gfI_e, ↓pfI_e, ↓gfJ_e, ↓pfJ_e, ↓ltI_e, ↓ltJ_e, ↓cal_ok, ↓rz0, ↓rz1, ↓g33, ↓g45, ↓wK, ↓wO, ↓wB, ↓wL, ↓wS, ↓wP, ↓wQ, ↓wY, ↓wL0, ↓wL1, ↓wL2, ↓r93_95, ↓r93_96, ↓r93_98, ↓r93_99, ↓r93_100, ↓r93_101, ↓r93_106, ↓r93_107, ↓ldw1, ↓ldw2, ↓ldw3, ↓ldw5, ↓ldw6, ↓ldw7, ↓ldw8, ↓ldw9, ↓ldw10, ↓ldw11, ↓ld100, ↓ld101, ↓ld106, ↓ld107, nle_F, nle_T, nlt_F, nlt_T, neq_F, neq_T, nle0_T, nle0_F, nlt0_F, n0lt_T, n0lt_F, n0le_T, n1_eq0, n0_eq0, n0_eq1, n1_eq1, np1, hC.b, hC.p, reach_ok h hw hC hV hp, crumbs5_ok h hw hC hV hr8, e1, ep, ef, nI_pl, stw9]
  rfl
theorem hb_n (k : Nat) : tn (hbT T k) = tn T ∧ tb (hbT T k) = tb T ∧ tk (hbT T k) = tk T ∧ ts (hbT T k) = ts T ∧ te (hbT T k) = te T ∧ tz (hbT T k) = tz T ∧ tq (hbT T k) = tq T ∧ (∀ m x, m ≠ 0 → tm (hbT T k) m x = tm T m x) := by
  induction k with
  | zero => exact ⟨rfl, rfl, rfl, rfl, rfl, rfl, rfl, fun _ _ _ => rfl⟩
  | succ k ih =>
    obtain ⟨h1, h2, h3, h4, h5, h6, h7, h8⟩ := ih
    refine ⟨h1, h2, h3, h4, h5, h6, h7, fun m x hm => ?_⟩
    rw [← h8 m x hm]
    show (if m = 0 ∧ _ then _ else _) = _
    rw [if_neg (fun q => hm q.1)]
theorem VT.hb (hV : VT T) {k : Nat} (hk : k ≤ tb T) : VT (hbT T k) := by
  induction k with
  | zero => exact hV
  | succ k ih => exact VT.bd (ih (by omega)) (by rw [(hb_n k).2.1]; omega)
theorem hs_n (k : Nat) : tn (hsT T k) = tn T ∧ tb (hsT T k) = tb T ∧ tk (hsT T k) = tk T ∧ ts (hsT T k) = ts T ∧ te (hsT T k) = te T ∧ tz (hsT T k) = tz T ∧ tq (hsT T k) = tq T ∧ (∀ m x, m ≠ 0 → tm (hsT T k) m x = tm T m x) := by
  induction k with
  | zero => exact ⟨rfl, rfl, rfl, rfl, rfl, rfl, rfl, fun _ _ _ => rfl⟩
  | succ k ih =>
    obtain ⟨h1, h2, h3, h4, h5, h6, h7, h8⟩ := ih
    obtain ⟨g1, g2, g3, g4, g5, g6, g7, g8⟩ := hb_n (T := hsT T k) (tb T)
    exact ⟨g1.trans h1, g2.trans h2, g3.trans h3, g4.trans h4, g5.trans h5, g6.trans h6, g7.trans h7, fun m x hm => (g8 m x hm).trans (h8 m x hm)⟩
theorem VT.hs (hV : VT T) (k : Nat) : VT (hsT T k) := by
  induction k with
  | zero => exact hV
  | succ k ih => exact VT.hb ih (by rw [(hs_n k).2.1]; omega)
theorem pass_ok (h : RO M) (hw : isW a) (hC : CWd a T M) (hV : VT T) {n : Nat} (hn : n < 2 ^ 31) : ∃ M1, fX4_passHours a (nI n) M = some (nI (hsE T n), M1) ∧ CWd a (hsT T n) M1 ∧ Off (fun c _ => c = a + 5 ∨ c = a + 9) M M1 := by
  unfold fX4_passHours bX4_passHours_0
  rw [fen_l]
  have key : ∃ r, fnl gX4_passHours (1, a, nI n, 0, 0, 0, M) = some r ∧ (r.1 = nI (hsE T n) ∧ CWd a (hsT T n) r.2 ∧ Off (fun c _ => c = a + 5 ∨ c = a + 9) M r.2) := by
    have step : ∀ k M1, k < n → CWd a (hsT T k) M1 → Off (fun c _ => c = a + 5 ∨ c = a + 9) M M1 → ∃ M2, fnl gX4_passHours (1, a, nI n, nI (hsE T k), nI k, 0, M1) = fnl gX4_passHours (1, a, nI n, nI (hsE T (k + 1)), nI (k + 1), 0, M2) ∧ CWd a (hsT T (k + 1)) M2 ∧ Off (fun c _ => c = a + 5 ∨ c = a + 9) M M2 := by
      intro k M1 hk hC1 hO1
      have hVk := hV.hs k
      have hbk : tb (hsT T k) = tb T := (hs_n k).2.1
      have hb4 := hV.b4
      have e0 : fnl gX4_passHours (1, a, nI n, nI (hsE T k), nI k, 0, M1) = fnl gX4_passHours (2, a, nI n, nI (hsE T k), nI k, nI 0, M1) := by
        refine fnl_in ?_
        show bX4_passHours_4 a (nI n) (nI (hsE T k)) (nI k) M1 = _
        unfold bX4_passHours_4
        simp (disch := first | assumption | omega | decide) only [↓reduceIte, ↓gfI_e, ↓pfI_e, ↓gfJ_e, ↓pfJ_e, ↓ltI_e, ↓ltJ_e, ↓cal_ok, ↓rz0, ↓rz1, ↓g33, ↓g45, ↓wK, ↓wO, ↓wB, ↓wL, ↓wS, ↓wP, ↓wQ, ↓wY, ↓wL0, ↓wL1, ↓wL2, ↓r93_95, ↓r93_96, ↓r93_98, ↓r93_99, ↓r93_100, ↓r93_101, ↓r93_106, ↓r93_107, ↓ldw1, ↓ldw2, ↓ldw3, ↓ldw5, ↓ldw6, ↓ldw7, ↓ldw8, ↓ldw9, ↓ldw10, ↓ldw11, ↓ld100, ↓ld101, ↓ld106, ↓ld107, nle_F, nle_T, nlt_F, nlt_T, neq_F, neq_T, nle0_T, nle0_F, nlt0_F, n0lt_T, n0lt_F, n0le_T, n1_eq0, n0_eq0, n0_eq1, n1_eq1, np1]
        rfl
      obtain ⟨s1, e1, M2, rfl, hC2, hO2⟩ := fnl_go (g := gX4_passHours) (fun i s => ∃ M2, s = (2, a, nI n, nI (hsE T k + hbE (hsT T k) i), nI k, nI i, M2) ∧ CWd a (hbT (hsT T k) i) M2 ∧ Off (fun c _ => c = a + 5 ∨ c = a + 9) M M2) (tb T) (fun i s hi hI => by
        obtain ⟨M2, rfl, hC2, hO2⟩ := hI
        obtain ⟨M3, e3, hC3, hO3⟩ := bird5_ok (hO2.ro h) hw hC2 (hVk.hb (by omega)) (i := i) (e := hsE T k + hbE (hsT T k) i) (by rw [(hb_n i).2.1]; omega) (nI n) (nI k)
        exact ⟨_, e3, M3, by rw [Nat.add_assoc]; rfl, hC3, hO2.tr hO3⟩) (s := (2, a, nI n, nI (hsE T k), nI k, nI 0, M1)) ⟨M1, rfl, hC1, hO1⟩
      refine ⟨M2, (e0.trans e1).trans (fnl_in ?_), hC2, hO2⟩
      show bX4_passHours_12 a (nI n) _ (nI k) (nI (tb T)) M2 = _
      unfold bX4_passHours_12
      have hb2 : M2.1 a 1 = nI (tb T) := by rw [hC2.b, (hb_n (tb T)).2.1, hbk]
      simp (disch := first | assumption | omega | decide) only [↓reduceIte, ↓gfI_e, ↓pfI_e, ↓gfJ_e, ↓pfJ_e, ↓ltI_e, ↓ltJ_e, ↓cal_ok, ↓rz0, ↓rz1, ↓g33, ↓g45, ↓wK, ↓wO, ↓wB, ↓wL, ↓wS, ↓wP, ↓wQ, ↓wY, ↓wL0, ↓wL1, ↓wL2, ↓r93_95, ↓r93_96, ↓r93_98, ↓r93_99, ↓r93_100, ↓r93_101, ↓r93_106, ↓r93_107, ↓ldw1, ↓ldw2, ↓ldw3, ↓ldw5, ↓ldw6, ↓ldw7, ↓ldw8, ↓ldw9, ↓ldw10, ↓ldw11, ↓ld100, ↓ld101, ↓ld106, ↓ld107, nle_F, nle_T, nlt_F, nlt_T, neq_F, neq_T, nle0_T, nle0_F, nlt0_F, n0lt_T, n0lt_F, n0le_T, n1_eq0, n0_eq0, n0_eq1, n1_eq1, np1, hb2]
      rfl
    have all : ∀ k, k ≤ n → ∃ M1, fnl gX4_passHours (1, a, nI n, 0, 0, 0, M) = fnl gX4_passHours (1, a, nI n, nI (hsE T k), nI k, 0, M1) ∧ CWd a (hsT T k) M1 ∧ Off (fun c _ => c = a + 5 ∨ c = a + 9) M M1 := by
      intro k
      induction k with
      | zero => exact fun _ => ⟨M, rfl, hC, Off.rf⟩
      | succ k ih =>
        intro hk
        obtain ⟨M1, e1, hC1, hO1⟩ := ih (by omega)
        obtain ⟨M2, e2, hC2, hO2⟩ := step k M1 (by omega) hC1 hO1
        exact ⟨M2, e1.trans e2, hC2, hO2⟩
    obtain ⟨M1, e1, hC1, hO1⟩ := all n (Nat.le_refl _)
    refine ⟨(nI (hsE T n), M1), e1.trans (fnl_out ?_), rfl, hC1, hO1⟩
    show bX4_passHours_4 a (nI n) (nI (hsE T n)) (nI n) M1 = _
    unfold bX4_passHours_4
    simp (disch := first | assumption | omega | decide) only [↓reduceIte, ↓gfI_e, ↓pfI_e, ↓gfJ_e, ↓pfJ_e, ↓ltI_e, ↓ltJ_e, ↓cal_ok, ↓rz0, ↓rz1, ↓g33, ↓g45, ↓wK, ↓wO, ↓wB, ↓wL, ↓wS, ↓wP, ↓wQ, ↓wY, ↓wL0, ↓wL1, ↓wL2, ↓r93_95, ↓r93_96, ↓r93_98, ↓r93_99, ↓r93_100, ↓r93_101, ↓r93_106, ↓r93_107, ↓ldw1, ↓ldw2, ↓ldw3, ↓ldw5, ↓ldw6, ↓ldw7, ↓ldw8, ↓ldw9, ↓ldw10, ↓ldw11, ↓ld100, ↓ld101, ↓ld106, ↓ld107, nle_F, nle_T, nlt_F, nlt_T, neq_F, neq_T, nle0_T, nle0_F, nlt0_F, n0lt_T, n0lt_F, n0le_T, n1_eq0, n0_eq0, n0_eq1, n1_eq1, np1]
  obtain ⟨r, e, h1, h2, h3⟩ := key
  exact ⟨r.2, e.trans (by rw [← h1]), h2, h3⟩
end

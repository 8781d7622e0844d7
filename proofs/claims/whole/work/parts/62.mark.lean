/-! COUNT, MARK -/
def sB (w v : Nat) (p : Nat → Bool) (k : Nat) : Nat := if w = v then sumB p k else 0
theorem sB_0 {w v : Nat} {p : Nat → Bool} : sB w v p 0 = 0 := by
  unfold sB
  by_cases h : w = v
  · rw [if_pos h]; rfl
  · rw [if_neg h]
theorem sB_y {w v : Nat} {p : Nat → Bool} {k : Nat} (h : w = v) (hp : p k = true) : sB w v p (k + 1) = sB w v p k + 1 := by
  unfold sB
  rw [if_pos h, if_pos h]
  show sumB p k + (if p k = true then 1 else 0) = _
  rw [if_pos hp]
theorem sB_n {w v : Nat} {p : Nat → Bool} {k : Nat} (hp : w ≠ v ∨ p k = false) : sB w v p (k + 1) = sB w v p k := by
  unfold sB
  by_cases h : w = v
  · rw [if_pos h, if_pos h]
    show sumB p k + (if p k = true then 1 else 0) = _
    rw [if_neg (by rw [hp.resolve_left (fun z => z h)]; decide), Nat.add_zero]
  · rw [if_neg h, if_neg h]
section
variable {M : Mm} {T : WT} {w c : Nat}
theorem cnt1 (h : RO M) (hw : w < 11) : fnl gX6_counted (1, 93, nI w, nI c, 0, M) = fnl gX6_counted (2, 93, nI w, nI (c + sB w 7 (fun r => decide (0 ≤ M.1 95 r)) 6), 0, M) := by
  have e0 : fnl gX6_counted (1, 93, nI w, nI c, 0, M) = fnl gX6_counted (1, 93, nI w, nI (c + sB w 7 (fun r => decide (0 ≤ M.1 95 r)) 0), nI 0, M) := by
    rw [sB_0]
    rfl
  refine e0.trans ((fnl_up (g := gX6_counted) (fun k => (1, 93, nI w, nI (c + sB w 7 (fun r => decide (0 ≤ M.1 95 r)) k), nI k, M)) 6 (fun k hk => ?_)).trans (fnl_in ?_))
  · show bX6_counted_4 93 (nI w) (nI (c + sB w 7 (fun r => decide (0 ≤ M.1 95 r)) k)) (nI k) M = some (Sum.inl (1, 93, nI w, nI (c + sB w 7 (fun r => decide (0 ≤ M.1 95 r)) (k + 1)), nI (k + 1), M))
    unfold bX6_counted_4 bX6_counted_30 bX6_counted_31
    by_cases q : w = 7
    · by_cases r : M.1 95 k < 0
      · rw [sB_n (p := (fun r => decide (0 ≤ M.1 95 r))) (Or.inr (by simpa using Int32.not_le.mpr r))]
        simp (disch := first | assumption | omega | decide) only [↓reduceIte, ↓gfI_e, ↓pfI_e, ↓gfJ_e, ↓pfJ_e, ↓ltI_e, ↓ltJ_e, ↓cal_ok, ↓rz0, ↓rz1, ↓g33, ↓g45, ↓wK, ↓wO, ↓wB, ↓wL, ↓wS, ↓wP, ↓wQ, ↓wY, ↓wL0, ↓wL1, ↓wL2, ↓r93_95, ↓r93_96, ↓r93_98, ↓r93_99, ↓r93_100, ↓r93_101, ↓r93_106, ↓r93_107, ↓ldw1, ↓ldw2, ↓ldw3, ↓ldw5, ↓ldw6, ↓ldw7, ↓ldw8, ↓ldw9, ↓ldw10, ↓ldw11, ↓ld100, ↓ld101, ↓ld106, ↓ld107, nle_F, nle_T, nlt_F, nlt_T, neq_F, neq_T, nle0_T, nle0_F, nlt0_F, n0lt_T, n0lt_F, n0le_T, n1_eq0, n0_eq0, n0_eq1, n1_eq1, np1, Bool.false_eq_true, L6, L7, q, ld95, r, Int32.add_zero]
      · rw [sB_y (p := (fun r => decide (0 ≤ M.1 95 r))) q (by simpa using Int32.not_lt.mp r)]
        simp (disch := first | assumption | omega | decide) only [↓reduceIte, ↓gfI_e, ↓pfI_e, ↓gfJ_e, ↓pfJ_e, ↓ltI_e, ↓ltJ_e, ↓cal_ok, ↓rz0, ↓rz1, ↓g33, ↓g45, ↓wK, ↓wO, ↓wB, ↓wL, ↓wS, ↓wP, ↓wQ, ↓wY, ↓wL0, ↓wL1, ↓wL2, ↓r93_95, ↓r93_96, ↓r93_98, ↓r93_99, ↓r93_100, ↓r93_101, ↓r93_106, ↓r93_107, ↓ldw1, ↓ldw2, ↓ldw3, ↓ldw5, ↓ldw6, ↓ldw7, ↓ldw8, ↓ldw9, ↓ldw10, ↓ldw11, ↓ld100, ↓ld101, ↓ld106, ↓ld107, nle_F, nle_T, nlt_F, nlt_T, neq_F, neq_T, nle0_T, nle0_F, nlt0_F, n0lt_T, n0lt_F, n0le_T, n1_eq0, n0_eq0, n0_eq1, n1_eq1, np1, Bool.false_eq_true, L6, L7, q, ld95, r]
        rw [Nat.add_assoc]
    · rw [sB_n (p := (fun r => decide (0 ≤ M.1 95 r))) (Or.inl q)]
      simp (disch := first | assumption | omega | decide) only [↓reduceIte, ↓gfI_e, ↓pfI_e, ↓gfJ_e, ↓pfJ_e, ↓ltI_e, ↓ltJ_e, ↓cal_ok, ↓rz0, ↓rz1, ↓g33, ↓g45, ↓wK, ↓wO, ↓wB, ↓wL, ↓wS, ↓wP, ↓wQ, ↓wY, ↓wL0, ↓wL1, ↓wL2, ↓r93_95, ↓r93_96, ↓r93_98, ↓r93_99, ↓r93_100, ↓r93_101, ↓r93_106, ↓r93_107, ↓ldw1, ↓ldw2, ↓ldw3, ↓ldw5, ↓ldw6, ↓ldw7, ↓ldw8, ↓ldw9, ↓ldw10, ↓ldw11, ↓ld100, ↓ld101, ↓ld106, ↓ld107, nle_F, nle_T, nlt_F, nlt_T, neq_F, neq_T, nle0_T, nle0_F, nlt0_F, n0lt_T, n0lt_F, n0le_T, n1_eq0, n0_eq0, n0_eq1, n1_eq1, np1, Bool.false_eq_true, L6, L7, q, Int32.add_zero]
  · show bX6_counted_4 93 (nI w) _ (nI 6) M = _
    unfold bX6_counted_4
    simp (disch := first | assumption | omega | decide) only [↓reduceIte, ↓gfI_e, ↓pfI_e, ↓gfJ_e, ↓pfJ_e, ↓ltI_e, ↓ltJ_e, ↓cal_ok, ↓rz0, ↓rz1, ↓g33, ↓g45, ↓wK, ↓wO, ↓wB, ↓wL, ↓wS, ↓wP, ↓wQ, ↓wY, ↓wL0, ↓wL1, ↓wL2, ↓r93_95, ↓r93_96, ↓r93_98, ↓r93_99, ↓r93_100, ↓r93_101, ↓r93_106, ↓r93_107, ↓ldw1, ↓ldw2, ↓ldw3, ↓ldw5, ↓ldw6, ↓ldw7, ↓ldw8, ↓ldw9, ↓ldw10, ↓ldw11, ↓ld100, ↓ld101, ↓ld106, ↓ld107, nle_F, nle_T, nlt_F, nlt_T, neq_F, neq_T, nle0_T, nle0_F, nlt0_F, n0lt_T, n0lt_F, n0le_T, n1_eq0, n0_eq0, n0_eq1, n1_eq1, np1, Bool.false_eq_true, L6]
theorem cnt2 (h : RO M) (hw : w < 11) : fnl gX6_counted (2, 93, nI w, nI c, 0, M) = fnl gX6_counted (3, 93, nI w, nI (c + sB w 8 (fun r => decide (0 ≤ M.1 98 r)) 4), 0, M) := by
  have e0 : fnl gX6_counted (2, 93, nI w, nI c, 0, M) = fnl gX6_counted (2, 93, nI w, nI (c + sB w 8 (fun r => decide (0 ≤ M.1 98 r)) 0), nI 0, M) := by
    rw [sB_0]
    rfl
  refine e0.trans ((fnl_up (g := gX6_counted) (fun k => (2, 93, nI w, nI (c + sB w 8 (fun r => decide (0 ≤ M.1 98 r)) k), nI k, M)) 4 (fun k hk => ?_)).trans (fnl_in ?_))
  · show bX6_counted_41 93 (nI w) (nI (c + sB w 8 (fun r => decide (0 ≤ M.1 98 r)) k)) (nI k) M = some (Sum.inl (2, 93, nI w, nI (c + sB w 8 (fun r => decide (0 ≤ M.1 98 r)) (k + 1)), nI (k + 1), M))
    unfold bX6_counted_41 bX6_counted_66 bX6_counted_67
    by_cases q : w = 8
    · by_cases r : M.1 98 k < 0
      · rw [sB_n (p := (fun r => decide (0 ≤ M.1 98 r))) (Or.inr (by simpa using Int32.not_le.mpr r))]
        simp (disch := first | assumption | omega | decide) only [↓reduceIte, ↓gfI_e, ↓pfI_e, ↓gfJ_e, ↓pfJ_e, ↓ltI_e, ↓ltJ_e, ↓cal_ok, ↓rz0, ↓rz1, ↓g33, ↓g45, ↓wK, ↓wO, ↓wB, ↓wL, ↓wS, ↓wP, ↓wQ, ↓wY, ↓wL0, ↓wL1, ↓wL2, ↓r93_95, ↓r93_96, ↓r93_98, ↓r93_99, ↓r93_100, ↓r93_101, ↓r93_106, ↓r93_107, ↓ldw1, ↓ldw2, ↓ldw3, ↓ldw5, ↓ldw6, ↓ldw7, ↓ldw8, ↓ldw9, ↓ldw10, ↓ldw11, ↓ld100, ↓ld101, ↓ld106, ↓ld107, nle_F, nle_T, nlt_F, nlt_T, neq_F, neq_T, nle0_T, nle0_F, nlt0_F, n0lt_T, n0lt_F, n0le_T, n1_eq0, n0_eq0, n0_eq1, n1_eq1, np1, Bool.false_eq_true, L4, L8, q, ld98, r, Int32.add_zero]
      · rw [sB_y (p := (fun r => decide (0 ≤ M.1 98 r))) q (by simpa using Int32.not_lt.mp r)]
        simp (disch := first | assumption | omega | decide) only [↓reduceIte, ↓gfI_e, ↓pfI_e, ↓gfJ_e, ↓pfJ_e, ↓ltI_e, ↓ltJ_e, ↓cal_ok, ↓rz0, ↓rz1, ↓g33, ↓g45, ↓wK, ↓wO, ↓wB, ↓wL, ↓wS, ↓wP, ↓wQ, ↓wY, ↓wL0, ↓wL1, ↓wL2, ↓r93_95, ↓r93_96, ↓r93_98, ↓r93_99, ↓r93_100, ↓r93_101, ↓r93_106, ↓r93_107, ↓ldw1, ↓ldw2, ↓ldw3, ↓ldw5, ↓ldw6, ↓ldw7, ↓ldw8, ↓ldw9, ↓ldw10, ↓ldw11, ↓ld100, ↓ld101, ↓ld106, ↓ld107, nle_F, nle_T, nlt_F, nlt_T, neq_F, neq_T, nle0_T, nle0_F, nlt0_F, n0lt_T, n0lt_F, n0le_T, n1_eq0, n0_eq0, n0_eq1, n1_eq1, np1, Bool.false_eq_true, L4, L8, q, ld98, r]
        rw [Nat.add_assoc]
    · rw [sB_n (p := (fun r => decide (0 ≤ M.1 98 r))) (Or.inl q)]
      simp (disch := first | assumption | omega | decide) only [↓reduceIte, ↓gfI_e, ↓pfI_e, ↓gfJ_e, ↓pfJ_e, ↓ltI_e, ↓ltJ_e, ↓cal_ok, ↓rz0, ↓rz1, ↓g33, ↓g45, ↓wK, ↓wO, ↓wB, ↓wL, ↓wS, ↓wP, ↓wQ, ↓wY, ↓wL0, ↓wL1, ↓wL2, ↓r93_95, ↓r93_96, ↓r93_98, ↓r93_99, ↓r93_100, ↓r93_101, ↓r93_106, ↓r93_107, ↓ldw1, ↓ldw2, ↓ldw3, ↓ldw5, ↓ldw6, ↓ldw7, ↓ldw8, ↓ldw9, ↓ldw10, ↓ldw11, ↓ld100, ↓ld101, ↓ld106, ↓ld107, nle_F, nle_T, nlt_F, nlt_T, neq_F, neq_T, nle0_T, nle0_F, nlt0_F, n0lt_T, n0lt_F, n0le_T, n1_eq0, n0_eq0, n0_eq1, n1_eq1, np1, Bool.false_eq_true, L4, L8, q, Int32.add_zero]
  · show bX6_counted_41 93 (nI w) _ (nI 4) M = _
    unfold bX6_counted_41
    simp (disch := first | assumption | omega | decide) only [↓reduceIte, ↓gfI_e, ↓pfI_e, ↓gfJ_e, ↓pfJ_e, ↓ltI_e, ↓ltJ_e, ↓cal_ok, ↓rz0, ↓rz1, ↓g33, ↓g45, ↓wK, ↓wO, ↓wB, ↓wL, ↓wS, ↓wP, ↓wQ, ↓wY, ↓wL0, ↓wL1, ↓wL2, ↓r93_95, ↓r93_96, ↓r93_98, ↓r93_99, ↓r93_100, ↓r93_101, ↓r93_106, ↓r93_107, ↓ldw1, ↓ldw2, ↓ldw3, ↓ldw5, ↓ldw6, ↓ldw7, ↓ldw8, ↓ldw9, ↓ldw10, ↓ldw11, ↓ld100, ↓ld101, ↓ld106, ↓ld107, nle_F, nle_T, nlt_F, nlt_T, neq_F, neq_T, nle0_T, nle0_F, nlt0_F, n0lt_T, n0lt_F, n0le_T, n1_eq0, n0_eq0, n0_eq1, n1_eq1, np1, Bool.false_eq_true, L4]
theorem cnt3 (h : RO M) (hw : w < 11) : fnl gX6_counted (3, 93, nI w, nI c, 0, M) = fnl gX6_counted (4, 93, nI w, nI (c + sB w 9 (fun k => decide (¬ M.1 108 k = 0)) 3), 0, M) := by
  have e0 : fnl gX6_counted (3, 93, nI w, nI c, 0, M) = fnl gX6_counted (3, 93, nI w, nI (c + sB w 9 (fun k => decide (¬ M.1 108 k = 0)) 0), nI 0, M) := by
    rw [sB_0]
    rfl
  refine e0.trans ((fnl_up (g := gX6_counted) (fun k => (3, 93, nI w, nI (c + sB w 9 (fun k => decide (¬ M.1 108 k = 0)) k), nI k, M)) 3 (fun k hk => ?_)).trans (fnl_in ?_))
  · show bX6_counted_77 93 (nI w) (nI (c + sB w 9 (fun k => decide (¬ M.1 108 k = 0)) k)) (nI k) M = some (Sum.inl (3, 93, nI w, nI (c + sB w 9 (fun k => decide (¬ M.1 108 k = 0)) (k + 1)), nI (k + 1), M))
    unfold bX6_counted_77 bX6_counted_102 bX6_counted_103
    by_cases q : w = 9
    · by_cases r : M.1 108 k = 0
      · rw [sB_n (p := (fun k => decide (¬ M.1 108 k = 0))) (Or.inr (by simpa using r))]
        simp (disch := first | assumption | omega | decide) only [↓reduceIte, ↓gfI_e, ↓pfI_e, ↓gfJ_e, ↓pfJ_e, ↓ltI_e, ↓ltJ_e, ↓cal_ok, ↓rz0, ↓rz1, ↓g33, ↓g45, ↓wK, ↓wO, ↓wB, ↓wL, ↓wS, ↓wP, ↓wQ, ↓wY, ↓wL0, ↓wL1, ↓wL2, ↓r93_95, ↓r93_96, ↓r93_98, ↓r93_99, ↓r93_100, ↓r93_101, ↓r93_106, ↓r93_107, ↓ldw1, ↓ldw2, ↓ldw3, ↓ldw5, ↓ldw6, ↓ldw7, ↓ldw8, ↓ldw9, ↓ldw10, ↓ldw11, ↓ld100, ↓ld101, ↓ld106, ↓ld107, nle_F, nle_T, nlt_F, nlt_T, neq_F, neq_T, nle0_T, nle0_F, nlt0_F, n0lt_T, n0lt_F, n0le_T, n1_eq0, n0_eq0, n0_eq1, n1_eq1, np1, Bool.false_eq_true, L3, L9, q, ld108, r93_108, r, Int32.add_zero]
      · rw [sB_y (p := (fun k => decide (¬ M.1 108 k = 0))) q (by simpa using r)]
        simp (disch := first | assumption | omega | decide) only [↓reduceIte, ↓gfI_e, ↓pfI_e, ↓gfJ_e, ↓pfJ_e, ↓ltI_e, ↓ltJ_e, ↓cal_ok, ↓rz0, ↓rz1, ↓g33, ↓g45, ↓wK, ↓wO, ↓wB, ↓wL, ↓wS, ↓wP, ↓wQ, ↓wY, ↓wL0, ↓wL1, ↓wL2, ↓r93_95, ↓r93_96, ↓r93_98, ↓r93_99, ↓r93_100, ↓r93_101, ↓r93_106, ↓r93_107, ↓ldw1, ↓ldw2, ↓ldw3, ↓ldw5, ↓ldw6, ↓ldw7, ↓ldw8, ↓ldw9, ↓ldw10, ↓ldw11, ↓ld100, ↓ld101, ↓ld106, ↓ld107, nle_F, nle_T, nlt_F, nlt_T, neq_F, neq_T, nle0_T, nle0_F, nlt0_F, n0lt_T, n0lt_F, n0le_T, n1_eq0, n0_eq0, n0_eq1, n1_eq1, np1, Bool.false_eq_true, L3, L9, q, ld108, r93_108, r]
        rw [Nat.add_assoc]
    · rw [sB_n (p := (fun k => decide (¬ M.1 108 k = 0))) (Or.inl q)]
      simp (disch := first | assumption | omega | decide) only [↓reduceIte, ↓gfI_e, ↓pfI_e, ↓gfJ_e, ↓pfJ_e, ↓ltI_e, ↓ltJ_e, ↓cal_ok, ↓rz0, ↓rz1, ↓g33, ↓g45, ↓wK, ↓wO, ↓wB, ↓wL, ↓wS, ↓wP, ↓wQ, ↓wY, ↓wL0, ↓wL1, ↓wL2, ↓r93_95, ↓r93_96, ↓r93_98, ↓r93_99, ↓r93_100, ↓r93_101, ↓r93_106, ↓r93_107, ↓ldw1, ↓ldw2, ↓ldw3, ↓ldw5, ↓ldw6, ↓ldw7, ↓ldw8, ↓ldw9, ↓ldw10, ↓ldw11, ↓ld100, ↓ld101, ↓ld106, ↓ld107, nle_F, nle_T, nlt_F, nlt_T, neq_F, neq_T, nle0_T, nle0_F, nlt0_F, n0lt_T, n0lt_F, n0le_T, n1_eq0, n0_eq0, n0_eq1, n1_eq1, np1, Bool.false_eq_true, L3, L9, q, Int32.add_zero]
  · show bX6_counted_77 93 (nI w) _ (nI 3) M = _
    unfold bX6_counted_77
    simp (disch := first | assumption | omega | decide) only [↓reduceIte, ↓gfI_e, ↓pfI_e, ↓gfJ_e, ↓pfJ_e, ↓ltI_e, ↓ltJ_e, ↓cal_ok, ↓rz0, ↓rz1, ↓g33, ↓g45, ↓wK, ↓wO, ↓wB, ↓wL, ↓wS, ↓wP, ↓wQ, ↓wY, ↓wL0, ↓wL1, ↓wL2, ↓r93_95, ↓r93_96, ↓r93_98, ↓r93_99, ↓r93_100, ↓r93_101, ↓r93_106, ↓r93_107, ↓ldw1, ↓ldw2, ↓ldw3, ↓ldw5, ↓ldw6, ↓ldw7, ↓ldw8, ↓ldw9, ↓ldw10, ↓ldw11, ↓ld100, ↓ld101, ↓ld106, ↓ld107, nle_F, nle_T, nlt_F, nlt_T, neq_F, neq_T, nle0_T, nle0_F, nlt0_F, n0lt_T, n0lt_F, n0le_T, n1_eq0, n0_eq0, n0_eq1, n1_eq1, np1, Bool.false_eq_true, L3]
theorem cnt4 (h : RO M) (hW : RWd T M) (hV : VT T) (hw : w < 11) : fnl gX6_counted (4, 93, nI w, nI c, 0, M) = fnl gX6_counted (4, 93, nI w, nI (c + sB w 10 (fun x => isK (tk T x) 2) (tn T)), nI (tn T), M) := by
  have hn8 := hV.n8
  have e0 : fnl gX6_counted (4, 93, nI w, nI c, 0, M) = fnl gX6_counted (4, 93, nI w, nI (c + sB w 10 (fun x => isK (tk T x) 2) 0), nI 0, M) := by
    rw [sB_0]
    rfl
  refine e0.trans (fnl_up (g := gX6_counted) (fun k => (4, 93, nI w, nI (c + sB w 10 (fun x => isK (tk T x) 2) k), nI k, M)) (tn T) (fun k hk => ?_))
  show bX6_counted_113 93 (nI w) (nI (c + sB w 10 (fun x => isK (tk T x) 2) k)) (nI k) M = some (Sum.inl (4, 93, nI w, nI (c + sB w 10 (fun x => isK (tk T x) 2) (k + 1)), nI (k + 1), M))
  unfold bX6_counted_113 bX6_counted_140 bX6_counted_141
  have et := thicket_ok h hW.v hV hk
  by_cases q : w = 10
  · by_cases r : isK (tk T k) 2 = true
    · rw [r] at et
      rw [sB_y (p := (fun x => isK (tk T x) 2)) q r]
      simp (disch := first | assumption | omega | decide) only [↓reduceIte, ↓gfI_e, ↓pfI_e, ↓gfJ_e, ↓pfJ_e, ↓ltI_e, ↓ltJ_e, ↓cal_ok, ↓rz0, ↓rz1, ↓g33, ↓g45, ↓wK, ↓wO, ↓wB, ↓wL, ↓wS, ↓wP, ↓wQ, ↓wY, ↓wL0, ↓wL1, ↓wL2, ↓r93_95, ↓r93_96, ↓r93_98, ↓r93_99, ↓r93_100, ↓r93_101, ↓r93_106, ↓r93_107, ↓ldw1, ↓ldw2, ↓ldw3, ↓ldw5, ↓ldw6, ↓ldw7, ↓ldw8, ↓ldw9, ↓ldw10, ↓ldw11, ↓ld100, ↓ld101, ↓ld106, ↓ld107, nle_F, nle_T, nlt_F, nlt_T, neq_F, neq_T, nle0_T, nle0_F, nlt0_F, n0lt_T, n0lt_F, n0le_T, n1_eq0, n0_eq0, n0_eq1, n1_eq1, np1, Bool.false_eq_true, hW.v.n, L10, q, et]
      rw [Nat.add_assoc]
    · rw [show isK (tk T k) 2 = false by simpa using r] at et
      rw [sB_n (p := (fun x => isK (tk T x) 2)) (Or.inr (by simpa using r))]
      simp (disch := first | assumption | omega | decide) only [↓reduceIte, ↓gfI_e, ↓pfI_e, ↓gfJ_e, ↓pfJ_e, ↓ltI_e, ↓ltJ_e, ↓cal_ok, ↓rz0, ↓rz1, ↓g33, ↓g45, ↓wK, ↓wO, ↓wB, ↓wL, ↓wS, ↓wP, ↓wQ, ↓wY, ↓wL0, ↓wL1, ↓wL2, ↓r93_95, ↓r93_96, ↓r93_98, ↓r93_99, ↓r93_100, ↓r93_101, ↓r93_106, ↓r93_107, ↓ldw1, ↓ldw2, ↓ldw3, ↓ldw5, ↓ldw6, ↓ldw7, ↓ldw8, ↓ldw9, ↓ldw10, ↓ldw11, ↓ld100, ↓ld101, ↓ld106, ↓ld107, nle_F, nle_T, nlt_F, nlt_T, neq_F, neq_T, nle0_T, nle0_F, nlt0_F, n0lt_T, n0lt_F, n0le_T, n1_eq0, n0_eq0, n0_eq1, n1_eq1, np1, Bool.false_eq_true, hW.v.n, L10, q, et, Int32.add_zero]
  · rw [sB_n (p := (fun x => isK (tk T x) 2)) (Or.inl q)]
    simp (disch := first | assumption | omega | decide) only [↓reduceIte, ↓gfI_e, ↓pfI_e, ↓gfJ_e, ↓pfJ_e, ↓ltI_e, ↓ltJ_e, ↓cal_ok, ↓rz0, ↓rz1, ↓g33, ↓g45, ↓wK, ↓wO, ↓wB, ↓wL, ↓wS, ↓wP, ↓wQ, ↓wY, ↓wL0, ↓wL1, ↓wL2, ↓r93_95, ↓r93_96, ↓r93_98, ↓r93_99, ↓r93_100, ↓r93_101, ↓r93_106, ↓r93_107, ↓ldw1, ↓ldw2, ↓ldw3, ↓ldw5, ↓ldw6, ↓ldw7, ↓ldw8, ↓ldw9, ↓ldw10, ↓ldw11, ↓ld100, ↓ld101, ↓ld106, ↓ld107, nle_F, nle_T, nlt_F, nlt_T, neq_F, neq_T, nle0_T, nle0_F, nlt0_F, n0lt_T, n0lt_F, n0le_T, n1_eq0, n0_eq0, n0_eq1, n1_eq1, np1, Bool.false_eq_true, hW.v.n, L10, q, Int32.add_zero]
theorem counted_ok (h : RO M) (hW : RWd T M) (hV : VT T) (hw : w < 11) : fX6_counted 93 (nI w) M = some (cntI M T w, M) := by
  have hn8 := hV.n8
  unfold fX6_counted bX6_counted_0
  rw [fen_l]
  refine (cnt1 (c := 0) h hw).trans ((cnt2 h hw).trans ((cnt3 h hw).trans ((cnt4 h hW hV hw).trans (fnl_out ?_))))
  show bX6_counted_113 93 (nI w) _ (nI (tn T)) M = _
  unfold bX6_counted_113
  match w, hw with
  | 0, _ => rw [gfI_e, hW.v.n, if_pos (nI_le (Nat.le_refl _) (by omega)), if_pos (show nI 0 = 0 from rfl), gfI_e, hW.v.n]; rfl
  | 1, _ => rw [gfI_e, hW.v.n, if_pos (nI_le (Nat.le_refl _) (by omega)), if_neg (show ¬ nI 1 = 0 by decide), if_pos (show nI 1 = 1 from rfl), pathMany_ok h hW hV]; rfl
  | 2, _ => rw [gfI_e, hW.v.n, if_pos (nI_le (Nat.le_refl _) (by omega)), if_neg (show ¬ nI 2 = 0 by decide), if_neg (show ¬ nI 2 = 1 by decide), if_pos (show nI 2 = 2 from rfl), gfI_e, hW.v.b]; rfl
  | 3, _ => rw [gfI_e, hW.v.n, if_pos (nI_le (Nat.le_refl _) (by omega)), if_neg (show ¬ nI 3 = 0 by decide), if_neg (show ¬ nI 3 = 1 by decide), if_neg (show ¬ nI 3 = 2 by decide), if_pos (show nI 3 = 3 from rfl), gfI_e, hW.2.2.1]; rfl
  | 4, _ => rw [gfI_e, hW.v.n, if_pos (nI_le (Nat.le_refl _) (by omega)), if_neg (show ¬ nI 4 = 0 by decide), if_neg (show ¬ nI 4 = 1 by decide), if_neg (show ¬ nI 4 = 2 by decide), if_neg (show ¬ nI 4 = 3 by decide), if_pos (show nI 4 = 4 from rfl), show nI 4 - 4 = nI 0 by decide, lying_ok h hW hV (by decide)]; rfl
  | 5, _ => rw [gfI_e, hW.v.n, if_pos (nI_le (Nat.le_refl _) (by omega)), if_neg (show ¬ nI 5 = 0 by decide), if_neg (show ¬ nI 5 = 1 by decide), if_neg (show ¬ nI 5 = 2 by decide), if_neg (show ¬ nI 5 = 3 by decide), if_neg (show ¬ nI 5 = 4 by decide), if_pos (show nI 5 = 5 from rfl), show nI 5 - 4 = nI 1 by decide, lying_ok h hW hV (by decide)]; rfl
  | 6, _ => rw [gfI_e, hW.v.n, if_pos (nI_le (Nat.le_refl _) (by omega)), if_neg (show ¬ nI 6 = 0 by decide), if_neg (show ¬ nI 6 = 1 by decide), if_neg (show ¬ nI 6 = 2 by decide), if_neg (show ¬ nI 6 = 3 by decide), if_neg (show ¬ nI 6 = 4 by decide), if_neg (show ¬ nI 6 = 5 by decide), if_pos (show nI 6 = 6 from rfl), show nI 6 - 4 = nI 2 by decide, lying_ok h hW hV (by decide)]; rfl
  | 7, _ => rw [gfI_e, hW.v.n, if_pos (nI_le (Nat.le_refl _) (by omega)), if_neg (show ¬ nI 7 = 0 by decide), if_neg (show ¬ nI 7 = 1 by decide), if_neg (show ¬ nI 7 = 2 by decide), if_neg (show ¬ nI 7 = 3 by decide), if_neg (show ¬ nI 7 = 4 by decide), if_neg (show ¬ nI 7 = 5 by decide), if_neg (show ¬ nI 7 = 6 by decide)]; simp [sB, cntI]
  | 8, _ => rw [gfI_e, hW.v.n, if_pos (nI_le (Nat.le_refl _) (by omega)), if_neg (show ¬ nI 8 = 0 by decide), if_neg (show ¬ nI 8 = 1 by decide), if_neg (show ¬ nI 8 = 2 by decide), if_neg (show ¬ nI 8 = 3 by decide), if_neg (show ¬ nI 8 = 4 by decide), if_neg (show ¬ nI 8 = 5 by decide), if_neg (show ¬ nI 8 = 6 by decide)]; simp [sB, cntI]
  | 9, _ => rw [gfI_e, hW.v.n, if_pos (nI_le (Nat.le_refl _) (by omega)), if_neg (show ¬ nI 9 = 0 by decide), if_neg (show ¬ nI 9 = 1 by decide), if_neg (show ¬ nI 9 = 2 by decide), if_neg (show ¬ nI 9 = 3 by decide), if_neg (show ¬ nI 9 = 4 by decide), if_neg (show ¬ nI 9 = 5 by decide), if_neg (show ¬ nI 9 = 6 by decide)]; simp [sB, cntI]
  | 10, _ => rw [gfI_e, hW.v.n, if_pos (nI_le (Nat.le_refl _) (by omega)), if_neg (show ¬ nI 10 = 0 by decide), if_neg (show ¬ nI 10 = 1 by decide), if_neg (show ¬ nI 10 = 2 by decide), if_neg (show ¬ nI 10 = 3 by decide), if_neg (show ¬ nI 10 = 4 by decide), if_neg (show ¬ nI 10 = 5 by decide), if_neg (show ¬ nI 10 = 6 by decide)]; simp [sB, cntI]
  | w + 11, hw => exact absurd hw (by omega)
theorem count5_ok (h : RO M) (hC : CWd 33 T M) (hV : VT T) (hR : ∀ r, r < 6 → Row1 13 95 96 40 40 M r) (hX : ∀ t, t < 4 → Row1 25 98 99 80 80 M t) (hK : ∀ k, k < 3 → Kp1 T M k) (hw : w < 11) : fX5_count 0 (nI w) M = some (cntI M T w, M) := by
  have hn8 := hV.n8
  have h33 := w33
  have hK2 : ofK T 2 < 2 ^ tn T := setN_lt _ _
  have hb : 0 ≤ nI w ∧ nI w < 11 := ⟨nI_pos' (by omega), by
    have := nlt_T (a := w) (b := 11) hw (by decide)
    rw [show nI 11 = (11 : Int32) from rfl] at this
    rw [this]; trivial⟩
  unfold fX5_count
  rw [isBelow_ok, cal_ok, if_pos hb, if_neg (by decide)]
  match w, hw with
  | 0, _ => rw [if_pos (show nI 0 = 0 from rfl), g33 h, gfI_e, hC.n]; rfl
  | 1, _ => rw [if_neg (show ¬ nI 1 = 0 by decide), if_pos (show nI 1 = 1 from rfl), g33 h, pathNumber_ok h h33 hC hV]; rfl
  | 2, _ => rw [if_neg (show ¬ nI 2 = 0 by decide), if_neg (show ¬ nI 2 = 1 by decide), if_pos (show nI 2 = 2 from rfl), g33 h, gfI_e, hC.b]; rfl
  | 3, _ => rw [if_neg (show ¬ nI 3 = 0 by decide), if_neg (show ¬ nI 3 = 1 by decide), if_neg (show ¬ nI 3 = 2 by decide), if_pos (show nI 3 = 3 from rfl), g33 h, gfI_e, hC.s]; rfl
  | 4, _ => rw [if_neg (show ¬ nI 4 = 0 by decide), if_neg (show ¬ nI 4 = 1 by decide), if_neg (show ¬ nI 4 = 2 by decide), if_neg (show ¬ nI 4 = 3 by decide), if_pos (show nI 4 = 4 from rfl), g33 h, show nI 4 - 4 = nI 0 by decide, totalOf_ok h h33 hC hV (by decide)]; rfl
  | 5, _ => rw [if_neg (show ¬ nI 5 = 0 by decide), if_neg (show ¬ nI 5 = 1 by decide), if_neg (show ¬ nI 5 = 2 by decide), if_neg (show ¬ nI 5 = 3 by decide), if_neg (show ¬ nI 5 = 4 by decide), if_pos (show nI 5 = 5 from rfl), g33 h, show nI 5 - 4 = nI 1 by decide, totalOf_ok h h33 hC hV (by decide)]; rfl
  | 6, _ => rw [if_neg (show ¬ nI 6 = 0 by decide), if_neg (show ¬ nI 6 = 1 by decide), if_neg (show ¬ nI 6 = 2 by decide), if_neg (show ¬ nI 6 = 3 by decide), if_neg (show ¬ nI 6 = 4 by decide), if_neg (show ¬ nI 6 = 5 by decide), if_pos (show nI 6 = 6 from rfl), g33 h, show nI 6 - 4 = nI 2 by decide, totalOf_ok h h33 hC hV (by decide)]; rfl
  | 7, _ => rw [if_neg (show ¬ nI 7 = 0 by decide), if_neg (show ¬ nI 7 = 1 by decide), if_neg (show ¬ nI 7 = 2 by decide), if_neg (show ¬ nI 7 = 3 by decide), if_neg (show ¬ nI 7 = 4 by decide), if_neg (show ¬ nI 7 = 5 by decide), if_neg (show ¬ nI 7 = 6 by decide), if_pos (show nI 7 = 7 from rfl), g1s h, thereR_ok h (fun r hr => row_eq (hR r hr))]; rfl
  | 8, _ => rw [if_neg (show ¬ nI 8 = 0 by decide), if_neg (show ¬ nI 8 = 1 by decide), if_neg (show ¬ nI 8 = 2 by decide), if_neg (show ¬ nI 8 = 3 by decide), if_neg (show ¬ nI 8 = 4 by decide), if_neg (show ¬ nI 8 = 5 by decide), if_neg (show ¬ nI 8 = 6 by decide), if_neg (show ¬ nI 8 = 7 by decide), if_pos (show nI 8 = 8 from rfl), g2s h, thereT_ok h (fun r hr => row_eq (hX r hr))]; rfl
  | 9, _ => rw [if_neg (show ¬ nI 9 = 0 by decide), if_neg (show ¬ nI 9 = 1 by decide), if_neg (show ¬ nI 9 = 2 by decide), if_neg (show ¬ nI 9 = 3 by decide), if_neg (show ¬ nI 9 = 4 by decide), if_neg (show ¬ nI 9 = 5 by decide), if_neg (show ¬ nI 9 = 6 by decide), if_neg (show ¬ nI 9 = 7 by decide), if_neg (show ¬ nI 9 = 8 by decide), if_pos (show nI 9 = 9 from rfl), keptN_ok h (fun k hk => (kp_eq (hK k hk)).1)]; rfl
  | 10, _ =>
    rw [if_neg (show ¬ nI 10 = 0 by decide), if_neg (show ¬ nI 10 = 1 by decide), if_neg (show ¬ nI 10 = 2 by decide), if_neg (show ¬ nI 10 = 3 by decide), if_neg (show ¬ nI 10 = 4 by decide), if_neg (show ¬ nI 10 = 5 by decide), if_neg (show ¬ nI 10 = 6 by decide), if_neg (show ¬ nI 10 = 7 by decide), if_neg (show ¬ nI 10 = 8 by decide), if_neg (show ¬ nI 10 = 9 by decide)]
    simp (disch := first | assumption | omega | decide) only [↓reduceIte, ↓gfI_e, ↓pfI_e, ↓gfJ_e, ↓pfJ_e, ↓ltI_e, ↓ltJ_e, ↓cal_ok, ↓rz0, ↓rz1, ↓g33, ↓g45, ↓wK, ↓wO, ↓wB, ↓wL, ↓wS, ↓wP, ↓wQ, ↓wY, ↓wL0, ↓wL1, ↓wL2, ↓r93_95, ↓r93_96, ↓r93_98, ↓r93_99, ↓r93_100, ↓r93_101, ↓r93_106, ↓r93_107, ↓ldw1, ↓ldw2, ↓ldw3, ↓ldw5, ↓ldw6, ↓ldw7, ↓ldw8, ↓ldw9, ↓ldw10, ↓ldw11, ↓ld100, ↓ld101, ↓ld106, ↓ld107, nle_F, nle_T, nlt_F, nlt_T, neq_F, neq_T, nle0_T, nle0_F, nlt0_F, n0lt_T, n0lt_F, n0le_T, n1_eq0, n0_eq0, n0_eq1, n1_eq1, np1, Bool.false_eq_true, L2, hC.o, bitCount_ok, bc_all _ (pow_lt8 hn8 hK2), cnt_sum hn8 hK2]
    show _ = some (nI (sumB (fun x => isK (tk T x) 2) (tn T)), M)
    congr 3
    refine sumB_congr (fun y hy => ?_)
    unfold ofK
    rw [setN_bit]
    simp [hy]
  | w + 11, hw => exact absurd hw (by omega)
end
theorem op_count (M : Mm) (h : Rel M) (w : Int32) : Good Rel (fX5_count 0 w M) (fX6_count 93 w) := by
  obtain ⟨hRO, hF, hR, hX, T, hV, hC, hW, hK⟩ := id h
  by_cases hw : 0 ≤ w ∧ w < 11
  · have hw2 : 0 ≤ w ∧ w ≤ 10 := (below_in (n := 10) (by decide)).mp hw
    obtain ⟨k, hk, rfl⟩ := i32_lt_nat (n := 11) (by decide) hw.1 hw.2
    refine ⟨cntI M T k, M, M, count5_ok hRO hC hV hR hX hK hk, ?_, h⟩
    show fX6_count 93 (nI k) M = _
    unfold fX6_count
    rw [in_ok, cal_ok, if_pos hw2, if_neg (by decide), counted_ok hRO hW hV hk, cal_ok]
  · have hw2 : ¬ (0 ≤ w ∧ w ≤ 10) := fun q => hw ((below_in (n := 10) (by decide)).mpr q)
    refine ⟨-1, M, M, ?_, ?_, h⟩
    · unfold fX5_count
      rw [isBelow_ok, cal_ok, if_neg hw, if_pos rfl]
    · show fX6_count 93 w M = _
      unfold fX6_count
      rw [in_ok, cal_ok, if_neg hw2, if_pos rfl]

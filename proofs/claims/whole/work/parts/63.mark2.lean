/-! MARK -/
def hidN (T : WT) (x : Nat) : Nat := tm T 0 x + tm T 2 x + if tk T x = 5 then tm T 1 x else 0
section
variable {M : Mm} {a : Nat} {T : WT}
theorem hidden_ok (h : RO M) (hW : RWd T M) (hV : VT T) {x : Nat} (hx : x < tn T) : fX6_hidden 93 (nI x) M = some (nI (hidN T x), M) := by
  have hn8 := hV.n8
  have k5 := hV.k5 hx
  have e0 := marks0_ok h (v := 0) 0 rfl (by decide) (x := x) (by omega)
  have e1 := marks0_ok h (v := 1) 1 rfl (by decide) (x := x) (by omega)
  have e2 := marks0_ok h (v := 2) 2 rfl (by decide) (x := x) (by omega)
  rw [hW.2.2.2.2.2.1 _ x (by decide) hx] at e0 e1 e2
  unfold fX6_hidden bX6_hidden_36 hidN
  rw [e0, cal_ok, e2, cal_ok]
  by_cases q : tk T x = 5
  · simp (disch := first | assumption | omega | decide) only [↓reduceIte, ↓gfI_e, ↓pfI_e, ↓gfJ_e, ↓pfJ_e, ↓ltI_e, ↓ltJ_e, ↓cal_ok, ↓rz0, ↓rz1, ↓g33, ↓g45, ↓wK, ↓wO, ↓wB, ↓wL, ↓wS, ↓wP, ↓wQ, ↓wY, ↓wL0, ↓wL1, ↓wL2, ↓r93_95, ↓r93_96, ↓r93_98, ↓r93_99, ↓r93_100, ↓r93_101, ↓r93_106, ↓r93_107, ↓ldw1, ↓ldw2, ↓ldw3, ↓ldw5, ↓ldw6, ↓ldw7, ↓ldw8, ↓ldw9, ↓ldw10, ↓ldw11, ↓ld100, ↓ld101, ↓ld106, ↓ld107, nle_F, nle_T, nlt_F, nlt_T, neq_F, neq_T, nle0_T, nle0_F, nlt0_F, n0lt_T, n0lt_F, n0le_T, n1_eq0, n0_eq0, n0_eq1, n1_eq1, np1, Bool.false_eq_true, L5, hW.v.k, q, e1, nI_pl]
  · simp (disch := first | assumption | omega | decide) only [↓reduceIte, ↓gfI_e, ↓pfI_e, ↓gfJ_e, ↓pfJ_e, ↓ltI_e, ↓ltJ_e, ↓cal_ok, ↓rz0, ↓rz1, ↓g33, ↓g45, ↓wK, ↓wO, ↓wB, ↓wL, ↓wS, ↓wP, ↓wQ, ↓wY, ↓wL0, ↓wL1, ↓wL2, ↓r93_95, ↓r93_96, ↓r93_98, ↓r93_99, ↓r93_100, ↓r93_101, ↓r93_106, ↓r93_107, ↓ldw1, ↓ldw2, ↓ldw3, ↓ldw5, ↓ldw6, ↓ldw7, ↓ldw8, ↓ldw9, ↓ldw10, ↓ldw11, ↓ld100, ↓ld101, ↓ld106, ↓ld107, nle_F, nle_T, nlt_F, nlt_T, neq_F, neq_T, nle0_T, nle0_F, nlt0_F, n0lt_T, n0lt_F, n0le_T, n1_eq0, n0_eq0, n0_eq1, n1_eq1, np1, Bool.false_eq_true, L5, hW.v.k, q, nI_pl, Nat.add_zero, Int32.add_zero]
theorem unseen_ok (h : RO M) (hw : isW a) (hC : CWd a T M) (hV : VT T) {x : Nat} (hx : x < tn T) (hk : tk T x = 2 ∨ tk T x = 5) : fX4_unseenAt a (nI x) M = some (nI (hidN T x), M) := by
  have hn8 := hV.n8
  unfold fX4_unseenAt bX4_unseenAt_0
  rw [seenAt_ok h hw hC hV hx, cal_ok, fen_l]
  have key : ∀ (s : Int32) (b : Nat), ((s >>> (nI 0 &&& 31)) &&& 1) = 0 → (((s >>> (nI 1 &&& 31)) &&& 1) = 0 ∧ b = tm T 1 x ∨ ¬ ((s >>> (nI 1 &&& 31)) &&& 1) = 0 ∧ b = 0) → ((s >>> (nI 2 &&& 31)) &&& 1) = 0 → fnl gX4_unseenAt (1, a, nI x, s, 0, 0, M) = some (nI (tm T 0 x + b + tm T 2 x), M) := by
    intro s b s0 s1 s2
    have f0 : fnl gX4_unseenAt (1, a, nI x, s, 0, 0, M) = fnl gX4_unseenAt (1, a, nI x, s, nI (tm T 0 x), nI 1, M) := by
      refine fnl_in ?_
      show bX4_unseenAt_11 a (nI x) s (nI 0) (nI 0) M = _
      unfold bX4_unseenAt_11 bX4_unseenAt_38
      simp (disch := first | assumption | omega | decide) only [↓reduceIte, ↓gfI_e, ↓pfI_e, ↓gfJ_e, ↓pfJ_e, ↓ltI_e, ↓ltJ_e, ↓cal_ok, ↓rz0, ↓rz1, ↓g33, ↓g45, ↓wK, ↓wO, ↓wB, ↓wL, ↓wS, ↓wP, ↓wQ, ↓wY, ↓wL0, ↓wL1, ↓wL2, ↓r93_95, ↓r93_96, ↓r93_98, ↓r93_99, ↓r93_100, ↓r93_101, ↓r93_106, ↓r93_107, ↓ldw1, ↓ldw2, ↓ldw3, ↓ldw5, ↓ldw6, ↓ldw7, ↓ldw8, ↓ldw9, ↓ldw10, ↓ldw11, ↓ld100, ↓ld101, ↓ld106, ↓ld107, nle_F, nle_T, nlt_F, nlt_T, neq_F, neq_T, nle0_T, nle0_F, nlt0_F, n0lt_T, n0lt_F, n0le_T, n1_eq0, n0_eq0, n0_eq1, n1_eq1, np1, Bool.false_eq_true, L3, s0, wLn h hw, hC.m0, nI_pl, Nat.zero_add, Nat.reduceAdd]
    have f1 : fnl gX4_unseenAt (1, a, nI x, s, nI (tm T 0 x), nI 1, M) = fnl gX4_unseenAt (1, a, nI x, s, nI (tm T 0 x + b), nI 2, M) := by
      refine fnl_in ?_
      show bX4_unseenAt_11 a (nI x) s (nI (tm T 0 x)) (nI 1) M = _
      unfold bX4_unseenAt_11 bX4_unseenAt_38
      rcases s1 with ⟨s1, rfl⟩ | ⟨s1, rfl⟩
      · simp (disch := first | assumption | omega | decide) only [↓reduceIte, ↓gfI_e, ↓pfI_e, ↓gfJ_e, ↓pfJ_e, ↓ltI_e, ↓ltJ_e, ↓cal_ok, ↓rz0, ↓rz1, ↓g33, ↓g45, ↓wK, ↓wO, ↓wB, ↓wL, ↓wS, ↓wP, ↓wQ, ↓wY, ↓wL0, ↓wL1, ↓wL2, ↓r93_95, ↓r93_96, ↓r93_98, ↓r93_99, ↓r93_100, ↓r93_101, ↓r93_106, ↓r93_107, ↓ldw1, ↓ldw2, ↓ldw3, ↓ldw5, ↓ldw6, ↓ldw7, ↓ldw8, ↓ldw9, ↓ldw10, ↓ldw11, ↓ld100, ↓ld101, ↓ld106, ↓ld107, nle_F, nle_T, nlt_F, nlt_T, neq_F, neq_T, nle0_T, nle0_F, nlt0_F, n0lt_T, n0lt_F, n0le_T, n1_eq0, n0_eq0, n0_eq1, n1_eq1, np1, Bool.false_eq_true, L3, s1, wLn h hw, hC.m1, nI_pl, Nat.reduceAdd]
      · simp (disch := first | assumption | omega | decide) only [↓reduceIte, ↓gfI_e, ↓pfI_e, ↓gfJ_e, ↓pfJ_e, ↓ltI_e, ↓ltJ_e, ↓cal_ok, ↓rz0, ↓rz1, ↓g33, ↓g45, ↓wK, ↓wO, ↓wB, ↓wL, ↓wS, ↓wP, ↓wQ, ↓wY, ↓wL0, ↓wL1, ↓wL2, ↓r93_95, ↓r93_96, ↓r93_98, ↓r93_99, ↓r93_100, ↓r93_101, ↓r93_106, ↓r93_107, ↓ldw1, ↓ldw2, ↓ldw3, ↓ldw5, ↓ldw6, ↓ldw7, ↓ldw8, ↓ldw9, ↓ldw10, ↓ldw11, ↓ld100, ↓ld101, ↓ld106, ↓ld107, nle_F, nle_T, nlt_F, nlt_T, neq_F, neq_T, nle0_T, nle0_F, nlt0_F, n0lt_T, n0lt_F, n0le_T, n1_eq0, n0_eq0, n0_eq1, n1_eq1, np1, Bool.false_eq_true, L3, s1, Nat.add_zero, Nat.reduceAdd]
    have f2 : fnl gX4_unseenAt (1, a, nI x, s, nI (tm T 0 x + b), nI 2, M) = fnl gX4_unseenAt (1, a, nI x, s, nI (tm T 0 x + b + tm T 2 x), nI 3, M) := by
      refine fnl_in ?_
      show bX4_unseenAt_11 a (nI x) s (nI (tm T 0 x + b)) (nI 2) M = _
      unfold bX4_unseenAt_11 bX4_unseenAt_38
      simp (disch := first | assumption | omega | decide) only [↓reduceIte, ↓gfI_e, ↓pfI_e, ↓gfJ_e, ↓pfJ_e, ↓ltI_e, ↓ltJ_e, ↓cal_ok, ↓rz0, ↓rz1, ↓g33, ↓g45, ↓wK, ↓wO, ↓wB, ↓wL, ↓wS, ↓wP, ↓wQ, ↓wY, ↓wL0, ↓wL1, ↓wL2, ↓r93_95, ↓r93_96, ↓r93_98, ↓r93_99, ↓r93_100, ↓r93_101, ↓r93_106, ↓r93_107, ↓ldw1, ↓ldw2, ↓ldw3, ↓ldw5, ↓ldw6, ↓ldw7, ↓ldw8, ↓ldw9, ↓ldw10, ↓ldw11, ↓ld100, ↓ld101, ↓ld106, ↓ld107, nle_F, nle_T, nlt_F, nlt_T, neq_F, neq_T, nle0_T, nle0_F, nlt0_F, n0lt_T, n0lt_F, n0le_T, n1_eq0, n0_eq0, n0_eq1, n1_eq1, np1, Bool.false_eq_true, L3, s2, wLn h hw, hC.m2, nI_pl, Nat.reduceAdd]
    refine f0.trans (f1.trans (f2.trans (fnl_out ?_)))
    rfl
  unfold seenI hidN
  by_cases q : tk T x = 5
  · rw [if_pos q, if_pos q, key 0 (tm T 1 x) (by decide) (Or.inl ⟨by decide, rfl⟩) (by decide), Nat.add_right_comm]
  · have q2 : tk T x = 2 := hk.resolve_right q
    rw [if_neg q, if_neg q, if_pos q2]
    by_cases r : tm T 1 x = 0
    · rw [if_pos r, key 0 (tm T 1 x) (by decide) (Or.inl ⟨by decide, rfl⟩) (by decide), r, Nat.add_zero, Nat.add_zero]
    · rw [if_neg r, key 2 0 (by decide) (Or.inr ⟨by decide, rfl⟩) (by decide), Nat.add_zero, Nat.add_zero]
theorem thickets_ok (h : RO M) (hW : RWd T M) (hV : VT T) {x : Nat} (hx : x < tn T) : fX6_thicketsBy 93 (nI x) M = some (nI (sumB (fun y => (te T x).testBit y && isK (tk T y) 2) (tn T)), M) := by
  have hn8 := hV.n8
  have e8 := hV.e8 hx
  unfold fX6_thicketsBy bX6_thicketsBy_0
  rw [fen_l]
  refine fnl_loop (fun k => (1, 93, nI x, nI (sumB (fun y => (te T x).testBit y && isK (tk T y) 2) k), nI k, M)) (tn T) (fun k hk => ?_) ?_
  · show bX6_thicketsBy_4 93 (nI x) (nI (sumB (fun y => (te T x).testBit y && isK (tk T y) 2) k)) (nI k) M = some (Sum.inl (1, 93, nI x, nI (sumB (fun y => (te T x).testBit y && isK (tk T y) 2) k + if ((te T x).testBit k && isK (tk T k) 2) = true then 1 else 0), nI (k + 1), M))
    unfold bX6_thicketsBy_4 bX6_thicketsBy_38 bX6_thicketsBy_39
    have eh := has_ok (M := M) e8 (show k < 8 by omega)
    have et := thicket_ok h hW.v hV hk
    by_cases q : (te T x).testBit k = true
    · rw [q] at eh ⊢
      by_cases r : isK (tk T k) 2 = true
      · rw [r] at et ⊢
        simp (disch := first | assumption | omega | decide) only [↓reduceIte, ↓gfI_e, ↓pfI_e, ↓gfJ_e, ↓pfJ_e, ↓ltI_e, ↓ltJ_e, ↓cal_ok, ↓rz0, ↓rz1, ↓g33, ↓g45, ↓wK, ↓wO, ↓wB, ↓wL, ↓wS, ↓wP, ↓wQ, ↓wY, ↓wL0, ↓wL1, ↓wL2, ↓r93_95, ↓r93_96, ↓r93_98, ↓r93_99, ↓r93_100, ↓r93_101, ↓r93_106, ↓r93_107, ↓ldw1, ↓ldw2, ↓ldw3, ↓ldw5, ↓ldw6, ↓ldw7, ↓ldw8, ↓ldw9, ↓ldw10, ↓ldw11, ↓ld100, ↓ld101, ↓ld106, ↓ld107, nle_F, nle_T, nlt_F, nlt_T, neq_F, neq_T, nle0_T, nle0_F, nlt0_F, n0lt_T, n0lt_F, n0le_T, n1_eq0, n0_eq0, n0_eq1, n1_eq1, np1, Bool.false_eq_true, hW.v.n, hW.v.e, eh, et, Bool.and_self]
      · rw [show isK (tk T k) 2 = false by simpa using r] at et ⊢
        simp (disch := first | assumption | omega | decide) only [↓reduceIte, ↓gfI_e, ↓pfI_e, ↓gfJ_e, ↓pfJ_e, ↓ltI_e, ↓ltJ_e, ↓cal_ok, ↓rz0, ↓rz1, ↓g33, ↓g45, ↓wK, ↓wO, ↓wB, ↓wL, ↓wS, ↓wP, ↓wQ, ↓wY, ↓wL0, ↓wL1, ↓wL2, ↓r93_95, ↓r93_96, ↓r93_98, ↓r93_99, ↓r93_100, ↓r93_101, ↓r93_106, ↓r93_107, ↓ldw1, ↓ldw2, ↓ldw3, ↓ldw5, ↓ldw6, ↓ldw7, ↓ldw8, ↓ldw9, ↓ldw10, ↓ldw11, ↓ld100, ↓ld101, ↓ld106, ↓ld107, nle_F, nle_T, nlt_F, nlt_T, neq_F, neq_T, nle0_T, nle0_F, nlt0_F, n0lt_T, n0lt_F, n0le_T, n1_eq0, n0_eq0, n0_eq1, n1_eq1, np1, Bool.false_eq_true, hW.v.n, hW.v.e, eh, et, Bool.and_false, Int32.add_zero, Nat.add_zero]
    · rw [show (te T x).testBit k = false by simpa using q] at eh ⊢
      simp (disch := first | assumption | omega | decide) only [↓reduceIte, ↓gfI_e, ↓pfI_e, ↓gfJ_e, ↓pfJ_e, ↓ltI_e, ↓ltJ_e, ↓cal_ok, ↓rz0, ↓rz1, ↓g33, ↓g45, ↓wK, ↓wO, ↓wB, ↓wL, ↓wS, ↓wP, ↓wQ, ↓wY, ↓wL0, ↓wL1, ↓wL2, ↓r93_95, ↓r93_96, ↓r93_98, ↓r93_99, ↓r93_100, ↓r93_101, ↓r93_106, ↓r93_107, ↓ldw1, ↓ldw2, ↓ldw3, ↓ldw5, ↓ldw6, ↓ldw7, ↓ldw8, ↓ldw9, ↓ldw10, ↓ldw11, ↓ld100, ↓ld101, ↓ld106, ↓ld107, nle_F, nle_T, nlt_F, nlt_T, neq_F, neq_T, nle0_T, nle0_F, nlt0_F, n0lt_T, n0lt_F, n0le_T, n1_eq0, n0_eq0, n0_eq1, n1_eq1, np1, Bool.false_eq_true, hW.v.n, hW.v.e, eh, Bool.false_and, Int32.add_zero, Nat.add_zero]
  · show bX6_thicketsBy_4 93 (nI x) _ (nI (tn T)) M = _
    unfold bX6_thicketsBy_4
    simp (disch := first | assumption | omega | decide) only [↓reduceIte, ↓gfI_e, ↓pfI_e, ↓gfJ_e, ↓pfJ_e, ↓ltI_e, ↓ltJ_e, ↓cal_ok, ↓rz0, ↓rz1, ↓g33, ↓g45, ↓wK, ↓wO, ↓wB, ↓wL, ↓wS, ↓wP, ↓wQ, ↓wY, ↓wL0, ↓wL1, ↓wL2, ↓r93_95, ↓r93_96, ↓r93_98, ↓r93_99, ↓r93_100, ↓r93_101, ↓r93_106, ↓r93_107, ↓ldw1, ↓ldw2, ↓ldw3, ↓ldw5, ↓ldw6, ↓ldw7, ↓ldw8, ↓ldw9, ↓ldw10, ↓ldw11, ↓ld100, ↓ld101, ↓ld106, ↓ld107, nle_F, nle_T, nlt_F, nlt_T, neq_F, neq_T, nle0_T, nle0_F, nlt0_F, n0lt_T, n0lt_F, n0le_T, n1_eq0, n0_eq0, n0_eq1, n1_eq1, np1, Bool.false_eq_true, hW.v.n]
end
theorem isK_mark : ∀ k, k ≤ 5 → ∀ j, j ≤ 5 → 1 ≤ j → isK k j = decide (k = j ∨ j = 1 ∧ k = 4 ∨ j = 2 ∧ k = 5) := by decide
theorem op_mark (M : Mm) (h : Rel M) (x w : Int32) : Good Rel (fX5_mark 0 x w M) (fX6_mark 93 x w) := by
  obtain ⟨hRO, hF, hR, hX, T, hV, hC, hW, hK⟩ := id h
  have hn8 := hV.n8
  have hw := w33
  have w1 : ∀ {M1 : Mm}, M1 = M → RO M1 := fun e => e ▸ hRO
  by_cases hx : 0 ≤ x ∧ x < nI (tn T)
  · obtain ⟨y, hy, rfl⟩ := i32_lt_nat (by omega) hx.1 hx.2
    by_cases hm : 1 ≤ w ∧ w ≤ 5
    · obtain ⟨k, hk, rfl⟩ := i32_le_nat (n := 5) (by decide) (Int32.le_trans (by decide) hm.1) hm.2
      have hk1 : 1 ≤ k := by
        have := hm.1
        by_cases q : 1 ≤ k
        · exact q
        · have q : k = 0 := by omega
          rw [q] at this
          exact absurd this (by decide)
      have k5 := hV.k5 hy
      have e8 := hV.e8 hy
      have hr8 : rchT T y < 256 := pow_lt8 hn8 (rch_lt _ _)
      have hK2 : ofK T 2 < 2 ^ tn T := setN_lt _ _
      have io := isOf_ok hRO hw hC hn8 hy (k := k) (by omega)
      have ik := isK_mark _ k5 _ hk hk1
      have p5 : fX5_mark 0 (nI y) (nI k) M = cal (fX4_isOf 33 (nI y) (nI k) M) fun v6 M5 => if v6 = 0 then cal (fX5_refuse 0 3 M5) fun v32 M31 => some ((v32, M31)) else if nI k = 1 then gfR M5 14 0 2 fun v7 => gfR M5 14 0 2 fun v8 => cal (fX4_reachFrom v8 (nI y) M5) fun v10 M9 => cal (fX4_crumbsOn v7 v10 M9) fun v12 M11 => some ((v12, M11)) else if nI k = 2 then gfR M5 14 0 2 fun v13 => cal (fX4_unseenAt v13 (nI y) M5) fun v15 M14 => some ((v15, M14)) else if nI k = 3 then gfR M5 14 0 2 fun v16 => gfR M5 0 v16 7 fun v17 => ldI M5 v17 (nI y) fun v18 => some ((v18, M5)) else if nI k = 4 then gfR M5 14 0 2 fun v19 => gfR M5 5 v19 6 fun v20 => ldR M5 0 v20 2 fun v21 => ldI M5 v21 (nI y) fun v22 => some ((v22, M5)) else gfR M5 14 0 2 fun v23 => gfR M5 0 v23 5 fun v24 => ldI M5 v24 (nI y) fun v25 => gfR M5 14 0 2 fun v26 => gfR M5 0 v26 4 fun v27 => ldI M5 v27 2 fun v28 => cal (fJ6_bitCount_0f7a4 (v25 &&& v28) M5) fun v30 M29 => some ((v30, M29)) := by
        unfold fX5_mark
        rw [g33 hRO, hasPlace_ok hC, cal_ok, if_pos hx, if_neg (by decide), if_neg (Int32.not_lt.mpr hm.1), if_pos (show nI k < 6 from by rw [L6, nlt_T (by omega) (by decide)]; trivial), g33 hRO]
      have p6 : ∀ M1, RO M1 → RWd T M1 → fX6_mark 93 (nI y) (nI k) M1 = if isK (tk T y) k then bX6_mark_57 93 (nI y) (nI k) M1 else bX6_mark_51 93 M1 := by
        intro M1 h1 hW1
        unfold fX6_mark bX6_mark_41
        rw [isPlace_ok hW1 hn8, cal_ok, if_pos hx, if_neg (by decide), in_ok, cal_ok, if_pos hm, if_neg (by decide), r93_100 h1, ld100 (by omega), hW1.v.k hy, ik]
        have n1 : nI k = 1 ↔ k = 1 := ⟨fun q => nI_inj (by omega) (by decide) q, fun q => by rw [q]; rfl⟩
        have n2 : nI k = 2 ↔ k = 2 := ⟨fun q => nI_inj (by omega) (by decide) q, fun q => by rw [q]; rfl⟩
        have m4 : nI (tk T y) = 4 ↔ tk T y = 4 := ⟨fun q => nI_inj (by omega) (by decide) q, fun q => by rw [q]; rfl⟩
        have m5 : nI (tk T y) = 5 ↔ tk T y = 5 := ⟨fun q => nI_inj (by omega) (by decide) q, fun q => by rw [q]; rfl⟩
        have mk : nI (tk T y) = nI k ↔ tk T y = k := ⟨fun q => nI_inj (by omega) (by omega) q, fun q => by rw [q]⟩
        simp only [n1, n2, m4, m5, mk]
        by_cases c1 : tk T y = k
        · simp [c1]
        · by_cases c2 : k = 1
          · by_cases c3 : tk T y = 4
            · simp [c2, c3]
            · simp [c1, c2, c3]
          · by_cases c4 : k = 2
            · by_cases c5 : tk T y = 5
              · simp [c4, c5]
              · simp [c1, c4, c5]
            · simp [c1, c2, c4]
      by_cases hi : isK (tk T y) k = true
      · rw [hi] at io
        have hi2 := hi
        rw [ik] at hi2
        have hi2 := of_decide_eq_true hi2
        rw [io, cal_ok, if_neg (by decide)] at p5
        have p6 := p6 M hRO hW
        rw [if_pos hi] at p6
        unfold bX6_mark_57 at p6
        match k, hk, hk1 with
        | 1, _, _ =>
          refine ⟨nI (crN T (rchT T y) (tn T)), M, M, ?_, ?_, h⟩
          · rw [p5, if_pos (show nI 1 = 1 from rfl)]
            simp (disch := first | assumption | omega | decide) only [↓reduceIte, ↓gfI_e, ↓pfI_e, ↓gfJ_e, ↓pfJ_e, ↓ltI_e, ↓ltJ_e, ↓cal_ok, ↓rz0, ↓rz1, ↓g33, ↓g45, ↓wK, ↓wO, ↓wB, ↓wL, ↓wS, ↓wP, ↓wQ, ↓wY, ↓wL0, ↓wL1, ↓wL2, ↓r93_95, ↓r93_96, ↓r93_98, ↓r93_99, ↓r93_100, ↓r93_101, ↓r93_106, ↓r93_107, ↓ldw1, ↓ldw2, ↓ldw3, ↓ldw5, ↓ldw6, ↓ldw7, ↓ldw8, ↓ldw9, ↓ldw10, ↓ldw11, ↓ld100, ↓ld101, ↓ld106, ↓ld107, nle_F, nle_T, nlt_F, nlt_T, neq_F, neq_T, nle0_T, nle0_F, nlt0_F, n0lt_T, n0lt_F, n0le_T, n1_eq0, n0_eq0, n0_eq1, n1_eq1, np1, Bool.false_eq_true, reach_ok hRO hw hC hV hy, crumbs5_ok hRO hw hC hV hr8]
          · show fX6_mark 93 (nI y) (nI 1) M = _
            have e2 : fX6_crumbsOn 93 0 (nI (rchT T y)) M = _ := crumbs6_ok hRO (f := 0) (by decide) hW.v hV hr8
            rw [p6, if_pos (show nI 1 = 1 from rfl), eat_ok hRO hW.v hV hy, cal_ok, e2, cal_ok]
        | 2, _, _ =>
          refine ⟨nI (hidN T y), M, M, ?_, ?_, h⟩
          · rw [p5, if_neg (show ¬ nI 2 = 1 by decide), if_pos (show nI 2 = 2 from rfl), g33 hRO, unseen_ok hRO hw hC hV hy (by omega), cal_ok]
          · show fX6_mark 93 (nI y) (nI 2) M = _
            rw [p6, if_neg (show ¬ nI 2 = 1 by decide), if_pos (show nI 2 = 2 from rfl), hidden_ok hRO hW hV hy, cal_ok]
        | 3, _, _ =>
          refine ⟨tw T y, M, M, ?_, ?_, h⟩
          · rw [p5, if_neg (show ¬ nI 3 = 1 by decide), if_neg (show ¬ nI 3 = 2 by decide), if_pos (show nI 3 = 3 from rfl)]
            simp (disch := first | assumption | omega | decide) only [↓reduceIte, ↓gfI_e, ↓pfI_e, ↓gfJ_e, ↓pfJ_e, ↓ltI_e, ↓ltJ_e, ↓cal_ok, ↓rz0, ↓rz1, ↓g33, ↓g45, ↓wK, ↓wO, ↓wB, ↓wL, ↓wS, ↓wP, ↓wQ, ↓wY, ↓wL0, ↓wL1, ↓wL2, ↓r93_95, ↓r93_96, ↓r93_98, ↓r93_99, ↓r93_100, ↓r93_101, ↓r93_106, ↓r93_107, ↓ldw1, ↓ldw2, ↓ldw3, ↓ldw5, ↓ldw6, ↓ldw7, ↓ldw8, ↓ldw9, ↓ldw10, ↓ldw11, ↓ld100, ↓ld101, ↓ld106, ↓ld107, nle_F, nle_T, nlt_F, nlt_T, neq_F, neq_T, nle0_T, nle0_F, nlt0_F, n0lt_T, n0lt_F, n0le_T, n1_eq0, n0_eq0, n0_eq1, n1_eq1, np1, Bool.false_eq_true, hC.w]
          · show fX6_mark 93 (nI y) (nI 3) M = _
            rw [p6, if_neg (show ¬ nI 3 = 1 by decide), if_neg (show ¬ nI 3 = 2 by decide), if_pos (show nI 3 = 3 from rfl), v0_ok hRO (v := 24) 24 (i := y) rfl (by omega), cal_ok, hW.2.2.2.2.2.2.1 y hy]
        | 4, _, _ =>
          refine ⟨nI (tm T 2 y), M, M, ?_, ?_, h⟩
          · rw [p5, if_neg (show ¬ nI 4 = 1 by decide), if_neg (show ¬ nI 4 = 2 by decide), if_neg (show ¬ nI 4 = 3 by decide), if_pos (show nI 4 = 4 from rfl)]
            simp (disch := first | assumption | omega | decide) only [↓reduceIte, ↓gfI_e, ↓pfI_e, ↓gfJ_e, ↓pfJ_e, ↓ltI_e, ↓ltJ_e, ↓cal_ok, ↓rz0, ↓rz1, ↓g33, ↓g45, ↓wK, ↓wO, ↓wB, ↓wL, ↓wS, ↓wP, ↓wQ, ↓wY, ↓wL0, ↓wL1, ↓wL2, ↓r93_95, ↓r93_96, ↓r93_98, ↓r93_99, ↓r93_100, ↓r93_101, ↓r93_106, ↓r93_107, ↓ldw1, ↓ldw2, ↓ldw3, ↓ldw5, ↓ldw6, ↓ldw7, ↓ldw8, ↓ldw9, ↓ldw10, ↓ldw11, ↓ld100, ↓ld101, ↓ld106, ↓ld107, nle_F, nle_T, nlt_F, nlt_T, neq_F, neq_T, nle0_T, nle0_F, nlt0_F, n0lt_T, n0lt_F, n0le_T, n1_eq0, n0_eq0, n0_eq1, n1_eq1, np1, Bool.false_eq_true, hC.m2]
          · show fX6_mark 93 (nI y) (nI 4) M = _
            rw [p6, if_neg (show ¬ nI 4 = 1 by decide), if_neg (show ¬ nI 4 = 2 by decide), if_neg (show ¬ nI 4 = 3 by decide), if_pos (show nI 4 = 4 from rfl), marks0_ok hRO (v := 2) 2 rfl (by decide) (by omega), cal_ok, hW.2.2.2.2.2.1 2 y (by decide) hy]
        | 5, _, _ =>
          refine ⟨nI (sumB (fun z => (te T y).testBit z && isK (tk T z) 2) (tn T)), M, M, ?_, ?_, h⟩
          · rw [p5, if_neg (show ¬ nI 5 = 1 by decide), if_neg (show ¬ nI 5 = 2 by decide), if_neg (show ¬ nI 5 = 3 by decide), if_neg (show ¬ nI 5 = 4 by decide)]
            have hlt : te T y &&& ofK T 2 < 2 ^ tn T := Nat.lt_of_le_of_lt Nat.and_le_left (hV.en hy)
            simp (disch := first | assumption | omega | decide) only [↓reduceIte, ↓gfI_e, ↓pfI_e, ↓gfJ_e, ↓pfJ_e, ↓ltI_e, ↓ltJ_e, ↓cal_ok, ↓rz0, ↓rz1, ↓g33, ↓g45, ↓wK, ↓wO, ↓wB, ↓wL, ↓wS, ↓wP, ↓wQ, ↓wY, ↓wL0, ↓wL1, ↓wL2, ↓r93_95, ↓r93_96, ↓r93_98, ↓r93_99, ↓r93_100, ↓r93_101, ↓r93_106, ↓r93_107, ↓ldw1, ↓ldw2, ↓ldw3, ↓ldw5, ↓ldw6, ↓ldw7, ↓ldw8, ↓ldw9, ↓ldw10, ↓ldw11, ↓ld100, ↓ld101, ↓ld106, ↓ld107, nle_F, nle_T, nlt_F, nlt_T, neq_F, neq_T, nle0_T, nle0_F, nlt0_F, n0lt_T, n0lt_F, n0le_T, n1_eq0, n0_eq0, n0_eq1, n1_eq1, np1, Bool.false_eq_true, L2, hC.e, hC.o, nI_and, bitCount_ok, bc_all _ (pow_lt8 hn8 hlt), cnt_sum hn8 hlt]
            congr 3
            refine sumB_congr (fun z hz => ?_)
            unfold ofK
            rw [Nat.testBit_and, setN_bit]
            simp [hz]
          · show fX6_mark 93 (nI y) (nI 5) M = _
            rw [p6, if_neg (show ¬ nI 5 = 1 by decide), if_neg (show ¬ nI 5 = 2 by decide), if_neg (show ¬ nI 5 = 3 by decide), if_neg (show ¬ nI 5 = 4 by decide), thickets_ok hRO hW hV hy, cal_ok]
        | 0, _, hk1 => exact absurd hk1 (by omega)
        | k + 6, hk, _ => exact absurd hk (by omega)
      · rw [show isK (tk T y) k = false by simpa using hi] at io
        have h1 : RO (refuseM M 3) := hRO
        have hW1 : RWd T (refuseM M 3) := RWd.same (M := M) rfl rfl rfl (fun c hc => by unfold refuseM; rw [wI_ne (by omega), wI_ne (by omega)]) hW
        refine ⟨-3, refuseM M 3, meetsM (refuseM M 3) 3, ?_, ?_, rel_refuse h 3⟩
        · rw [p5, io, cal_ok, if_pos (show (if false = true then (1 : Int32) else 0) = 0 from rfl), refuse_ok hRO (v := 3) (f := 3) rfl (by decide), cal_ok]
        · show fX6_mark 93 (nI y) (nI k) (refuseM M 3) = _
          rw [p6 _ h1 hW1, if_neg hi]
          unfold bX6_mark_51
          rw [meets_ok h1 (v := 3) (f := 3) rfl (by decide), cal_ok]
    · refine ⟨-1, M, M, ?_, ?_, h⟩
      · unfold fX5_mark bX5_mark_22
        rw [g33 hRO, hasPlace_ok hC, cal_ok, if_pos hx, if_neg (by decide)]
        by_cases q : w < 1
        · rw [if_pos q]
        · rw [if_neg q, if_neg (show ¬ w < 6 from fun z => hm ⟨Int32.not_lt.mp q, (le_pred (n := 5) (by decide)).mpr z⟩)]
      · show fX6_mark 93 (nI y) w M = _
        unfold fX6_mark bX6_mark_17
        rw [isPlace_ok hW hn8, cal_ok, if_pos hx, if_neg (by decide), in_ok, cal_ok, if_neg hm, if_pos rfl]
  · refine ⟨-1, M, M, ?_, ?_, h⟩
    · unfold fX5_mark bX5_mark_22
      rw [g33 hRO, hasPlace_ok hC, cal_ok, if_neg hx, if_pos rfl]
    · show fX6_mark 93 x w M = _
      unfold fX6_mark bX6_mark_17
      rw [isPlace_ok hW hn8, cal_ok, if_neg hx, if_pos rfl]

/-! DIGEST of the reference: the number is kept in its long -/
def hJ (M : Mm) (u : Int64) : Mm := wJ M 93 40 u
theorem hJ_1 {M : Mm} {u : Int64} : (hJ M u).1 = M.1 := rfl
theorem hJ_hJ {M : Mm} {u v : Int64} : wJ (hJ M u) 93 40 v = hJ M v := by
  unfold hJ wJ
  refine Prod.ext rfl (Prod.ext ?_ rfl)
  funext b j
  show (if b = 93 ∧ j = 40 then v else if b = 93 ∧ j = 40 then u else M.2.1 b j) = if b = 93 ∧ j = 40 then v else M.2.1 b j
  by_cases q : b = 93 ∧ j = 40
  · rw [if_pos q, if_pos q]
  · rw [if_neg q, if_neg q, if_neg q]
theorem hJ_40 {M : Mm} {u : Int64} : (hJ M u).2.1 93 40 = u := by
  unfold hJ
  rw [wJ_at, if_pos ⟨rfl, rfl⟩]
theorem mix_ok {M : Mm} {u v : Int64} : fX6_mix 93 v (hJ M u) = some ((), hJ M (31 * u + v)) := by
  unfold fX6_mix
  rw [gfJ_e, pfJ_e, hJ_hJ, hJ_40]
theorem hJ_ro {M : Mm} {u : Int64} (h : RO M) : RO (hJ M u) := h
theorem hJ_w {M : Mm} {T : WT} {u : Int64} (h : RWd T M) : RWd T (hJ M u) := h
section
variable {M : Mm} {T : WT}
theorem byteAt_ok (h : RO M) {k i n : Nat} (hk : k < 4) (hn : M.1 98 k = nI n) (hn8 : n ≤ 80) (hi : i < n) : fX6_byteAt 93 (nI k) (nI i) M = some (M.1 99 (80 * k + i), M) := by
  unfold fX6_byteAt
  rw [show (80 : Int32) = nI 80 from rfl]
  simp (disch := first | assumption | omega | decide) only [↓reduceIte, ↓gfI_e, ↓pfI_e, ↓gfJ_e, ↓pfJ_e, ↓ltI_e, ↓ltJ_e, ↓cal_ok, ↓rz0, ↓rz1, ↓g33, ↓g45, ↓wK, ↓wO, ↓wB, ↓wL, ↓wS, ↓wP, ↓wQ, ↓wY, ↓wL0, ↓wL1, ↓wL2, ↓r93_95, ↓r93_96, ↓r93_98, ↓r93_99, ↓r93_100, ↓r93_101, ↓r93_106, ↓r93_107, ↓ldw1, ↓ldw2, ↓ldw3, ↓ldw5, ↓ldw6, ↓ldw7, ↓ldw8, ↓ldw9, ↓ldw10, ↓ldw11, ↓ld100, ↓ld101, ↓ld106, ↓ld107, nle_F, nle_T, nlt_F, nlt_T, neq_F, neq_T, nle0_T, nle0_F, nlt0_F, n0lt_T, n0lt_F, n0le_T, n1_eq0, n0_eq0, n0_eq1, n1_eq1, np1, Bool.false_eq_true, ld98, hn, nI_mul, nI_pl, ld99]
theorem mixWood_ok (h : RO M) (hW : RWd T M) (hV : VT T) (u : Int64) : fX6_mixWood 93 (hJ M u) = some ((), hJ M (fJ (kpI M) (fW T u) 3)) := by
  have hn8 := hV.n8
  have hb4 := hV.b4
  have hs := hV.s30
  unfold fX6_mixWood bX6_mixWood_0
  rw [fen_l]
  have e1 := fnl_up (g := gX6_mixWood) (fun k => (1, 93, nI k, 0, hJ M (fJ (fun m => nI (tq T m)) u k))) 3 (fun k hk => by
    show bX6_mixWood_2 93 (nI k) (hJ M (fJ (fun m => nI (tq T m)) u k)) = some (Sum.inl (1, 93, nI (k + 1), 0, hJ M (31 * fJ (fun m => nI (tq T m)) u k + (nI (tq T k)).toInt64)))
    have ev := v0_ok (hJ_ro (u := fJ (fun m => nI (tq T m)) u k) h) (v := 36) 36 (i := k) rfl (by omega)
    rw [hJ_1, hW.2.2.2.2.2.2.2.2.1 k hk] at ev
    unfold bX6_mixWood_2
    simp (disch := first | assumption | omega | decide) only [↓reduceIte, ↓gfI_e, ↓pfI_e, ↓gfJ_e, ↓pfJ_e, ↓ltI_e, ↓ltJ_e, ↓cal_ok, ↓rz0, ↓rz1, ↓g33, ↓g45, ↓wK, ↓wO, ↓wB, ↓wL, ↓wS, ↓wP, ↓wQ, ↓wY, ↓wL0, ↓wL1, ↓wL2, ↓r93_95, ↓r93_96, ↓r93_98, ↓r93_99, ↓r93_100, ↓r93_101, ↓r93_106, ↓r93_107, ↓ldw1, ↓ldw2, ↓ldw3, ↓ldw5, ↓ldw6, ↓ldw7, ↓ldw8, ↓ldw9, ↓ldw10, ↓ldw11, ↓ld100, ↓ld101, ↓ld106, ↓ld107, nle_F, nle_T, nlt_F, nlt_T, neq_F, neq_T, nle0_T, nle0_F, nlt0_F, n0lt_T, n0lt_F, n0le_T, n1_eq0, n0_eq0, n0_eq1, n1_eq1, np1, Bool.false_eq_true, L3, ev, mix_ok])
  have e1 : fnl gX6_mixWood (1, 93, 0, 0, hJ M u) = _ := e1
  rw [e1]
  unfold fW
  show fnl gX6_mixWood (1, 93, nI 3, 0, hJ M (fJ (fun m => nI (tq T m)) u 3)) = _
  generalize fJ (fun m => nI (tq T m)) u 3 = u1
  rw [show fnl gX6_mixWood (1, 93, nI 3, 0, hJ M u1) = fnl gX6_mixWood (2, 93, nI 0, 0, hJ M u1) from fnl_in rfl]
  have st : ∀ x, x < tn T → ∀ v, fnl gX6_mixWood (2, 93, nI x, 0, hJ M v) = fnl gX6_mixWood (2, 93, nI (x + 1), 0, hJ M (fJ (factI T x) v 6)) := by
    intro x hx v
    have f0 : fnl gX6_mixWood (2, 93, nI x, 0, hJ M v) = fnl gX6_mixWood (3, 93, nI x, nI 0, hJ M v) := by
      refine fnl_in ?_
      show bX6_mixWood_28 93 (nI x) (hJ M v) = _
      unfold bX6_mixWood_28
      simp (disch := first | assumption | omega | decide) only [↓reduceIte, ↓gfI_e, ↓pfI_e, ↓gfJ_e, ↓pfJ_e, ↓ltI_e, ↓ltJ_e, ↓cal_ok, ↓rz0, ↓rz1, ↓g33, ↓g45, ↓wK, ↓wO, ↓wB, ↓wL, ↓wS, ↓wP, ↓wQ, ↓wY, ↓wL0, ↓wL1, ↓wL2, ↓r93_95, ↓r93_96, ↓r93_98, ↓r93_99, ↓r93_100, ↓r93_101, ↓r93_106, ↓r93_107, ↓ldw1, ↓ldw2, ↓ldw3, ↓ldw5, ↓ldw6, ↓ldw7, ↓ldw8, ↓ldw9, ↓ldw10, ↓ldw11, ↓ld100, ↓ld101, ↓ld106, ↓ld107, nle_F, nle_T, nlt_F, nlt_T, neq_F, neq_T, nle0_T, nle0_F, nlt0_F, n0lt_T, n0lt_F, n0le_T, n1_eq0, n0_eq0, n0_eq1, n1_eq1, np1, Bool.false_eq_true, hJ_1, hW.v.n]
      rfl
    have f1 := fnl_up (g := gX6_mixWood) (fun k => (3, 93, nI x, nI k, hJ M (fJ (factI T x) v k))) 6 (fun k hk => by
      show bX6_mixWood_38 93 (nI x) (nI k) (hJ M (fJ (factI T x) v k)) = some (Sum.inl (3, 93, nI x, nI (k + 1), hJ M (31 * fJ (factI T x) v k + (factI T x k).toInt64)))
      have ef := placeTells_ok (hJ_ro (u := fJ (factI T x) v k) h) (hJ_w hW) hV hx hk
      unfold bX6_mixWood_38
      simp (disch := first | assumption | omega | decide) only [↓reduceIte, ↓gfI_e, ↓pfI_e, ↓gfJ_e, ↓pfJ_e, ↓ltI_e, ↓ltJ_e, ↓cal_ok, ↓rz0, ↓rz1, ↓g33, ↓g45, ↓wK, ↓wO, ↓wB, ↓wL, ↓wS, ↓wP, ↓wQ, ↓wY, ↓wL0, ↓wL1, ↓wL2, ↓r93_95, ↓r93_96, ↓r93_98, ↓r93_99, ↓r93_100, ↓r93_101, ↓r93_106, ↓r93_107, ↓ldw1, ↓ldw2, ↓ldw3, ↓ldw5, ↓ldw6, ↓ldw7, ↓ldw8, ↓ldw9, ↓ldw10, ↓ldw11, ↓ld100, ↓ld101, ↓ld106, ↓ld107, nle_F, nle_T, nlt_F, nlt_T, neq_F, neq_T, nle0_T, nle0_F, nlt0_F, n0lt_T, n0lt_F, n0le_T, n1_eq0, n0_eq0, n0_eq1, n1_eq1, np1, Bool.false_eq_true, L6, ef, mix_ok])
    refine f0.trans (f1.trans (fnl_in ?_))
    show bX6_mixWood_38 93 (nI x) (nI 6) (hJ M (fJ (factI T x) v 6)) = _
    unfold bX6_mixWood_38
    simp (disch := first | assumption | omega | decide) only [↓reduceIte, ↓gfI_e, ↓pfI_e, ↓gfJ_e, ↓pfJ_e, ↓ltI_e, ↓ltJ_e, ↓cal_ok, ↓rz0, ↓rz1, ↓g33, ↓g45, ↓wK, ↓wO, ↓wB, ↓wL, ↓wS, ↓wP, ↓wQ, ↓wY, ↓wL0, ↓wL1, ↓wL2, ↓r93_95, ↓r93_96, ↓r93_98, ↓r93_99, ↓r93_100, ↓r93_101, ↓r93_106, ↓r93_107, ↓ldw1, ↓ldw2, ↓ldw3, ↓ldw5, ↓ldw6, ↓ldw7, ↓ldw8, ↓ldw9, ↓ldw10, ↓ldw11, ↓ld100, ↓ld101, ↓ld106, ↓ld107, nle_F, nle_T, nlt_F, nlt_T, neq_F, neq_T, nle0_T, nle0_F, nlt0_F, n0lt_T, n0lt_F, n0le_T, n1_eq0, n0_eq0, n0_eq1, n1_eq1, np1, Bool.false_eq_true, L6]
  have e2 : ∀ x, x ≤ tn T → fnl gX6_mixWood (2, 93, nI 0, 0, hJ M u1) = fnl gX6_mixWood (2, 93, nI x, 0, hJ M (fPl T u1 x)) := by
    intro x
    induction x with
    | zero => exact fun _ => rfl
    | succ x ih => exact fun hx => (ih (by omega)).trans (st x (by omega) _)
  rw [e2 _ (Nat.le_refl _)]
  generalize fPl T u1 (tn T) = u2
  have e2b : fnl gX6_mixWood (2, 93, nI (tn T), 0, hJ M u2) = fnl gX6_mixWood (4, 93, nI 0, 0, hJ M u2) := by
    refine fnl_in ?_
    show bX6_mixWood_28 93 (nI (tn T)) (hJ M u2) = _
    unfold bX6_mixWood_28
    simp (disch := first | assumption | omega | decide) only [↓reduceIte, ↓gfI_e, ↓pfI_e, ↓gfJ_e, ↓pfJ_e, ↓ltI_e, ↓ltJ_e, ↓cal_ok, ↓rz0, ↓rz1, ↓g33, ↓g45, ↓wK, ↓wO, ↓wB, ↓wL, ↓wS, ↓wP, ↓wQ, ↓wY, ↓wL0, ↓wL1, ↓wL2, ↓r93_95, ↓r93_96, ↓r93_98, ↓r93_99, ↓r93_100, ↓r93_101, ↓r93_106, ↓r93_107, ↓ldw1, ↓ldw2, ↓ldw3, ↓ldw5, ↓ldw6, ↓ldw7, ↓ldw8, ↓ldw9, ↓ldw10, ↓ldw11, ↓ld100, ↓ld101, ↓ld106, ↓ld107, nle_F, nle_T, nlt_F, nlt_T, neq_F, neq_T, nle0_T, nle0_F, nlt0_F, n0lt_T, n0lt_F, n0le_T, n1_eq0, n0_eq0, n0_eq1, n1_eq1, np1, Bool.false_eq_true, hJ_1, hW.v.n]
    rfl
  rw [e2b]
  have e3 := fnl_up (g := gX6_mixWood) (fun k => (4, 93, nI k, 0, hJ M (fJ (fun i => nI (tp T i)) u2 k))) (tb T) (fun k hk => by
    show bX6_mixWood_69 93 (nI k) (hJ M (fJ (fun i => nI (tp T i)) u2 k)) = some (Sum.inl (4, 93, nI (k + 1), 0, hJ M (31 * fJ (fun i => nI (tp T i)) u2 k + (nI (tp T k)).toInt64)))
    have ev := v0_ok (hJ_ro (u := fJ (fun i => nI (tp T i)) u2 k) h) (v := 32) 32 (i := k) rfl (by omega)
    rw [hJ_1, hW.2.2.2.2.2.2.2.1 k hk] at ev
    unfold bX6_mixWood_69
    simp (disch := first | assumption | omega | decide) only [↓reduceIte, ↓gfI_e, ↓pfI_e, ↓gfJ_e, ↓pfJ_e, ↓ltI_e, ↓ltJ_e, ↓cal_ok, ↓rz0, ↓rz1, ↓g33, ↓g45, ↓wK, ↓wO, ↓wB, ↓wL, ↓wS, ↓wP, ↓wQ, ↓wY, ↓wL0, ↓wL1, ↓wL2, ↓r93_95, ↓r93_96, ↓r93_98, ↓r93_99, ↓r93_100, ↓r93_101, ↓r93_106, ↓r93_107, ↓ldw1, ↓ldw2, ↓ldw3, ↓ldw5, ↓ldw6, ↓ldw7, ↓ldw8, ↓ldw9, ↓ldw10, ↓ldw11, ↓ld100, ↓ld101, ↓ld106, ↓ld107, nle_F, nle_T, nlt_F, nlt_T, neq_F, neq_T, nle0_T, nle0_F, nlt0_F, n0lt_T, n0lt_F, n0le_T, n1_eq0, n0_eq0, n0_eq1, n1_eq1, np1, Bool.false_eq_true, hJ_1, hW.v.b, ev, mix_ok])
  rw [show fnl gX6_mixWood (4, 93, nI 0, 0, hJ M u2) = _ from e3]
  show fnl gX6_mixWood (4, 93, nI (tb T), 0, hJ M (fJ (fun i => nI (tp T i)) u2 (tb T))) = some ((), hJ M (fJ (kpI M) (if tn T = 0 then fJ (fun i => nI (tp T i)) u2 (tb T) else fJ (fun i => nI (tz T i)) (fJ (fun i => nI (tp T i)) u2 (tb T)) (ts T + 1)) 3))
  generalize fJ (fun i => nI (tp T i)) u2 (tb T) = u4
  have e4 : fnl gX6_mixWood (4, 93, nI (tb T), 0, hJ M u4) = fnl gX6_mixWood (5, 93, nI 0, 0, hJ M u4) := by
    refine fnl_in ?_
    show bX6_mixWood_69 93 (nI (tb T)) (hJ M u4) = _
    unfold bX6_mixWood_69
    simp (disch := first | assumption | omega | decide) only [↓reduceIte, ↓gfI_e, ↓pfI_e, ↓gfJ_e, ↓pfJ_e, ↓ltI_e, ↓ltJ_e, ↓cal_ok, ↓rz0, ↓rz1, ↓g33, ↓g45, ↓wK, ↓wO, ↓wB, ↓wL, ↓wS, ↓wP, ↓wQ, ↓wY, ↓wL0, ↓wL1, ↓wL2, ↓r93_95, ↓r93_96, ↓r93_98, ↓r93_99, ↓r93_100, ↓r93_101, ↓r93_106, ↓r93_107, ↓ldw1, ↓ldw2, ↓ldw3, ↓ldw5, ↓ldw6, ↓ldw7, ↓ldw8, ↓ldw9, ↓ldw10, ↓ldw11, ↓ld100, ↓ld101, ↓ld106, ↓ld107, nle_F, nle_T, nlt_F, nlt_T, neq_F, neq_T, nle0_T, nle0_F, nlt0_F, n0lt_T, n0lt_F, n0le_T, n1_eq0, n0_eq0, n0_eq1, n1_eq1, np1, Bool.false_eq_true, hJ_1, hW.v.b]
    rfl
  rw [e4]
  have e5 : fnl gX6_mixWood (5, 93, nI 0, 0, hJ M u4) = fnl gX6_mixWood (6, 93, nI 0, 0, hJ M (if tn T = 0 then u4 else fJ (fun i => nI (tz T i)) u4 (ts T + 1))) := by
    by_cases h0 : tn T = 0
    · rw [if_pos h0]
      refine fnl_in ?_
      show bX6_mixWood_98 93 (nI 0) (hJ M u4) = _
      unfold bX6_mixWood_98 bX6_mixWood_130
      simp (disch := first | assumption | omega | decide) only [↓reduceIte, ↓gfI_e, ↓pfI_e, ↓gfJ_e, ↓pfJ_e, ↓ltI_e, ↓ltJ_e, ↓cal_ok, ↓rz0, ↓rz1, ↓g33, ↓g45, ↓wK, ↓wO, ↓wB, ↓wL, ↓wS, ↓wP, ↓wQ, ↓wY, ↓wL0, ↓wL1, ↓wL2, ↓r93_95, ↓r93_96, ↓r93_98, ↓r93_99, ↓r93_100, ↓r93_101, ↓r93_106, ↓r93_107, ↓ldw1, ↓ldw2, ↓ldw3, ↓ldw5, ↓ldw6, ↓ldw7, ↓ldw8, ↓ldw9, ↓ldw10, ↓ldw11, ↓ld100, ↓ld101, ↓ld106, ↓ld107, nle_F, nle_T, nlt_F, nlt_T, neq_F, neq_T, nle0_T, nle0_F, nlt0_F, n0lt_T, n0lt_F, n0le_T, n1_eq0, n0_eq0, n0_eq1, n1_eq1, np1, Bool.false_eq_true, hJ_1, hW.2.2.1, hW.v.n, h0]
      rfl
    · rw [if_neg h0]
      refine (fnl_up (g := gX6_mixWood) (fun k => (5, 93, nI k, 0, hJ M (fJ (fun i => nI (tz T i)) u4 k))) (ts T + 1) (fun k hk => ?_)).trans (fnl_in ?_)
      · show bX6_mixWood_98 93 (nI k) (hJ M (fJ (fun i => nI (tz T i)) u4 k)) = some (Sum.inl (5, 93, nI (k + 1), 0, hJ M (31 * fJ (fun i => nI (tz T i)) u4 k + (nI (tz T k)).toInt64)))
        have h1 := hJ_ro (u := fJ (fun i => nI (tz T i)) u4 k) h
        have ez := hW.2.2.2.2.2.2.2.2.2 k (by omega)
        unfold bX6_mixWood_98
        simp (disch := first | assumption | omega | decide) only [↓reduceIte, ↓gfI_e, ↓pfI_e, ↓gfJ_e, ↓pfJ_e, ↓ltI_e, ↓ltJ_e, ↓cal_ok, ↓rz0, ↓rz1, ↓g33, ↓g45, ↓wK, ↓wO, ↓wB, ↓wL, ↓wS, ↓wP, ↓wQ, ↓wY, ↓wL0, ↓wL1, ↓wL2, ↓r93_95, ↓r93_96, ↓r93_98, ↓r93_99, ↓r93_100, ↓r93_101, ↓r93_106, ↓r93_107, ↓ldw1, ↓ldw2, ↓ldw3, ↓ldw5, ↓ldw6, ↓ldw7, ↓ldw8, ↓ldw9, ↓ldw10, ↓ldw11, ↓ld100, ↓ld101, ↓ld106, ↓ld107, nle_F, nle_T, nlt_F, nlt_T, neq_F, neq_T, nle0_T, nle0_F, nlt0_F, n0lt_T, n0lt_F, n0le_T, n1_eq0, n0_eq0, n0_eq1, n1_eq1, np1, Bool.false_eq_true, hJ_1, hW.2.2.1, hW.v.n, ez, mix_ok]
      · show bX6_mixWood_98 93 (nI (ts T + 1)) (hJ M (fJ (fun i => nI (tz T i)) u4 (ts T + 1))) = _
        unfold bX6_mixWood_98 bX6_mixWood_130
        simp (disch := first | assumption | omega | decide) only [↓reduceIte, ↓gfI_e, ↓pfI_e, ↓gfJ_e, ↓pfJ_e, ↓ltI_e, ↓ltJ_e, ↓cal_ok, ↓rz0, ↓rz1, ↓g33, ↓g45, ↓wK, ↓wO, ↓wB, ↓wL, ↓wS, ↓wP, ↓wQ, ↓wY, ↓wL0, ↓wL1, ↓wL2, ↓r93_95, ↓r93_96, ↓r93_98, ↓r93_99, ↓r93_100, ↓r93_101, ↓r93_106, ↓r93_107, ↓ldw1, ↓ldw2, ↓ldw3, ↓ldw5, ↓ldw6, ↓ldw7, ↓ldw8, ↓ldw9, ↓ldw10, ↓ldw11, ↓ld100, ↓ld101, ↓ld106, ↓ld107, nle_F, nle_T, nlt_F, nlt_T, neq_F, neq_T, nle0_T, nle0_F, nlt0_F, n0lt_T, n0lt_F, n0le_T, n1_eq0, n0_eq0, n0_eq1, n1_eq1, np1, Bool.false_eq_true, hJ_1, hW.2.2.1]
        rfl
  rw [e5]
  generalize (if tn T = 0 then u4 else fJ (fun i => nI (tz T i)) u4 (ts T + 1)) = u5
  refine fnl_loop (fun k => (6, 93, nI k, 0, hJ M (fJ (kpI M) u5 k))) 3 (fun k hk => ?_) rfl
  show bX6_mixWood_132 93 (nI k) (hJ M (fJ (kpI M) u5 k)) = some (Sum.inl (6, 93, nI (k + 1), 0, hJ M (31 * fJ (kpI M) u5 k + (if M.1 108 k = 0 then -1 else M.1 109 k).toInt64)))
  have h1 := hJ_ro (u := fJ (kpI M) u5 k) h
  unfold bX6_mixWood_132 bX6_mixWood_160
  by_cases q : M.1 108 k = 0
  · simp (disch := first | assumption | omega | decide) only [↓reduceIte, ↓gfI_e, ↓pfI_e, ↓gfJ_e, ↓pfJ_e, ↓ltI_e, ↓ltJ_e, ↓cal_ok, ↓rz0, ↓rz1, ↓g33, ↓g45, ↓wK, ↓wO, ↓wB, ↓wL, ↓wS, ↓wP, ↓wQ, ↓wY, ↓wL0, ↓wL1, ↓wL2, ↓r93_95, ↓r93_96, ↓r93_98, ↓r93_99, ↓r93_100, ↓r93_101, ↓r93_106, ↓r93_107, ↓ldw1, ↓ldw2, ↓ldw3, ↓ldw5, ↓ldw6, ↓ldw7, ↓ldw8, ↓ldw9, ↓ldw10, ↓ldw11, ↓ld100, ↓ld101, ↓ld106, ↓ld107, nle_F, nle_T, nlt_F, nlt_T, neq_F, neq_T, nle0_T, nle0_F, nlt0_F, n0lt_T, n0lt_F, n0le_T, n1_eq0, n0_eq0, n0_eq1, n1_eq1, np1, Bool.false_eq_true, L3, r93_108, ld108, hJ_1, q, mix_ok]
    rfl
  · simp (disch := first | assumption | omega | decide) only [↓reduceIte, ↓gfI_e, ↓pfI_e, ↓gfJ_e, ↓pfJ_e, ↓ltI_e, ↓ltJ_e, ↓cal_ok, ↓rz0, ↓rz1, ↓g33, ↓g45, ↓wK, ↓wO, ↓wB, ↓wL, ↓wS, ↓wP, ↓wQ, ↓wY, ↓wL0, ↓wL1, ↓wL2, ↓r93_95, ↓r93_96, ↓r93_98, ↓r93_99, ↓r93_100, ↓r93_101, ↓r93_106, ↓r93_107, ↓ldw1, ↓ldw2, ↓ldw3, ↓ldw5, ↓ldw6, ↓ldw7, ↓ldw8, ↓ldw9, ↓ldw10, ↓ldw11, ↓ld100, ↓ld101, ↓ld106, ↓ld107, nle_F, nle_T, nlt_F, nlt_T, neq_F, neq_T, nle0_T, nle0_F, nlt0_F, n0lt_T, n0lt_F, n0le_T, n1_eq0, n0_eq0, n0_eq1, n1_eq1, np1, Bool.false_eq_true, L3, r93_108, ld108, r93_109, ld109, hJ_1, q, mix_ok]
theorem hJ_self (M : Mm) : wJ M 93 40 17 = hJ M 17 := rfl
theorem digest6_ok (h : RO M) (hW : RWd T M) (hV : VT T) (hR : ∀ r, r < 6 → Row1 13 95 96 40 40 M r) (hX : ∀ t, t < 4 → Row1 25 98 99 80 80 M t) : fX6_digest 93 M = some (digI M T, hJ M (digI M T)) := by
  unfold fX6_digest bX6_digest_0 digI
  rw [pfJ_e, fen_l]
  have e1 := fnl_up (g := gX6_digest) (fun k => (1, 93, nI k, 0, hJ M (fJ (cntI M T) 17 k))) 11 (fun k hk => by
    show bX6_digest_9 93 (nI k) (hJ M (fJ (cntI M T) 17 k)) = some (Sum.inl (1, 93, nI (k + 1), 0, hJ M (31 * fJ (cntI M T) 17 k + (cntI M T k).toInt64)))
    have ec : fX6_counted 93 (nI k) (hJ M (fJ (cntI M T) 17 k)) = some (cntI M T k, hJ M (fJ (cntI M T) 17 k)) := counted_ok (hJ_ro (u := fJ (cntI M T) 17 k) h) (hJ_w hW) hV hk
    unfold bX6_digest_9
    simp (disch := first | assumption | omega | decide) only [↓reduceIte, ↓gfI_e, ↓pfI_e, ↓gfJ_e, ↓pfJ_e, ↓ltI_e, ↓ltJ_e, ↓cal_ok, ↓rz0, ↓rz1, ↓g33, ↓g45, ↓wK, ↓wO, ↓wB, ↓wL, ↓wS, ↓wP, ↓wQ, ↓wY, ↓wL0, ↓wL1, ↓wL2, ↓r93_95, ↓r93_96, ↓r93_98, ↓r93_99, ↓r93_100, ↓r93_101, ↓r93_106, ↓r93_107, ↓ldw1, ↓ldw2, ↓ldw3, ↓ldw5, ↓ldw6, ↓ldw7, ↓ldw8, ↓ldw9, ↓ldw10, ↓ldw11, ↓ld100, ↓ld101, ↓ld106, ↓ld107, nle_F, nle_T, nlt_F, nlt_T, neq_F, neq_T, nle0_T, nle0_F, nlt0_F, n0lt_T, n0lt_F, n0le_T, n1_eq0, n0_eq0, n0_eq1, n1_eq1, np1, Bool.false_eq_true, L11, ec, mix_ok])
  rw [show fnl gX6_digest (1, 93, 0, 0, wJ M 93 40 17) = _ from e1]
  show fnl gX6_digest (1, 93, nI 11, 0, hJ M (fJ (cntI M T) 17 11)) = _
  generalize fJ (cntI M T) 17 11 = u
  have e2 : fnl gX6_digest (1, 93, nI 11, 0, hJ M u) = fnl gX6_digest (2, 93, nI 0, 0, hJ M (fJ (kpI M) (fW T u) 3)) := by
    refine fnl_in ?_
    show bX6_digest_9 93 (nI 11) (hJ M u) = _
    unfold bX6_digest_9
    simp (disch := first | assumption | omega | decide) only [↓reduceIte, ↓gfI_e, ↓pfI_e, ↓gfJ_e, ↓pfJ_e, ↓ltI_e, ↓ltJ_e, ↓cal_ok, ↓rz0, ↓rz1, ↓g33, ↓g45, ↓wK, ↓wO, ↓wB, ↓wL, ↓wS, ↓wP, ↓wQ, ↓wY, ↓wL0, ↓wL1, ↓wL2, ↓r93_95, ↓r93_96, ↓r93_98, ↓r93_99, ↓r93_100, ↓r93_101, ↓r93_106, ↓r93_107, ↓ldw1, ↓ldw2, ↓ldw3, ↓ldw5, ↓ldw6, ↓ldw7, ↓ldw8, ↓ldw9, ↓ldw10, ↓ldw11, ↓ld100, ↓ld101, ↓ld106, ↓ld107, nle_F, nle_T, nlt_F, nlt_T, neq_F, neq_T, nle0_T, nle0_F, nlt0_F, n0lt_T, n0lt_F, n0le_T, n1_eq0, n0_eq0, n0_eq1, n1_eq1, np1, Bool.false_eq_true, L11, mixWood_ok h hW hV]
    rfl
  rw [e2]
  generalize fJ (kpI M) (fW T u) 3 = u
  have sr : ∀ k, k < 6 → ∀ v, fnl gX6_digest (2, 93, nI k, 0, hJ M v) = fnl gX6_digest (2, 93, nI (k + 1), 0, hJ M (fJ (fun i => M.1 96 (40 * k + i)) (31 * v + (M.1 95 k).toInt64) (M.1 95 k).toNatClampNeg)) := by
    intro k hk v
    have h1 := hJ_ro (u := v) h
    have f0 : fnl gX6_digest (2, 93, nI k, 0, hJ M v) = fnl gX6_digest (3, 93, nI k, nI 0, hJ M (31 * v + (M.1 95 k).toInt64)) := by
      refine fnl_in ?_
      show bX6_digest_37 93 (nI k) (hJ M v) = _
      unfold bX6_digest_37
      simp (disch := first | assumption | omega | decide) only [↓reduceIte, ↓gfI_e, ↓pfI_e, ↓gfJ_e, ↓pfJ_e, ↓ltI_e, ↓ltJ_e, ↓cal_ok, ↓rz0, ↓rz1, ↓g33, ↓g45, ↓wK, ↓wO, ↓wB, ↓wL, ↓wS, ↓wP, ↓wQ, ↓wY, ↓wL0, ↓wL1, ↓wL2, ↓r93_95, ↓r93_96, ↓r93_98, ↓r93_99, ↓r93_100, ↓r93_101, ↓r93_106, ↓r93_107, ↓ldw1, ↓ldw2, ↓ldw3, ↓ldw5, ↓ldw6, ↓ldw7, ↓ldw8, ↓ldw9, ↓ldw10, ↓ldw11, ↓ld100, ↓ld101, ↓ld106, ↓ld107, nle_F, nle_T, nlt_F, nlt_T, neq_F, neq_T, nle0_T, nle0_F, nlt0_F, n0lt_T, n0lt_F, n0le_T, n1_eq0, n0_eq0, n0_eq1, n1_eq1, np1, Bool.false_eq_true, L6, ld95, hJ_1, mix_ok]
      rfl
    rw [f0]
    generalize 31 * v + (M.1 95 k).toInt64 = v1
    rcases hR k hk with ⟨h1, h2⟩ | ⟨n, hn, q1, q2, q3⟩
    · rw [h2, cl_1]
      refine fnl_in ?_
      have h3 := hJ_ro (u := v1) h
      show bX6_digest_56 93 (nI k) (nI 0) (hJ M v1) = _
      unfold bX6_digest_56
      simp (disch := first | assumption | omega | decide) only [↓reduceIte, ↓gfI_e, ↓pfI_e, ↓gfJ_e, ↓pfJ_e, ↓ltI_e, ↓ltJ_e, ↓cal_ok, ↓rz0, ↓rz1, ↓g33, ↓g45, ↓wK, ↓wO, ↓wB, ↓wL, ↓wS, ↓wP, ↓wQ, ↓wY, ↓wL0, ↓wL1, ↓wL2, ↓r93_95, ↓r93_96, ↓r93_98, ↓r93_99, ↓r93_100, ↓r93_101, ↓r93_106, ↓r93_107, ↓ldw1, ↓ldw2, ↓ldw3, ↓ldw5, ↓ldw6, ↓ldw7, ↓ldw8, ↓ldw9, ↓ldw10, ↓ldw11, ↓ld100, ↓ld101, ↓ld106, ↓ld107, nle_F, nle_T, nlt_F, nlt_T, neq_F, neq_T, nle0_T, nle0_F, nlt0_F, n0lt_T, n0lt_F, n0le_T, n1_eq0, n0_eq0, n0_eq1, n1_eq1, np1, Bool.false_eq_true, ld95, hJ_1, h2, show ((-1 : Int32) ≤ nI 0) = True by simp; decide]
      rfl
    · rw [q2, cl_n (by omega)]
      refine (fnl_up (g := gX6_digest) (fun j => (3, 93, nI k, nI j, hJ M (fJ (fun i => M.1 96 (40 * k + i)) v1 j))) n (fun j hj => ?_)).trans (fnl_in ?_)
      · show bX6_digest_56 93 (nI k) (nI j) (hJ M (fJ (fun i => M.1 96 (40 * k + i)) v1 j)) = some (Sum.inl (3, 93, nI k, nI (j + 1), hJ M (31 * fJ (fun i => M.1 96 (40 * k + i)) v1 j + (M.1 96 (40 * k + j)).toInt64)))
        have h3 := hJ_ro (u := fJ (fun i => M.1 96 (40 * k + i)) v1 j) h
        have er := rowAt_ok h3 hk (show j < 40 by omega)
        unfold bX6_digest_56
        simp (disch := first | assumption | omega | decide) only [↓reduceIte, ↓gfI_e, ↓pfI_e, ↓gfJ_e, ↓pfJ_e, ↓ltI_e, ↓ltJ_e, ↓cal_ok, ↓rz0, ↓rz1, ↓g33, ↓g45, ↓wK, ↓wO, ↓wB, ↓wL, ↓wS, ↓wP, ↓wQ, ↓wY, ↓wL0, ↓wL1, ↓wL2, ↓r93_95, ↓r93_96, ↓r93_98, ↓r93_99, ↓r93_100, ↓r93_101, ↓r93_106, ↓r93_107, ↓ldw1, ↓ldw2, ↓ldw3, ↓ldw5, ↓ldw6, ↓ldw7, ↓ldw8, ↓ldw9, ↓ldw10, ↓ldw11, ↓ld100, ↓ld101, ↓ld106, ↓ld107, nle_F, nle_T, nlt_F, nlt_T, neq_F, neq_T, nle0_T, nle0_F, nlt0_F, n0lt_T, n0lt_F, n0le_T, n1_eq0, n0_eq0, n0_eq1, n1_eq1, np1, Bool.false_eq_true, ld95, hJ_1, q2, er, mix_ok]
      · have h3 := hJ_ro (u := fJ (fun i => M.1 96 (40 * k + i)) v1 n) h
        show bX6_digest_56 93 (nI k) (nI n) (hJ M (fJ (fun i => M.1 96 (40 * k + i)) v1 n)) = _
        unfold bX6_digest_56
        simp (disch := first | assumption | omega | decide) only [↓reduceIte, ↓gfI_e, ↓pfI_e, ↓gfJ_e, ↓pfJ_e, ↓ltI_e, ↓ltJ_e, ↓cal_ok, ↓rz0, ↓rz1, ↓g33, ↓g45, ↓wK, ↓wO, ↓wB, ↓wL, ↓wS, ↓wP, ↓wQ, ↓wY, ↓wL0, ↓wL1, ↓wL2, ↓r93_95, ↓r93_96, ↓r93_98, ↓r93_99, ↓r93_100, ↓r93_101, ↓r93_106, ↓r93_107, ↓ldw1, ↓ldw2, ↓ldw3, ↓ldw5, ↓ldw6, ↓ldw7, ↓ldw8, ↓ldw9, ↓ldw10, ↓ldw11, ↓ld100, ↓ld101, ↓ld106, ↓ld107, nle_F, nle_T, nlt_F, nlt_T, neq_F, neq_T, nle0_T, nle0_F, nlt0_F, n0lt_T, n0lt_F, n0le_T, n1_eq0, n0_eq0, n0_eq1, n1_eq1, np1, Bool.false_eq_true, ld95, hJ_1, q2]
  have e3 : ∀ k, k ≤ 6 → fnl gX6_digest (2, 93, nI 0, 0, hJ M u) = fnl gX6_digest (2, 93, nI k, 0, hJ M (fRw M 95 96 40 u k)) := by
    intro k
    induction k with
    | zero => exact fun _ => rfl
    | succ k ih => exact fun hk => (ih (by omega)).trans (sr k (by omega) _)
  rw [e3 6 (Nat.le_refl _)]
  generalize fRw M 95 96 40 u 6 = u
  rw [show fnl gX6_digest (2, 93, nI 6, 0, hJ M u) = fnl gX6_digest (4, 93, nI 0, 0, hJ M u) from fnl_in rfl]
  have sx : ∀ k, k < 4 → ∀ v, fnl gX6_digest (4, 93, nI k, 0, hJ M v) = fnl gX6_digest (4, 93, nI (k + 1), 0, hJ M (fJ (fun i => M.1 99 (80 * k + i)) (31 * v + (M.1 98 k).toInt64) (M.1 98 k).toNatClampNeg)) := by
    intro k hk v
    have h1 := hJ_ro (u := v) h
    have f0 : fnl gX6_digest (4, 93, nI k, 0, hJ M v) = fnl gX6_digest (5, 93, nI k, nI 0, hJ M (31 * v + (M.1 98 k).toInt64)) := by
      refine fnl_in ?_
      show bX6_digest_91 93 (nI k) (hJ M v) = _
      unfold bX6_digest_91
      simp (disch := first | assumption | omega | decide) only [↓reduceIte, ↓gfI_e, ↓pfI_e, ↓gfJ_e, ↓pfJ_e, ↓ltI_e, ↓ltJ_e, ↓cal_ok, ↓rz0, ↓rz1, ↓g33, ↓g45, ↓wK, ↓wO, ↓wB, ↓wL, ↓wS, ↓wP, ↓wQ, ↓wY, ↓wL0, ↓wL1, ↓wL2, ↓r93_95, ↓r93_96, ↓r93_98, ↓r93_99, ↓r93_100, ↓r93_101, ↓r93_106, ↓r93_107, ↓ldw1, ↓ldw2, ↓ldw3, ↓ldw5, ↓ldw6, ↓ldw7, ↓ldw8, ↓ldw9, ↓ldw10, ↓ldw11, ↓ld100, ↓ld101, ↓ld106, ↓ld107, nle_F, nle_T, nlt_F, nlt_T, neq_F, neq_T, nle0_T, nle0_F, nlt0_F, n0lt_T, n0lt_F, n0le_T, n1_eq0, n0_eq0, n0_eq1, n1_eq1, np1, Bool.false_eq_true, L4, ld98, hJ_1, mix_ok]
      rfl
    rw [f0]
    generalize 31 * v + (M.1 98 k).toInt64 = v1
    rcases hX k hk with ⟨h1, h2⟩ | ⟨n, hn, q1, q2, q3⟩
    · rw [h2, cl_1]
      refine fnl_in ?_
      have h3 := hJ_ro (u := v1) h
      show bX6_digest_109 93 (nI k) (nI 0) (hJ M v1) = _
      unfold bX6_digest_109
      simp (disch := first | assumption | omega | decide) only [↓reduceIte, ↓gfI_e, ↓pfI_e, ↓gfJ_e, ↓pfJ_e, ↓ltI_e, ↓ltJ_e, ↓cal_ok, ↓rz0, ↓rz1, ↓g33, ↓g45, ↓wK, ↓wO, ↓wB, ↓wL, ↓wS, ↓wP, ↓wQ, ↓wY, ↓wL0, ↓wL1, ↓wL2, ↓r93_95, ↓r93_96, ↓r93_98, ↓r93_99, ↓r93_100, ↓r93_101, ↓r93_106, ↓r93_107, ↓ldw1, ↓ldw2, ↓ldw3, ↓ldw5, ↓ldw6, ↓ldw7, ↓ldw8, ↓ldw9, ↓ldw10, ↓ldw11, ↓ld100, ↓ld101, ↓ld106, ↓ld107, nle_F, nle_T, nlt_F, nlt_T, neq_F, neq_T, nle0_T, nle0_F, nlt0_F, n0lt_T, n0lt_F, n0le_T, n1_eq0, n0_eq0, n0_eq1, n1_eq1, np1, Bool.false_eq_true, ld98, hJ_1, h2, show ((-1 : Int32) ≤ nI 0) = True by simp; decide]
      rfl
    · rw [q2, cl_n (by omega)]
      refine (fnl_up (g := gX6_digest) (fun j => (5, 93, nI k, nI j, hJ M (fJ (fun i => M.1 99 (80 * k + i)) v1 j))) n (fun j hj => ?_)).trans (fnl_in ?_)
      · show bX6_digest_109 93 (nI k) (nI j) (hJ M (fJ (fun i => M.1 99 (80 * k + i)) v1 j)) = some (Sum.inl (5, 93, nI k, nI (j + 1), hJ M (31 * fJ (fun i => M.1 99 (80 * k + i)) v1 j + (M.1 99 (80 * k + j)).toInt64)))
        have h3 := hJ_ro (u := fJ (fun i => M.1 99 (80 * k + i)) v1 j) h
        have er := byteAt_ok h3 hk q2 hn hj
        unfold bX6_digest_109
        simp (disch := first | assumption | omega | decide) only [↓reduceIte, ↓gfI_e, ↓pfI_e, ↓gfJ_e, ↓pfJ_e, ↓ltI_e, ↓ltJ_e, ↓cal_ok, ↓rz0, ↓rz1, ↓g33, ↓g45, ↓wK, ↓wO, ↓wB, ↓wL, ↓wS, ↓wP, ↓wQ, ↓wY, ↓wL0, ↓wL1, ↓wL2, ↓r93_95, ↓r93_96, ↓r93_98, ↓r93_99, ↓r93_100, ↓r93_101, ↓r93_106, ↓r93_107, ↓ldw1, ↓ldw2, ↓ldw3, ↓ldw5, ↓ldw6, ↓ldw7, ↓ldw8, ↓ldw9, ↓ldw10, ↓ldw11, ↓ld100, ↓ld101, ↓ld106, ↓ld107, nle_F, nle_T, nlt_F, nlt_T, neq_F, neq_T, nle0_T, nle0_F, nlt0_F, n0lt_T, n0lt_F, n0le_T, n1_eq0, n0_eq0, n0_eq1, n1_eq1, np1, Bool.false_eq_true, ld98, hJ_1, q2, er, mix_ok]
      · have h3 := hJ_ro (u := fJ (fun i => M.1 99 (80 * k + i)) v1 n) h
        show bX6_digest_109 93 (nI k) (nI n) (hJ M (fJ (fun i => M.1 99 (80 * k + i)) v1 n)) = _
        unfold bX6_digest_109
        simp (disch := first | assumption | omega | decide) only [↓reduceIte, ↓gfI_e, ↓pfI_e, ↓gfJ_e, ↓pfJ_e, ↓ltI_e, ↓ltJ_e, ↓cal_ok, ↓rz0, ↓rz1, ↓g33, ↓g45, ↓wK, ↓wO, ↓wB, ↓wL, ↓wS, ↓wP, ↓wQ, ↓wY, ↓wL0, ↓wL1, ↓wL2, ↓r93_95, ↓r93_96, ↓r93_98, ↓r93_99, ↓r93_100, ↓r93_101, ↓r93_106, ↓r93_107, ↓ldw1, ↓ldw2, ↓ldw3, ↓ldw5, ↓ldw6, ↓ldw7, ↓ldw8, ↓ldw9, ↓ldw10, ↓ldw11, ↓ld100, ↓ld101, ↓ld106, ↓ld107, nle_F, nle_T, nlt_F, nlt_T, neq_F, neq_T, nle0_T, nle0_F, nlt0_F, n0lt_T, n0lt_F, n0le_T, n1_eq0, n0_eq0, n0_eq1, n1_eq1, np1, Bool.false_eq_true, ld98, hJ_1, q2]
  have e4 : ∀ k, k ≤ 4 → fnl gX6_digest (4, 93, nI 0, 0, hJ M u) = fnl gX6_digest (4, 93, nI k, 0, hJ M (fRw M 98 99 80 u k)) := by
    intro k
    induction k with
    | zero => exact fun _ => rfl
    | succ k ih => exact fun hk => (ih (by omega)).trans (sx k (by omega) _)
  rw [e4 4 (Nat.le_refl _)]
  refine fnl_out ?_
  show bX6_digest_91 93 (nI 4) (hJ M (fRw M 98 99 80 u 4)) = _
  unfold bX6_digest_91
  simp (disch := first | assumption | omega | decide) only [↓reduceIte, ↓gfI_e, ↓pfI_e, ↓gfJ_e, ↓pfJ_e, ↓ltI_e, ↓ltJ_e, ↓cal_ok, ↓rz0, ↓rz1, ↓g33, ↓g45, ↓wK, ↓wO, ↓wB, ↓wL, ↓wS, ↓wP, ↓wQ, ↓wY, ↓wL0, ↓wL1, ↓wL2, ↓r93_95, ↓r93_96, ↓r93_98, ↓r93_99, ↓r93_100, ↓r93_101, ↓r93_106, ↓r93_107, ↓ldw1, ↓ldw2, ↓ldw3, ↓ldw5, ↓ldw6, ↓ldw7, ↓ldw8, ↓ldw9, ↓ldw10, ↓ldw11, ↓ld100, ↓ld101, ↓ld106, ↓ld107, nle_F, nle_T, nlt_F, nlt_T, neq_F, neq_T, nle0_T, nle0_F, nlt0_F, n0lt_T, n0lt_F, n0le_T, n1_eq0, n0_eq0, n0_eq1, n1_eq1, np1, Bool.false_eq_true, L4]
  rw [hJ_40]
end
theorem op_digest (M : Mm) (h : Rel M) : Good Rel (fX5_digest 0 M) (fX6_digest 93) := by
  obtain ⟨hRO, hF, hR, hX, T, hV, hC, hW, hK⟩ := id h
  refine ⟨digI M T, M, hJ M (digI M T), digest5_ok hRO hC hV hR hX hK, digest6_ok hRO hW hV hR hX, ?_⟩
  refine ⟨hRO, ⟨hF.1, hF.2.1, hF.2.2.1, ?_, ?_⟩, hR, hX, T, hV, hC, hW, hK⟩
  · exact hF.2.2.2.1
  · exact hF.2.2.2.2

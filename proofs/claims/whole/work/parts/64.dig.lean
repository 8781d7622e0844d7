/-! DIGEST -/
def fJ (f : Nat → Int32) (h : Int64) : Nat → Int64
  | 0 => h
  | k + 1 => 31 * fJ f h k + (f k).toInt64
theorem fJ_congr {f g : Nat → Int32} {h : Int64} : ∀ {n : Nat}, (∀ i, i < n → f i = g i) → fJ f h n = fJ g h n
  | 0, _ => rfl
  | n + 1, q => by
    show 31 * fJ f h n + _ = 31 * fJ g h n + _
    rw [fJ_congr (fun i hi => q i (by omega)), q n (by omega)]
def fPl (T : WT) (h : Int64) : Nat → Int64
  | 0 => h
  | x + 1 => fJ (factI T x) (fPl T h x) 6
def fW (T : WT) (h : Int64) : Int64 :=
  let h4 := fJ (fun i => nI (tp T i)) (fPl T (fJ (fun m => nI (tq T m)) h 3) (tn T)) (tb T)
  if tn T = 0 then h4 else fJ (fun i => nI (tz T i)) h4 (ts T + 1)
def fRw (M : Mm) (sz ct w : Nat) (h : Int64) : Nat → Int64
  | 0 => h
  | r + 1 => fJ (fun i => M.1 ct (w * r + i)) (31 * fRw M sz ct w h r + (M.1 sz r).toInt64) (M.1 sz r).toNatClampNeg
def kpI (M : Mm) (k : Nat) : Int32 := if M.1 108 k = 0 then -1 else M.1 109 k
def digI (M : Mm) (T : WT) : Int64 := fRw M 98 99 80 (fRw M 95 96 40 (fJ (kpI M) (fW T (fJ (cntI M T) 17 11)) 3) 6) 4
theorem cl_1 : (-1 : Int32).toNatClampNeg = 0 := by decide
theorem cl_n {n : Nat} (h : n < 2 ^ 31) : (nI n).toNatClampNeg = n := nI_clamp h
section
variable {M : Mm} {a : Nat} {T : WT}
theorem digestR_ok (h : RO M) {k : Nat} (hk : k < 6) (hR : Row1 13 95 96 40 40 M k) (h0 : Int64) : fX2_digestOn (13 + 2 * k) h0 M = some (fJ (fun i => M.1 96 (40 * k + i)) (31 * h0 + (M.1 95 k).toInt64) (M.1 95 k).toNatClampNeg, M) := by
  have e := row_eq hR
  unfold fX2_digestOn bX2_digestOn_0
  rw [gfI_e, ltJ_e, fen_l, e]
  rcases hR with ⟨h1, h2⟩ | ⟨n, hn, h1, h2, h3⟩
  · rw [h2, cl_1]
    refine fnl_out ?_
    show bX2_digestOn_15 (13 + 2 * k) _ (nI 0) M = _
    unfold bX2_digestOn_15
    rw [gfI_e, h1, if_pos (show (-1 : Int32) ≤ nI 0 by decide)]
    rfl
  · rw [h2, cl_n (by omega)]
    generalize 31 * h0 + (nI n).toInt64 = u
    refine (fnl_loop (fun j => (1, 13 + 2 * k, fJ (fun i => M.1 96 (40 * k + i)) u j, nI j, M)) n (fun j hj => ?_) ?_)
    · show bX2_digestOn_15 (13 + 2 * k) (fJ (fun i => M.1 96 (40 * k + i)) u j) (nI j) M = some (Sum.inl (1, 13 + 2 * k, 31 * fJ (fun i => M.1 96 (40 * k + i)) u j + (M.1 96 (40 * k + j)).toInt64, nI (j + 1), M))
      unfold bX2_digestOn_15
      simp (disch := first | assumption | omega | decide) only [↓reduceIte, ↓gfI_e, ↓pfI_e, ↓gfJ_e, ↓pfJ_e, ↓ltI_e, ↓ltJ_e, ↓cal_ok, ↓rz0, ↓rz1, ↓g33, ↓g45, ↓wK, ↓wO, ↓wB, ↓wL, ↓wS, ↓wP, ↓wQ, ↓wY, ↓wL0, ↓wL1, ↓wL2, ↓r93_95, ↓r93_96, ↓r93_98, ↓r93_99, ↓r93_100, ↓r93_101, ↓r93_106, ↓r93_107, ↓ldw1, ↓ldw2, ↓ldw3, ↓ldw5, ↓ldw6, ↓ldw7, ↓ldw8, ↓ldw9, ↓ldw10, ↓ldw11, ↓ld100, ↓ld101, ↓ld106, ↓ld107, nle_F, nle_T, nlt_F, nlt_T, neq_F, neq_T, nle0_T, nle0_F, nlt0_F, n0lt_T, n0lt_F, n0le_T, n1_eq0, n0_eq0, n0_eq1, n1_eq1, np1, Bool.false_eq_true, h1, gStrip h hk, ldRow1 hk, h3 j hj]
    · show bX2_digestOn_15 (13 + 2 * k) _ (nI n) M = _
      unfold bX2_digestOn_15
      simp (disch := first | assumption | omega | decide) only [↓reduceIte, ↓gfI_e, ↓pfI_e, ↓gfJ_e, ↓pfJ_e, ↓ltI_e, ↓ltJ_e, ↓cal_ok, ↓rz0, ↓rz1, ↓g33, ↓g45, ↓wK, ↓wO, ↓wB, ↓wL, ↓wS, ↓wP, ↓wQ, ↓wY, ↓wL0, ↓wL1, ↓wL2, ↓r93_95, ↓r93_96, ↓r93_98, ↓r93_99, ↓r93_100, ↓r93_101, ↓r93_106, ↓r93_107, ↓ldw1, ↓ldw2, ↓ldw3, ↓ldw5, ↓ldw6, ↓ldw7, ↓ldw8, ↓ldw9, ↓ldw10, ↓ldw11, ↓ld100, ↓ld101, ↓ld106, ↓ld107, nle_F, nle_T, nlt_F, nlt_T, neq_F, neq_T, nle0_T, nle0_F, nlt0_F, n0lt_T, n0lt_F, n0le_T, n1_eq0, n0_eq0, n0_eq1, n1_eq1, np1, Bool.false_eq_true, h1]
theorem digestX_ok (h : RO M) {k : Nat} (hk : k < 4) (hR : Row1 25 98 99 80 80 M k) (h0 : Int64) : fX2_digestOn (25 + 2 * k) h0 M = some (fJ (fun i => M.1 99 (80 * k + i)) (31 * h0 + (M.1 98 k).toInt64) (M.1 98 k).toNatClampNeg, M) := by
  have e := row_eq hR
  unfold fX2_digestOn bX2_digestOn_0
  rw [gfI_e, ltJ_e, fen_l, e]
  rcases hR with ⟨h1, h2⟩ | ⟨n, hn, h1, h2, h3⟩
  · rw [h2, cl_1]
    refine fnl_out ?_
    show bX2_digestOn_15 (25 + 2 * k) _ (nI 0) M = _
    unfold bX2_digestOn_15
    rw [gfI_e, h1, if_pos (show (-1 : Int32) ≤ nI 0 by decide)]
    rfl
  · rw [h2, cl_n (by omega)]
    generalize 31 * h0 + (nI n).toInt64 = u
    refine (fnl_loop (fun j => (1, 25 + 2 * k, fJ (fun i => M.1 99 (80 * k + i)) u j, nI j, M)) n (fun j hj => ?_) ?_)
    · show bX2_digestOn_15 (25 + 2 * k) (fJ (fun i => M.1 99 (80 * k + i)) u j) (nI j) M = some (Sum.inl (1, 25 + 2 * k, 31 * fJ (fun i => M.1 99 (80 * k + i)) u j + (M.1 99 (80 * k + j)).toInt64, nI (j + 1), M))
      unfold bX2_digestOn_15
      simp (disch := first | assumption | omega | decide) only [↓reduceIte, ↓gfI_e, ↓pfI_e, ↓gfJ_e, ↓pfJ_e, ↓ltI_e, ↓ltJ_e, ↓cal_ok, ↓rz0, ↓rz1, ↓g33, ↓g45, ↓wK, ↓wO, ↓wB, ↓wL, ↓wS, ↓wP, ↓wQ, ↓wY, ↓wL0, ↓wL1, ↓wL2, ↓r93_95, ↓r93_96, ↓r93_98, ↓r93_99, ↓r93_100, ↓r93_101, ↓r93_106, ↓r93_107, ↓ldw1, ↓ldw2, ↓ldw3, ↓ldw5, ↓ldw6, ↓ldw7, ↓ldw8, ↓ldw9, ↓ldw10, ↓ldw11, ↓ld100, ↓ld101, ↓ld106, ↓ld107, nle_F, nle_T, nlt_F, nlt_T, neq_F, neq_T, nle0_T, nle0_F, nlt0_F, n0lt_T, n0lt_F, n0le_T, n1_eq0, n0_eq0, n0_eq1, n1_eq1, np1, Bool.false_eq_true, h1, gStripT h hk, ldTxt1 hk, h3 j hj]
    · show bX2_digestOn_15 (25 + 2 * k) _ (nI n) M = _
      unfold bX2_digestOn_15
      simp (disch := first | assumption | omega | decide) only [↓reduceIte, ↓gfI_e, ↓pfI_e, ↓gfJ_e, ↓pfJ_e, ↓ltI_e, ↓ltJ_e, ↓cal_ok, ↓rz0, ↓rz1, ↓g33, ↓g45, ↓wK, ↓wO, ↓wB, ↓wL, ↓wS, ↓wP, ↓wQ, ↓wY, ↓wL0, ↓wL1, ↓wL2, ↓r93_95, ↓r93_96, ↓r93_98, ↓r93_99, ↓r93_100, ↓r93_101, ↓r93_106, ↓r93_107, ↓ldw1, ↓ldw2, ↓ldw3, ↓ldw5, ↓ldw6, ↓ldw7, ↓ldw8, ↓ldw9, ↓ldw10, ↓ldw11, ↓ld100, ↓ld101, ↓ld106, ↓ld107, nle_F, nle_T, nlt_F, nlt_T, neq_F, neq_T, nle0_T, nle0_F, nlt0_F, n0lt_T, n0lt_F, n0le_T, n1_eq0, n0_eq0, n0_eq1, n1_eq1, np1, Bool.false_eq_true, h1]
theorem digestW_ok (h : RO M) (hw : isW a) (hC : CWd a T M) (hV : VT T) (u : Int64) : fX4_digestOn a u M = some (fW T u, M) := by
  have hn8 := hV.n8
  have hb4 := hV.b4
  have hs := hV.s30
  unfold fX4_digestOn bX4_digestOn_0
  rw [fen_l]
  have e1 := fnl_up (g := gX4_digestOn) (fun k => (1, a, fJ (fun m => nI (tq T m)) u k, nI k, 0, M)) 3 (fun k hk => by
    show bX4_digestOn_5 a (fJ (fun m => nI (tq T m)) u k) (nI k) M = some (Sum.inl (1, a, 31 * fJ (fun m => nI (tq T m)) u k + (nI (tq T k)).toInt64, nI (k + 1), 0, M))
    unfold bX4_digestOn_5
    simp (disch := first | assumption | omega | decide) only [↓reduceIte, ↓gfI_e, ↓pfI_e, ↓gfJ_e, ↓pfJ_e, ↓ltI_e, ↓ltJ_e, ↓cal_ok, ↓rz0, ↓rz1, ↓g33, ↓g45, ↓wK, ↓wO, ↓wB, ↓wL, ↓wS, ↓wP, ↓wQ, ↓wY, ↓wL0, ↓wL1, ↓wL2, ↓r93_95, ↓r93_96, ↓r93_98, ↓r93_99, ↓r93_100, ↓r93_101, ↓r93_106, ↓r93_107, ↓ldw1, ↓ldw2, ↓ldw3, ↓ldw5, ↓ldw6, ↓ldw7, ↓ldw8, ↓ldw9, ↓ldw10, ↓ldw11, ↓ld100, ↓ld101, ↓ld106, ↓ld107, nle_F, nle_T, nlt_F, nlt_T, neq_F, neq_T, nle0_T, nle0_F, nlt0_F, n0lt_T, n0lt_F, n0le_T, n1_eq0, n0_eq0, n0_eq1, n1_eq1, np1, Bool.false_eq_true, L3, hC.q])
  have e1b : fnl gX4_digestOn (1, a, fJ (fun m => nI (tq T m)) u 3, nI 3, 0, M) = fnl gX4_digestOn (2, a, fJ (fun m => nI (tq T m)) u 3, nI 0, 0, M) := fnl_in rfl
  obtain ⟨u1, hu1⟩ : ∃ u1, u1 = fJ (fun m => nI (tq T m)) u 3 := ⟨_, rfl⟩
  rw [← hu1] at e1b
  have e1 : fnl gX4_digestOn (1, a, u, 0, 0, M) = fnl gX4_digestOn (1, a, u1, nI 3, 0, M) := by
    rw [hu1]
    exact e1
  have st : ∀ x, x < tn T → ∀ v, fnl gX4_digestOn (2, a, v, nI x, 0, M) = fnl gX4_digestOn (2, a, fJ (factI T x) v 6, nI (x + 1), 0, M) := by
    intro x hx v
    have f0 : fnl gX4_digestOn (2, a, v, nI x, 0, M) = fnl gX4_digestOn (3, a, v, nI x, nI 0, M) := by
      refine fnl_in ?_
      show bX4_digestOn_35 a v (nI x) M = _
      unfold bX4_digestOn_35
      simp (disch := first | assumption | omega | decide) only [↓reduceIte, ↓gfI_e, ↓pfI_e, ↓gfJ_e, ↓pfJ_e, ↓ltI_e, ↓ltJ_e, ↓cal_ok, ↓rz0, ↓rz1, ↓g33, ↓g45, ↓wK, ↓wO, ↓wB, ↓wL, ↓wS, ↓wP, ↓wQ, ↓wY, ↓wL0, ↓wL1, ↓wL2, ↓r93_95, ↓r93_96, ↓r93_98, ↓r93_99, ↓r93_100, ↓r93_101, ↓r93_106, ↓r93_107, ↓ldw1, ↓ldw2, ↓ldw3, ↓ldw5, ↓ldw6, ↓ldw7, ↓ldw8, ↓ldw9, ↓ldw10, ↓ldw11, ↓ld100, ↓ld101, ↓ld106, ↓ld107, nle_F, nle_T, nlt_F, nlt_T, neq_F, neq_T, nle0_T, nle0_F, nlt0_F, n0lt_T, n0lt_F, n0le_T, n1_eq0, n0_eq0, n0_eq1, n1_eq1, np1, Bool.false_eq_true, hC.n]
      rfl
    have f1 := fnl_up (g := gX4_digestOn) (fun k => (3, a, fJ (factI T x) v k, nI x, nI k, M)) 6 (fun k hk => by
      show bX4_digestOn_47 a (fJ (factI T x) v k) (nI x) (nI k) M = some (Sum.inl (3, a, 31 * fJ (factI T x) v k + (factI T x k).toInt64, nI x, nI (k + 1), M))
      have ef := factOf_ok h hw hC hV hx hk
      unfold bX4_digestOn_47
      simp (disch := first | assumption | omega | decide) only [↓reduceIte, ↓gfI_e, ↓pfI_e, ↓gfJ_e, ↓pfJ_e, ↓ltI_e, ↓ltJ_e, ↓cal_ok, ↓rz0, ↓rz1, ↓g33, ↓g45, ↓wK, ↓wO, ↓wB, ↓wL, ↓wS, ↓wP, ↓wQ, ↓wY, ↓wL0, ↓wL1, ↓wL2, ↓r93_95, ↓r93_96, ↓r93_98, ↓r93_99, ↓r93_100, ↓r93_101, ↓r93_106, ↓r93_107, ↓ldw1, ↓ldw2, ↓ldw3, ↓ldw5, ↓ldw6, ↓ldw7, ↓ldw8, ↓ldw9, ↓ldw10, ↓ldw11, ↓ld100, ↓ld101, ↓ld106, ↓ld107, nle_F, nle_T, nlt_F, nlt_T, neq_F, neq_T, nle0_T, nle0_F, nlt0_F, n0lt_T, n0lt_F, n0le_T, n1_eq0, n0_eq0, n0_eq1, n1_eq1, np1, Bool.false_eq_true, L6, ef])
    refine f0.trans (f1.trans (fnl_in ?_))
    show bX4_digestOn_47 a (fJ (factI T x) v 6) (nI x) (nI 6) M = _
    unfold bX4_digestOn_47
    simp (disch := first | assumption | omega | decide) only [↓reduceIte, ↓gfI_e, ↓pfI_e, ↓gfJ_e, ↓pfJ_e, ↓ltI_e, ↓ltJ_e, ↓cal_ok, ↓rz0, ↓rz1, ↓g33, ↓g45, ↓wK, ↓wO, ↓wB, ↓wL, ↓wS, ↓wP, ↓wQ, ↓wY, ↓wL0, ↓wL1, ↓wL2, ↓r93_95, ↓r93_96, ↓r93_98, ↓r93_99, ↓r93_100, ↓r93_101, ↓r93_106, ↓r93_107, ↓ldw1, ↓ldw2, ↓ldw3, ↓ldw5, ↓ldw6, ↓ldw7, ↓ldw8, ↓ldw9, ↓ldw10, ↓ldw11, ↓ld100, ↓ld101, ↓ld106, ↓ld107, nle_F, nle_T, nlt_F, nlt_T, neq_F, neq_T, nle0_T, nle0_F, nlt0_F, n0lt_T, n0lt_F, n0le_T, n1_eq0, n0_eq0, n0_eq1, n1_eq1, np1, Bool.false_eq_true, L6]
  have e2 : ∀ x, x ≤ tn T → fnl gX4_digestOn (2, a, u1, nI 0, 0, M) = fnl gX4_digestOn (2, a, fPl T u1 x, nI x, 0, M) := by
    intro x
    induction x with
    | zero => exact fun _ => rfl
    | succ x ih => exact fun hx => (ih (by omega)).trans (st x (by omega) _)
  have e2 := e2 _ (Nat.le_refl _)
  have e2b : fnl gX4_digestOn (2, a, fPl T u1 (tn T), nI (tn T), 0, M) = fnl gX4_digestOn (4, a, fPl T u1 (tn T), nI 0, 0, M) := by
    refine fnl_in ?_
    show bX4_digestOn_35 a _ (nI (tn T)) M = _
    unfold bX4_digestOn_35
    simp (disch := first | assumption | omega | decide) only [↓reduceIte, ↓gfI_e, ↓pfI_e, ↓gfJ_e, ↓pfJ_e, ↓ltI_e, ↓ltJ_e, ↓cal_ok, ↓rz0, ↓rz1, ↓g33, ↓g45, ↓wK, ↓wO, ↓wB, ↓wL, ↓wS, ↓wP, ↓wQ, ↓wY, ↓wL0, ↓wL1, ↓wL2, ↓r93_95, ↓r93_96, ↓r93_98, ↓r93_99, ↓r93_100, ↓r93_101, ↓r93_106, ↓r93_107, ↓ldw1, ↓ldw2, ↓ldw3, ↓ldw5, ↓ldw6, ↓ldw7, ↓ldw8, ↓ldw9, ↓ldw10, ↓ldw11, ↓ld100, ↓ld101, ↓ld106, ↓ld107, nle_F, nle_T, nlt_F, nlt_T, neq_F, neq_T, nle0_T, nle0_F, nlt0_F, n0lt_T, n0lt_F, n0le_T, n1_eq0, n0_eq0, n0_eq1, n1_eq1, np1, Bool.false_eq_true, hC.n]
    rfl
  have e3 := fnl_up (g := gX4_digestOn) (fun k => (4, a, fJ (fun i => nI (tp T i)) (fPl T u1 (tn T)) k, nI k, 0, M)) (tb T) (fun k hk => by
    show bX4_digestOn_85 a (fJ (fun i => nI (tp T i)) (fPl T u1 (tn T)) k) (nI k) M = some (Sum.inl (4, a, 31 * fJ (fun i => nI (tp T i)) (fPl T u1 (tn T)) k + (nI (tp T k)).toInt64, nI (k + 1), 0, M))
    unfold bX4_digestOn_85
    simp (disch := first | assumption | omega | decide) only [↓reduceIte, ↓gfI_e, ↓pfI_e, ↓gfJ_e, ↓pfJ_e, ↓ltI_e, ↓ltJ_e, ↓cal_ok, ↓rz0, ↓rz1, ↓g33, ↓g45, ↓wK, ↓wO, ↓wB, ↓wL, ↓wS, ↓wP, ↓wQ, ↓wY, ↓wL0, ↓wL1, ↓wL2, ↓r93_95, ↓r93_96, ↓r93_98, ↓r93_99, ↓r93_100, ↓r93_101, ↓r93_106, ↓r93_107, ↓ldw1, ↓ldw2, ↓ldw3, ↓ldw5, ↓ldw6, ↓ldw7, ↓ldw8, ↓ldw9, ↓ldw10, ↓ldw11, ↓ld100, ↓ld101, ↓ld106, ↓ld107, nle_F, nle_T, nlt_F, nlt_T, neq_F, neq_T, nle0_T, nle0_F, nlt0_F, n0lt_T, n0lt_F, n0le_T, n1_eq0, n0_eq0, n0_eq1, n1_eq1, np1, Bool.false_eq_true, hC.b, hC.p])
  unfold fW
  rw [← hu1, e1, e1b, e2, e2b, show fnl gX4_digestOn (4, a, fPl T u1 (tn T), nI 0, 0, M) = _ from e3]
  show _ = some (if tn T = 0 then fJ (fun i => nI (tp T i)) (fPl T u1 (tn T)) (tb T) else fJ (fun i => nI (tz T i)) (fJ (fun i => nI (tp T i)) (fPl T u1 (tn T)) (tb T)) (ts T + 1), M)
  generalize fJ (fun i => nI (tp T i)) (fPl T u1 (tn T)) (tb T) = u4
  have e4 : fnl gX4_digestOn (4, a, u4, nI (tb T), 0, M) = fnl gX4_digestOn (5, a, u4, nI 0, 0, M) := by
    refine fnl_in ?_
    show bX4_digestOn_85 a u4 (nI (tb T)) M = _
    unfold bX4_digestOn_85
    simp (disch := first | assumption | omega | decide) only [↓reduceIte, ↓gfI_e, ↓pfI_e, ↓gfJ_e, ↓pfJ_e, ↓ltI_e, ↓ltJ_e, ↓cal_ok, ↓rz0, ↓rz1, ↓g33, ↓g45, ↓wK, ↓wO, ↓wB, ↓wL, ↓wS, ↓wP, ↓wQ, ↓wY, ↓wL0, ↓wL1, ↓wL2, ↓r93_95, ↓r93_96, ↓r93_98, ↓r93_99, ↓r93_100, ↓r93_101, ↓r93_106, ↓r93_107, ↓ldw1, ↓ldw2, ↓ldw3, ↓ldw5, ↓ldw6, ↓ldw7, ↓ldw8, ↓ldw9, ↓ldw10, ↓ldw11, ↓ld100, ↓ld101, ↓ld106, ↓ld107, nle_F, nle_T, nlt_F, nlt_T, neq_F, neq_T, nle0_T, nle0_F, nlt0_F, n0lt_T, n0lt_F, n0le_T, n1_eq0, n0_eq0, n0_eq1, n1_eq1, np1, Bool.false_eq_true, hC.b]
    rfl
  rw [e4]
  by_cases h0 : tn T = 0
  · rw [if_pos h0]
    refine fnl_out ?_
    show bX4_digestOn_118 a u4 (nI 0) M = _
    unfold bX4_digestOn_118 bX4_digestOn_155
    simp (disch := first | assumption | omega | decide) only [↓reduceIte, ↓gfI_e, ↓pfI_e, ↓gfJ_e, ↓pfJ_e, ↓ltI_e, ↓ltJ_e, ↓cal_ok, ↓rz0, ↓rz1, ↓g33, ↓g45, ↓wK, ↓wO, ↓wB, ↓wL, ↓wS, ↓wP, ↓wQ, ↓wY, ↓wL0, ↓wL1, ↓wL2, ↓r93_95, ↓r93_96, ↓r93_98, ↓r93_99, ↓r93_100, ↓r93_101, ↓r93_106, ↓r93_107, ↓ldw1, ↓ldw2, ↓ldw3, ↓ldw5, ↓ldw6, ↓ldw7, ↓ldw8, ↓ldw9, ↓ldw10, ↓ldw11, ↓ld100, ↓ld101, ↓ld106, ↓ld107, nle_F, nle_T, nlt_F, nlt_T, neq_F, neq_T, nle0_T, nle0_F, nlt0_F, n0lt_T, n0lt_F, n0le_T, n1_eq0, n0_eq0, n0_eq1, n1_eq1, np1, Bool.false_eq_true, hC.s, isEmpty_ok hC hn8, h0]
  · rw [if_neg h0]
    refine fnl_loop (fun k => (5, a, fJ (fun i => nI (tz T i)) u4 k, nI k, 0, M)) (ts T + 1) (fun k hk => ?_) ?_
    · show bX4_digestOn_118 a (fJ (fun i => nI (tz T i)) u4 k) (nI k) M = some (Sum.inl (5, a, 31 * fJ (fun i => nI (tz T i)) u4 k + (nI (tz T k)).toInt64, nI (k + 1), 0, M))
      unfold bX4_digestOn_118
      simp (disch := first | assumption | omega | decide) only [↓reduceIte, ↓gfI_e, ↓pfI_e, ↓gfJ_e, ↓pfJ_e, ↓ltI_e, ↓ltJ_e, ↓cal_ok, ↓rz0, ↓rz1, ↓g33, ↓g45, ↓wK, ↓wO, ↓wB, ↓wL, ↓wS, ↓wP, ↓wQ, ↓wY, ↓wL0, ↓wL1, ↓wL2, ↓r93_95, ↓r93_96, ↓r93_98, ↓r93_99, ↓r93_100, ↓r93_101, ↓r93_106, ↓r93_107, ↓ldw1, ↓ldw2, ↓ldw3, ↓ldw5, ↓ldw6, ↓ldw7, ↓ldw8, ↓ldw9, ↓ldw10, ↓ldw11, ↓ld100, ↓ld101, ↓ld106, ↓ld107, nle_F, nle_T, nlt_F, nlt_T, neq_F, neq_T, nle0_T, nle0_F, nlt0_F, n0lt_T, n0lt_F, n0le_T, n1_eq0, n0_eq0, n0_eq1, n1_eq1, np1, Bool.false_eq_true, hC.s, isEmpty_ok hC hn8, h0, hC.z]
    · show bX4_digestOn_118 a _ (nI (ts T + 1)) M = _
      unfold bX4_digestOn_118 bX4_digestOn_155
      simp (disch := first | assumption | omega | decide) only [↓reduceIte, ↓gfI_e, ↓pfI_e, ↓gfJ_e, ↓pfJ_e, ↓ltI_e, ↓ltJ_e, ↓cal_ok, ↓rz0, ↓rz1, ↓g33, ↓g45, ↓wK, ↓wO, ↓wB, ↓wL, ↓wS, ↓wP, ↓wQ, ↓wY, ↓wL0, ↓wL1, ↓wL2, ↓r93_95, ↓r93_96, ↓r93_98, ↓r93_99, ↓r93_100, ↓r93_101, ↓r93_106, ↓r93_107, ↓ldw1, ↓ldw2, ↓ldw3, ↓ldw5, ↓ldw6, ↓ldw7, ↓ldw8, ↓ldw9, ↓ldw10, ↓ldw11, ↓ld100, ↓ld101, ↓ld106, ↓ld107, nle_F, nle_T, nlt_F, nlt_T, neq_F, neq_T, nle0_T, nle0_F, nlt0_F, n0lt_T, n0lt_F, n0le_T, n1_eq0, n0_eq0, n0_eq1, n1_eq1, np1, Bool.false_eq_true, hC.s]
end
theorem digest5_ok {M : Mm} {T : WT} (h : RO M) (hC : CWd 33 T M) (hV : VT T) (hR : ∀ r, r < 6 → Row1 13 95 96 40 40 M r) (hX : ∀ t, t < 4 → Row1 25 98 99 80 80 M t) (hK : ∀ k, k < 3 → Kp1 T M k) : fX5_digest 0 M = some (digI M T, M) := by
  unfold fX5_digest bX5_digest_0 digI
  rw [fen_l]
  have e1 := fnl_up (g := gX5_digest) (fun k => (1, 0, fJ (cntI M T) 17 k, nI k, M)) 11 (fun k hk => by
    show bX5_digest_6 0 (fJ (cntI M T) 17 k) (nI k) M = some (Sum.inl (1, 0, 31 * fJ (cntI M T) 17 k + (cntI M T k).toInt64, nI (k + 1), M))
    unfold bX5_digest_6
    simp (disch := first | assumption | omega | decide) only [↓reduceIte, ↓gfI_e, ↓pfI_e, ↓gfJ_e, ↓pfJ_e, ↓ltI_e, ↓ltJ_e, ↓cal_ok, ↓rz0, ↓rz1, ↓g33, ↓g45, ↓wK, ↓wO, ↓wB, ↓wL, ↓wS, ↓wP, ↓wQ, ↓wY, ↓wL0, ↓wL1, ↓wL2, ↓r93_95, ↓r93_96, ↓r93_98, ↓r93_99, ↓r93_100, ↓r93_101, ↓r93_106, ↓r93_107, ↓ldw1, ↓ldw2, ↓ldw3, ↓ldw5, ↓ldw6, ↓ldw7, ↓ldw8, ↓ldw9, ↓ldw10, ↓ldw11, ↓ld100, ↓ld101, ↓ld106, ↓ld107, nle_F, nle_T, nlt_F, nlt_T, neq_F, neq_T, nle0_T, nle0_F, nlt0_F, n0lt_T, n0lt_F, n0le_T, n1_eq0, n0_eq0, n0_eq1, n1_eq1, np1, Bool.false_eq_true, L11, count5_ok h hC hV hR hX hK hk])
  rw [show fnl gX5_digest (1, 0, 17, 0, M) = _ from e1]
  generalize fJ (cntI M T) 17 11 = u
  have e2 : fnl gX5_digest (1, 0, u, nI 11, M) = fnl gX5_digest (2, 0, fW T u, nI 0, M) := by
    refine fnl_in ?_
    show bX5_digest_6 0 u (nI 11) M = _
    unfold bX5_digest_6
    simp (disch := first | assumption | omega | decide) only [↓reduceIte, ↓gfI_e, ↓pfI_e, ↓gfJ_e, ↓pfJ_e, ↓ltI_e, ↓ltJ_e, ↓cal_ok, ↓rz0, ↓rz1, ↓g33, ↓g45, ↓wK, ↓wO, ↓wB, ↓wL, ↓wS, ↓wP, ↓wQ, ↓wY, ↓wL0, ↓wL1, ↓wL2, ↓r93_95, ↓r93_96, ↓r93_98, ↓r93_99, ↓r93_100, ↓r93_101, ↓r93_106, ↓r93_107, ↓ldw1, ↓ldw2, ↓ldw3, ↓ldw5, ↓ldw6, ↓ldw7, ↓ldw8, ↓ldw9, ↓ldw10, ↓ldw11, ↓ld100, ↓ld101, ↓ld106, ↓ld107, nle_F, nle_T, nlt_F, nlt_T, neq_F, neq_T, nle0_T, nle0_F, nlt0_F, n0lt_T, n0lt_F, n0le_T, n1_eq0, n0_eq0, n0_eq1, n1_eq1, np1, Bool.false_eq_true, L11, digestW_ok h w33 hC hV]
    rfl
  show fnl gX5_digest (1, 0, u, nI 11, M) = _
  rw [e2]
  generalize fW T u = u
  have e3 := fnl_up (g := gX5_digest) (fun k => (2, 0, fJ (kpI M) u k, nI k, M)) 3 (fun k hk => by
    show bX5_digest_42 0 (fJ (kpI M) u k) (nI k) M = some (Sum.inl (2, 0, 31 * fJ (kpI M) u k + (if M.1 108 k = 0 then -1 else M.1 109 k).toInt64, nI (k + 1), M))
    have hk2 := kp_eq (hK k hk)
    unfold bX5_digest_42 bX5_digest_77
    by_cases q : M.1 108 k = 0
    · have q2 := hk2.1.mpr q
      simp (disch := first | assumption | omega | decide) only [↓reduceIte, ↓gfI_e, ↓pfI_e, ↓gfJ_e, ↓pfJ_e, ↓ltI_e, ↓ltJ_e, ↓cal_ok, ↓rz0, ↓rz1, ↓g33, ↓g45, ↓wK, ↓wO, ↓wB, ↓wL, ↓wS, ↓wP, ↓wQ, ↓wY, ↓wL0, ↓wL1, ↓wL2, ↓r93_95, ↓r93_96, ↓r93_98, ↓r93_99, ↓r93_100, ↓r93_101, ↓r93_106, ↓r93_107, ↓ldw1, ↓ldw2, ↓ldw3, ↓ldw5, ↓ldw6, ↓ldw7, ↓ldw8, ↓ldw9, ↓ldw10, ↓ldw11, ↓ld100, ↓ld101, ↓ld106, ↓ld107, nle_F, nle_T, nlt_F, nlt_T, neq_F, neq_T, nle0_T, nle0_F, nlt0_F, n0lt_T, n0lt_F, n0le_T, n1_eq0, n0_eq0, n0_eq1, n1_eq1, np1, Bool.false_eq_true, L3, g3s, ldKp, isE_ok, q2, q]
    · have q2 : ¬ M.1 (57 + 12 * k) 0 = 0 := fun z => q (hk2.1.mp z)
      simp (disch := first | assumption | omega | decide) only [↓reduceIte, ↓gfI_e, ↓pfI_e, ↓gfJ_e, ↓pfJ_e, ↓ltI_e, ↓ltJ_e, ↓cal_ok, ↓rz0, ↓rz1, ↓g33, ↓g45, ↓wK, ↓wO, ↓wB, ↓wL, ↓wS, ↓wP, ↓wQ, ↓wY, ↓wL0, ↓wL1, ↓wL2, ↓r93_95, ↓r93_96, ↓r93_98, ↓r93_99, ↓r93_100, ↓r93_101, ↓r93_106, ↓r93_107, ↓ldw1, ↓ldw2, ↓ldw3, ↓ldw5, ↓ldw6, ↓ldw7, ↓ldw8, ↓ldw9, ↓ldw10, ↓ldw11, ↓ld100, ↓ld101, ↓ld106, ↓ld107, nle_F, nle_T, nlt_F, nlt_T, neq_F, neq_T, nle0_T, nle0_F, nlt0_F, n0lt_T, n0lt_F, n0le_T, n1_eq0, n0_eq0, n0_eq1, n1_eq1, np1, Bool.false_eq_true, L3, g3s, ldKp, isE_ok, q2, q, hk2.2 q2])
  rw [show fnl gX5_digest (2, 0, u, nI 0, M) = _ from e3]
  generalize fJ (kpI M) u 3 = u
  show fnl gX5_digest (2, 0, u, nI 3, M) = _
  rw [show fnl gX5_digest (2, 0, u, nI 3, M) = fnl gX5_digest (3, 0, u, nI 0, M) from fnl_in rfl]
  have e4 := fnl_up (g := gX5_digest) (fun k => (3, 0, fRw M 95 96 40 u k, nI k, M)) 6 (fun k hk => by
    show bX5_digest_88 0 (fRw M 95 96 40 u k) (nI k) M = some (Sum.inl (3, 0, fJ (fun i => M.1 96 (40 * k + i)) (31 * fRw M 95 96 40 u k + (M.1 95 k).toInt64) (M.1 95 k).toNatClampNeg, nI (k + 1), M))
    unfold bX5_digest_88
    simp (disch := first | assumption | omega | decide) only [↓reduceIte, ↓gfI_e, ↓pfI_e, ↓gfJ_e, ↓pfJ_e, ↓ltI_e, ↓ltJ_e, ↓cal_ok, ↓rz0, ↓rz1, ↓g33, ↓g45, ↓wK, ↓wO, ↓wB, ↓wL, ↓wS, ↓wP, ↓wQ, ↓wY, ↓wL0, ↓wL1, ↓wL2, ↓r93_95, ↓r93_96, ↓r93_98, ↓r93_99, ↓r93_100, ↓r93_101, ↓r93_106, ↓r93_107, ↓ldw1, ↓ldw2, ↓ldw3, ↓ldw5, ↓ldw6, ↓ldw7, ↓ldw8, ↓ldw9, ↓ldw10, ↓ldw11, ↓ld100, ↓ld101, ↓ld106, ↓ld107, nle_F, nle_T, nlt_F, nlt_T, neq_F, neq_T, nle0_T, nle0_F, nlt0_F, n0lt_T, n0lt_F, n0le_T, n1_eq0, n0_eq0, n0_eq1, n1_eq1, np1, Bool.false_eq_true, L6, g1s, ldRow, digestR_ok h hk (hR k hk)])
  rw [show fnl gX5_digest (3, 0, u, nI 0, M) = _ from e4]
  generalize fRw M 95 96 40 u 6 = u
  show fnl gX5_digest (3, 0, u, nI 6, M) = _
  rw [show fnl gX5_digest (3, 0, u, nI 6, M) = fnl gX5_digest (4, 0, u, nI 0, M) from fnl_in rfl]
  refine fnl_loop (fun k => (4, 0, fRw M 98 99 80 u k, nI k, M)) 4 (fun k hk => ?_) rfl
  show bX5_digest_113 0 (fRw M 98 99 80 u k) (nI k) M = some (Sum.inl (4, 0, fJ (fun i => M.1 99 (80 * k + i)) (31 * fRw M 98 99 80 u k + (M.1 98 k).toInt64) (M.1 98 k).toNatClampNeg, nI (k + 1), M))
  unfold bX5_digest_113
  simp (disch := first | assumption | omega | decide) only [↓reduceIte, ↓gfI_e, ↓pfI_e, ↓gfJ_e, ↓pfJ_e, ↓ltI_e, ↓ltJ_e, ↓cal_ok, ↓rz0, ↓rz1, ↓g33, ↓g45, ↓wK, ↓wO, ↓wB, ↓wL, ↓wS, ↓wP, ↓wQ, ↓wY, ↓wL0, ↓wL1, ↓wL2, ↓r93_95, ↓r93_96, ↓r93_98, ↓r93_99, ↓r93_100, ↓r93_101, ↓r93_106, ↓r93_107, ↓ldw1, ↓ldw2, ↓ldw3, ↓ldw5, ↓ldw6, ↓ldw7, ↓ldw8, ↓ldw9, ↓ldw10, ↓ldw11, ↓ld100, ↓ld101, ↓ld106, ↓ld107, nle_F, nle_T, nlt_F, nlt_T, neq_F, neq_T, nle0_T, nle0_F, nlt0_F, n0lt_T, n0lt_F, n0le_T, n1_eq0, n0_eq0, n0_eq1, n1_eq1, np1, Bool.false_eq_true, L4, g2s, ldTxt, digestX_ok h hk (hX k hk)]

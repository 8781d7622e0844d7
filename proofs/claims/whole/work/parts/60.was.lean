/-! BIRD, WAS -/
theorem nor0 {v : Int32} : v ||| nI 0 = v := Int32.or_zero
def flT (T : WT) (x : Nat) : Nat := flN (te T x) x
def itF (T : WT) : Nat → Nat → Nat
  | 0, x => x
  | k + 1, x => flT T (itF T k x)
theorem itF_s (T : WT) (k x : Nat) : itF T (k + 1) x = itF T k (flT T x) := by
  induction k with
  | zero => rfl
  | succ k ih =>
    show flT T (itF T (k + 1) x) = flT T (itF T k (flT T x))
    rw [ih]
theorem itF_lt {T : WT} (hV : VT T) (k : Nat) {x : Nat} (hx : x < tn T) : itF T k x < tn T := by
  induction k with
  | zero => exact hx
  | succ k ih => exact fl_n hV ih
def wsN (T : WT) (p k : Nat) : Nat := setN (fun x => itF T k x == p) (tn T)
theorem ws_lt (T : WT) (p k : Nat) : wsN T p k < 2 ^ tn T := setN_lt _ _
theorem tells_ok (v r : Int32) (M : Mm) : fX6_tells 93 v r M = some (r, wI M 93 2 v) := rfl
section
variable {M : Mm} {a : Nat} {T : WT}
theorem flown_ok (h : RO M) (hw : isW a) (hC : CWd a T M) (hV : VT T) {p k : Nat} : fX4_flownFrom a (nI (wsN T p k)) M = some (nI (wsN T p (k + 1)), M) := by
  have hn8 := hV.n8
  have hS : wsN T p k < 256 := pow_lt8 hn8 (ws_lt _ _ _)
  unfold fX4_flownFrom bX4_flownFrom_0
  rw [fen_l]
  refine fnl_loop (fun j => (1, a, nI (wsN T p k), nI (setN (fun x => itF T (k + 1) x == p) j), nI j, M)) (tn T) (fun j hj => ?_) ?_
  · show bX4_flownFrom_4 a (nI (wsN T p k)) (nI (setN (fun x => itF T (k + 1) x == p) j)) (nI j) M = some (Sum.inl (1, a, nI (wsN T p k), nI (setN (fun x => itF T (k + 1) x == p) (j + 1)), nI (j + 1), M))
    unfold bX4_flownFrom_4 bX4_flownFrom_31
    have hf := fl_n hV hj
    have e1 := flight_ok h hw hC hV hj
    have eb := fun o1 o2 : Option ((Nat × Nat × Int32 × Int32 × Int32 × Mm) ⊕ Int32 × Mm) => bit_if hS (show flN (te T j) j < 8 by omega) o1 o2
    have et : (wsN T p k).testBit (flN (te T j) j) = (itF T (k + 1) j == p) := by
      unfold wsN
      rw [setN_bit, itF_s]
      simp [hf]
      rfl
    rw [setN_or, ← nI_or]
    simp (disch := first | assumption | omega | decide) only [↓reduceIte, ↓gfI_e, ↓pfI_e, ↓gfJ_e, ↓pfJ_e, ↓ltI_e, ↓ltJ_e, ↓cal_ok, ↓rz0, ↓rz1, ↓g33, ↓g45, ↓wK, ↓wO, ↓wB, ↓wL, ↓wS, ↓wP, ↓wQ, ↓wY, ↓wL0, ↓wL1, ↓wL2, ↓r93_95, ↓r93_96, ↓r93_98, ↓r93_99, ↓r93_100, ↓r93_101, ↓r93_106, ↓r93_107, ↓ldw1, ↓ldw2, ↓ldw3, ↓ldw5, ↓ldw6, ↓ldw7, ↓ldw8, ↓ldw9, ↓ldw10, ↓ldw11, ↓ld100, ↓ld101, ↓ld106, ↓ld107, nle_F, nle_T, nlt_F, nlt_T, neq_F, neq_T, nle0_T, nle0_F, nlt0_F, n0lt_T, n0lt_F, n0le_T, n1_eq0, n0_eq0, n0_eq1, n1_eq1, np1, Bool.false_eq_true, hC.n, e1, eb, et]
    by_cases q : (itF T (k + 1) j == p) = true
    · simp (disch := first | assumption | omega | decide) only [↓reduceIte, ↓gfI_e, ↓pfI_e, ↓gfJ_e, ↓pfJ_e, ↓ltI_e, ↓ltJ_e, ↓cal_ok, ↓rz0, ↓rz1, ↓g33, ↓g45, ↓wK, ↓wO, ↓wB, ↓wL, ↓wS, ↓wP, ↓wQ, ↓wY, ↓wL0, ↓wL1, ↓wL2, ↓r93_95, ↓r93_96, ↓r93_98, ↓r93_99, ↓r93_100, ↓r93_101, ↓r93_106, ↓r93_107, ↓ldw1, ↓ldw2, ↓ldw3, ↓ldw5, ↓ldw6, ↓ldw7, ↓ldw8, ↓ldw9, ↓ldw10, ↓ldw11, ↓ld100, ↓ld101, ↓ld106, ↓ld107, nle_F, nle_T, nlt_F, nlt_T, neq_F, neq_T, nle0_T, nle0_F, nlt0_F, n0lt_T, n0lt_F, n0le_T, n1_eq0, n0_eq0, n0_eq1, n1_eq1, np1, Bool.false_eq_true, q, shl1]
    · simp (disch := first | assumption | omega | decide) only [↓reduceIte, ↓gfI_e, ↓pfI_e, ↓gfJ_e, ↓pfJ_e, ↓ltI_e, ↓ltJ_e, ↓cal_ok, ↓rz0, ↓rz1, ↓g33, ↓g45, ↓wK, ↓wO, ↓wB, ↓wL, ↓wS, ↓wP, ↓wQ, ↓wY, ↓wL0, ↓wL1, ↓wL2, ↓r93_95, ↓r93_96, ↓r93_98, ↓r93_99, ↓r93_100, ↓r93_101, ↓r93_106, ↓r93_107, ↓ldw1, ↓ldw2, ↓ldw3, ↓ldw5, ↓ldw6, ↓ldw7, ↓ldw8, ↓ldw9, ↓ldw10, ↓ldw11, ↓ld100, ↓ld101, ↓ld106, ↓ld107, nle_F, nle_T, nlt_F, nlt_T, neq_F, neq_T, nle0_T, nle0_F, nlt0_F, n0lt_T, n0lt_F, n0le_T, n1_eq0, n0_eq0, n0_eq1, n1_eq1, np1, Bool.false_eq_true, q, nor0]
  · show bX4_flownFrom_4 a (nI (wsN T p k)) _ (nI (tn T)) M = _
    unfold bX4_flownFrom_4
    simp (disch := first | assumption | omega | decide) only [↓reduceIte, ↓gfI_e, ↓pfI_e, ↓gfJ_e, ↓pfJ_e, ↓ltI_e, ↓ltJ_e, ↓cal_ok, ↓rz0, ↓rz1, ↓g33, ↓g45, ↓wK, ↓wO, ↓wB, ↓wL, ↓wS, ↓wP, ↓wQ, ↓wY, ↓wL0, ↓wL1, ↓wL2, ↓r93_95, ↓r93_96, ↓r93_98, ↓r93_99, ↓r93_100, ↓r93_101, ↓r93_106, ↓r93_107, ↓ldw1, ↓ldw2, ↓ldw3, ↓ldw5, ↓ldw6, ↓ldw7, ↓ldw8, ↓ldw9, ↓ldw10, ↓ldw11, ↓ld100, ↓ld101, ↓ld106, ↓ld107, nle_F, nle_T, nlt_F, nlt_T, neq_F, neq_T, nle0_T, nle0_F, nlt0_F, n0lt_T, n0lt_F, n0le_T, n1_eq0, n0_eq0, n0_eq1, n1_eq1, np1, Bool.false_eq_true, hC.n]
    rfl
end
theorem bpred {b : Nat} {i : Int32} (hb : b ≤ 4) : (0 ≤ i ∧ i ≤ nI b - 1) ↔ (0 ≤ i ∧ i < nI b) := i32_in_pred (by omega)
theorem op_bird (M : Mm) (h : Rel M) (i : Int32) : Good Rel (fX5_bird 0 i M) (fX6_bird 93 i) := by
  obtain ⟨hRO, hF, hR, hX, T, hV, hC, hW, hK⟩ := id h
  have hn8 := hV.n8
  have hb4 := hV.b4
  by_cases hi : 0 ≤ i ∧ i < nI (tb T)
  · obtain ⟨k, hk, rfl⟩ := i32_lt_nat (by omega) hi.1 hi.2
    have hp := hV.p8 hk
    have hC1 : CWd 33 T (wI M 0 10 (nI (flT T (tp T k)))) := hC.same (fun c h1 h2 => wI_ne (by omega))
    have hW1 : RWd T (wI M 0 10 (nI (flT T (tp T k)))) := RWd.same (M := M) rfl rfl rfl (fun c hc => wI_ne (by omega)) hW
    have h1 : RO (wI M 0 10 (nI (flT T (tp T k)))) := hRO
    refine ⟨nI (tp T k), wI M 0 10 (nI (flT T (tp T k))), wI (wI M 0 10 (nI (flT T (tp T k)))) 93 2 (nI (flT T (tp T k))), ?_, ?_, ?_⟩
    · have e1 := flight_ok hRO w33 hC hV hp
      have hw := w33
      unfold fX5_bird
      rw [g33 hRO, gfI_e, hC.b, isBelow_ok, if_pos hi]
      simp (disch := first | assumption | omega | decide) only [↓reduceIte, ↓gfI_e, ↓pfI_e, ↓gfJ_e, ↓pfJ_e, ↓ltI_e, ↓ltJ_e, ↓cal_ok, ↓rz0, ↓rz1, ↓g33, ↓g45, ↓wK, ↓wO, ↓wB, ↓wL, ↓wS, ↓wP, ↓wQ, ↓wY, ↓wL0, ↓wL1, ↓wL2, ↓r93_95, ↓r93_96, ↓r93_98, ↓r93_99, ↓r93_100, ↓r93_101, ↓r93_106, ↓r93_107, ↓ldw1, ↓ldw2, ↓ldw3, ↓ldw5, ↓ldw6, ↓ldw7, ↓ldw8, ↓ldw9, ↓ldw10, ↓ldw11, ↓ld100, ↓ld101, ↓ld106, ↓ld107, nle_F, nle_T, nlt_F, nlt_T, neq_F, neq_T, nle0_T, nle0_F, nlt0_F, n0lt_T, n0lt_F, n0le_T, n1_eq0, n0_eq0, n0_eq1, n1_eq1, np1, Bool.false_eq_true, hC.p, e1]
      rw [show flN (te T (tp T k)) (tp T k) = flT T (tp T k) from rfl]
      simp (disch := first | assumption | omega | decide) only [↓reduceIte, ↓gfI_e, ↓pfI_e, ↓gfJ_e, ↓pfJ_e, ↓ltI_e, ↓ltJ_e, ↓cal_ok, ↓rz0, ↓rz1, ↓g33, ↓g45, ↓wK, ↓wO, ↓wB, ↓wL, ↓wS, ↓wP, ↓wQ, ↓wY, ↓wL0, ↓wL1, ↓wL2, ↓r93_95, ↓r93_96, ↓r93_98, ↓r93_99, ↓r93_100, ↓r93_101, ↓r93_106, ↓r93_107, ↓ldw1, ↓ldw2, ↓ldw3, ↓ldw5, ↓ldw6, ↓ldw7, ↓ldw8, ↓ldw9, ↓ldw10, ↓ldw11, ↓ld100, ↓ld101, ↓ld106, ↓ld107, nle_F, nle_T, nlt_F, nlt_T, neq_F, neq_T, nle0_T, nle0_F, nlt0_F, n0lt_T, n0lt_F, n0le_T, n1_eq0, n0_eq0, n0_eq1, n1_eq1, np1, Bool.false_eq_true, hC1.p]
    · have ev := v0_ok h1 (v := 32) 32 (i := k) rfl (by omega)
      rw [show (wI M 0 10 (nI (flT T (tp T k)))).1 106 (32 + k) = nI (tp T k) from hW1.2.2.2.2.2.2.2.1 k hk] at ev
      show fX6_bird 93 (nI k) (wI M 0 10 (nI (flT T (tp T k)))) = _
      unfold fX6_bird
      rw [gfI_e, hW1.v.b, in_ok, if_pos ((bpred hb4).mpr hi)]
      simp (disch := first | assumption | omega | decide) only [↓reduceIte, ↓gfI_e, ↓pfI_e, ↓gfJ_e, ↓pfJ_e, ↓ltI_e, ↓ltJ_e, ↓cal_ok, ↓rz0, ↓rz1, ↓g33, ↓g45, ↓wK, ↓wO, ↓wB, ↓wL, ↓wS, ↓wP, ↓wQ, ↓wY, ↓wL0, ↓wL1, ↓wL2, ↓r93_95, ↓r93_96, ↓r93_98, ↓r93_99, ↓r93_100, ↓r93_101, ↓r93_106, ↓r93_107, ↓ldw1, ↓ldw2, ↓ldw3, ↓ldw5, ↓ldw6, ↓ldw7, ↓ldw8, ↓ldw9, ↓ldw10, ↓ldw11, ↓ld100, ↓ld101, ↓ld106, ↓ld107, nle_F, nle_T, nlt_F, nlt_T, neq_F, neq_T, nle0_T, nle0_F, nlt0_F, n0lt_T, n0lt_F, n0le_T, n1_eq0, n0_eq0, n0_eq1, n1_eq1, np1, Bool.false_eq_true, ev, next_ok h1 hW1.v hV hp, tells_ok]
      rfl
    · refine h.told (fun c q h0 h12 h94 h93 => ?_) rfl ⟨hF.1, hF.2.1, rfl, hF.2.2.2.1, hF.2.2.2.2⟩
      rw [wI_at, if_neg (by omega), wI_at, if_neg (by omega)]
  · refine ⟨-1, M, M, ?_, ?_, h⟩
    · unfold fX5_bird
      rw [g33 hRO, gfI_e, hC.b, isBelow_ok, cal_ok, if_neg hi, if_pos rfl]
    · show fX6_bird 93 i M = _
      unfold fX6_bird
      rw [gfI_e, hW.v.b, in_ok, cal_ok, if_neg (fun z => hi ((bpred hb4).mp z)), if_pos rfl]
theorem was6_ok {M : Mm} {T : WT} (h : RO M) (hW : RWd T M) (hV : VT T) {i n : Nat} (hi : i < tb T) (hn : n < 2 ^ 31) : fnl gX6_was (1, 93, nI i, nI n, 0, 0, 0, 0, M) = some (nI (wsN T (tp T i) n), M) := by
  have hn8 := hV.n8
  have hb4 := hV.b4
  have ev := v0_ok h (v := 32) 32 (i := i) rfl (by omega)
  rw [hW.2.2.2.2.2.2.2.1 i hi] at ev
  have hp := hV.p8 hi
  have step : ∀ x, x < tn T → fnl gX6_was (1, 93, nI i, nI n, nI (setN (fun x => itF T n x == tp T i) x), nI x, 0, 0, M) = fnl gX6_was (1, 93, nI i, nI n, nI (setN (fun x => itF T n x == tp T i) (x + 1)), nI (x + 1), 0, 0, M) := by
    intro x hx
    have e0 : fnl gX6_was (1, 93, nI i, nI n, nI (setN (fun x => itF T n x == tp T i) x), nI x, 0, 0, M) = fnl gX6_was (2, 93, nI i, nI n, nI (setN (fun x => itF T n x == tp T i) x), nI x, nI (itF T 0 x), nI 0, M) := by
      refine fnl_in ?_
      show bX6_was_31 93 (nI i) (nI n) _ (nI x) M = _
      unfold bX6_was_31
      simp (disch := first | assumption | omega | decide) only [↓reduceIte, ↓gfI_e, ↓pfI_e, ↓gfJ_e, ↓pfJ_e, ↓ltI_e, ↓ltJ_e, ↓cal_ok, ↓rz0, ↓rz1, ↓g33, ↓g45, ↓wK, ↓wO, ↓wB, ↓wL, ↓wS, ↓wP, ↓wQ, ↓wY, ↓wL0, ↓wL1, ↓wL2, ↓r93_95, ↓r93_96, ↓r93_98, ↓r93_99, ↓r93_100, ↓r93_101, ↓r93_106, ↓r93_107, ↓ldw1, ↓ldw2, ↓ldw3, ↓ldw5, ↓ldw6, ↓ldw7, ↓ldw8, ↓ldw9, ↓ldw10, ↓ldw11, ↓ld100, ↓ld101, ↓ld106, ↓ld107, nle_F, nle_T, nlt_F, nlt_T, neq_F, neq_T, nle0_T, nle0_F, nlt0_F, n0lt_T, n0lt_F, n0le_T, n1_eq0, n0_eq0, n0_eq1, n1_eq1, np1, Bool.false_eq_true, hW.v.n]
      rfl
    have e1 := fnl_up (g := gX6_was) (fun k => (2, 93, nI i, nI n, nI (setN (fun x => itF T n x == tp T i) x), nI x, nI (itF T k x), nI k, M)) n (fun k hk => by
      show bX6_was_47 93 (nI i) (nI n) _ (nI x) (nI (itF T k x)) (nI k) M = some (Sum.inl (2, 93, nI i, nI n, nI (setN (fun x => itF T n x == tp T i) x), nI x, nI (flT T (itF T k x)), nI (k + 1), M))
      have e2 := next_ok h hW.v hV (itF_lt hV k hx)
      unfold bX6_was_47
      simp (disch := first | assumption | omega | decide) only [↓reduceIte, ↓gfI_e, ↓pfI_e, ↓gfJ_e, ↓pfJ_e, ↓ltI_e, ↓ltJ_e, ↓cal_ok, ↓rz0, ↓rz1, ↓g33, ↓g45, ↓wK, ↓wO, ↓wB, ↓wL, ↓wS, ↓wP, ↓wQ, ↓wY, ↓wL0, ↓wL1, ↓wL2, ↓r93_95, ↓r93_96, ↓r93_98, ↓r93_99, ↓r93_100, ↓r93_101, ↓r93_106, ↓r93_107, ↓ldw1, ↓ldw2, ↓ldw3, ↓ldw5, ↓ldw6, ↓ldw7, ↓ldw8, ↓ldw9, ↓ldw10, ↓ldw11, ↓ld100, ↓ld101, ↓ld106, ↓ld107, nle_F, nle_T, nlt_F, nlt_T, neq_F, neq_T, nle0_T, nle0_F, nlt0_F, n0lt_T, n0lt_F, n0le_T, n1_eq0, n0_eq0, n0_eq1, n1_eq1, np1, Bool.false_eq_true, e2]
      rfl)
    refine (e0.trans e1).trans (fnl_in ?_)
    show bX6_was_47 93 (nI i) (nI n) _ (nI x) (nI (itF T n x)) (nI n) M = _
    have hlt := itF_lt hV n hx
    unfold bX6_was_47 bX6_was_89
    rw [setN_or, ← nI_or]
    by_cases q : itF T n x = tp T i
    · simp (disch := first | assumption | omega | decide) only [↓reduceIte, ↓gfI_e, ↓pfI_e, ↓gfJ_e, ↓pfJ_e, ↓ltI_e, ↓ltJ_e, ↓cal_ok, ↓rz0, ↓rz1, ↓g33, ↓g45, ↓wK, ↓wO, ↓wB, ↓wL, ↓wS, ↓wP, ↓wQ, ↓wY, ↓wL0, ↓wL1, ↓wL2, ↓r93_95, ↓r93_96, ↓r93_98, ↓r93_99, ↓r93_100, ↓r93_101, ↓r93_106, ↓r93_107, ↓ldw1, ↓ldw2, ↓ldw3, ↓ldw5, ↓ldw6, ↓ldw7, ↓ldw8, ↓ldw9, ↓ldw10, ↓ldw11, ↓ld100, ↓ld101, ↓ld106, ↓ld107, nle_F, nle_T, nlt_F, nlt_T, neq_F, neq_T, nle0_T, nle0_F, nlt0_F, n0lt_T, n0lt_F, n0le_T, n1_eq0, n0_eq0, n0_eq1, n1_eq1, np1, Bool.false_eq_true, ev, q, shl1, beq_self_eq_true]
    · simp (disch := first | assumption | omega | decide) only [↓reduceIte, ↓gfI_e, ↓pfI_e, ↓gfJ_e, ↓pfJ_e, ↓ltI_e, ↓ltJ_e, ↓cal_ok, ↓rz0, ↓rz1, ↓g33, ↓g45, ↓wK, ↓wO, ↓wB, ↓wL, ↓wS, ↓wP, ↓wQ, ↓wY, ↓wL0, ↓wL1, ↓wL2, ↓r93_95, ↓r93_96, ↓r93_98, ↓r93_99, ↓r93_100, ↓r93_101, ↓r93_106, ↓r93_107, ↓ldw1, ↓ldw2, ↓ldw3, ↓ldw5, ↓ldw6, ↓ldw7, ↓ldw8, ↓ldw9, ↓ldw10, ↓ldw11, ↓ld100, ↓ld101, ↓ld106, ↓ld107, nle_F, nle_T, nlt_F, nlt_T, neq_F, neq_T, nle0_T, nle0_F, nlt0_F, n0lt_T, n0lt_F, n0le_T, n1_eq0, n0_eq0, n0_eq1, n1_eq1, np1, Bool.false_eq_true, ev, show (itF T n x == tp T i) = false by simpa using q, nor0, Int32.or_zero]
  have all : ∀ x, x ≤ tn T → fnl gX6_was (1, 93, nI i, nI n, 0, 0, 0, 0, M) = fnl gX6_was (1, 93, nI i, nI n, nI (setN (fun x => itF T n x == tp T i) x), nI x, 0, 0, M) := by
    intro x
    induction x with
    | zero => exact fun _ => rfl
    | succ x ih => exact fun hx => (ih (by omega)).trans (step x (by omega))
  refine (all _ (Nat.le_refl _)).trans (fnl_out ?_)
  show bX6_was_31 93 (nI i) (nI n) _ (nI (tn T)) M = _
  unfold bX6_was_31
  simp (disch := first | assumption | omega | decide) only [↓reduceIte, ↓gfI_e, ↓pfI_e, ↓gfJ_e, ↓pfJ_e, ↓ltI_e, ↓ltJ_e, ↓cal_ok, ↓rz0, ↓rz1, ↓g33, ↓g45, ↓wK, ↓wO, ↓wB, ↓wL, ↓wS, ↓wP, ↓wQ, ↓wY, ↓wL0, ↓wL1, ↓wL2, ↓r93_95, ↓r93_96, ↓r93_98, ↓r93_99, ↓r93_100, ↓r93_101, ↓r93_106, ↓r93_107, ↓ldw1, ↓ldw2, ↓ldw3, ↓ldw5, ↓ldw6, ↓ldw7, ↓ldw8, ↓ldw9, ↓ldw10, ↓ldw11, ↓ld100, ↓ld101, ↓ld106, ↓ld107, nle_F, nle_T, nlt_F, nlt_T, neq_F, neq_T, nle0_T, nle0_F, nlt0_F, n0lt_T, n0lt_F, n0le_T, n1_eq0, n0_eq0, n0_eq1, n1_eq1, np1, Bool.false_eq_true, hW.v.n]
  rfl
theorem op_was (M : Mm) (h : Rel M) (i n : Int32) : Good Rel (fX5_was 0 i n M) (fX6_was 93 i n) := by
  obtain ⟨hRO, hF, hR, hX, T, hV, hC, hW, hK⟩ := id h
  have hn8 := hV.n8
  have hb4 := hV.b4
  by_cases hi : 0 ≤ i ∧ i < nI (tb T)
  · by_cases hn : 0 ≤ n ∧ n ≤ 40
    · obtain ⟨k, hk, rfl⟩ := i32_lt_nat (by omega) hi.1 hi.2
      obtain ⟨j, hj, rfl⟩ := i32_le_nat (n := 40) (by decide) hn.1 hn.2
      have hp := hV.p8 hk
      have hw := w33
      refine ⟨nI (wsN T (tp T k) j), M, M, ?_, ?_, h⟩
      · unfold fX5_was bX5_was_0
        rw [g33 hRO, gfI_e, hC.b, isBelow_ok, if_pos hi, cal_ok, if_neg (by decide), isUpTo_ok, if_pos hn]
        simp (disch := first | assumption | omega | decide) only [↓reduceIte, ↓gfI_e, ↓pfI_e, ↓gfJ_e, ↓pfJ_e, ↓ltI_e, ↓ltJ_e, ↓cal_ok, ↓rz0, ↓rz1, ↓g33, ↓g45, ↓wK, ↓wO, ↓wB, ↓wL, ↓wS, ↓wP, ↓wQ, ↓wY, ↓wL0, ↓wL1, ↓wL2, ↓r93_95, ↓r93_96, ↓r93_98, ↓r93_99, ↓r93_100, ↓r93_101, ↓r93_106, ↓r93_107, ↓ldw1, ↓ldw2, ↓ldw3, ↓ldw5, ↓ldw6, ↓ldw7, ↓ldw8, ↓ldw9, ↓ldw10, ↓ldw11, ↓ld100, ↓ld101, ↓ld106, ↓ld107, nle_F, nle_T, nlt_F, nlt_T, neq_F, neq_T, nle0_T, nle0_F, nlt0_F, n0lt_T, n0lt_F, n0le_T, n1_eq0, n0_eq0, n0_eq1, n1_eq1, np1, Bool.false_eq_true, hC.p, shl1]
        rw [fen_l]
        have e0 : 2 ^ tp T k = wsN T (tp T k) 0 := by
          refine set_ext (n := tn T) (pow_lt hp) (ws_lt _ _ _) (fun y hy => ?_)
          unfold wsN
          rw [Nat.testBit_two_pow, setN_bit]
          by_cases q : tp T k = y
          · simp [hy, q, itF]
          · simp [hy, q, itF, show ¬ y = tp T k from fun z => q z.symm]
        rw [e0]
        refine fnl_loop (fun l => (1, 0, nI j, nI (wsN T (tp T k) l), nI l, M)) j (fun l hl => ?_) ?_
        · show bX5_was_40 0 (nI j) (nI (wsN T (tp T k) l)) (nI l) M = _
          unfold bX5_was_40
          simp (disch := first | assumption | omega | decide) only [↓reduceIte, ↓gfI_e, ↓pfI_e, ↓gfJ_e, ↓pfJ_e, ↓ltI_e, ↓ltJ_e, ↓cal_ok, ↓rz0, ↓rz1, ↓g33, ↓g45, ↓wK, ↓wO, ↓wB, ↓wL, ↓wS, ↓wP, ↓wQ, ↓wY, ↓wL0, ↓wL1, ↓wL2, ↓r93_95, ↓r93_96, ↓r93_98, ↓r93_99, ↓r93_100, ↓r93_101, ↓r93_106, ↓r93_107, ↓ldw1, ↓ldw2, ↓ldw3, ↓ldw5, ↓ldw6, ↓ldw7, ↓ldw8, ↓ldw9, ↓ldw10, ↓ldw11, ↓ld100, ↓ld101, ↓ld106, ↓ld107, nle_F, nle_T, nlt_F, nlt_T, neq_F, neq_T, nle0_T, nle0_F, nlt0_F, n0lt_T, n0lt_F, n0le_T, n1_eq0, n0_eq0, n0_eq1, n1_eq1, np1, Bool.false_eq_true, flown_ok hRO hw hC hV]
        · show bX5_was_40 0 (nI j) (nI (wsN T (tp T k) j)) (nI j) M = _
          unfold bX5_was_40
          simp (disch := first | assumption | omega | decide) only [↓reduceIte, ↓gfI_e, ↓pfI_e, ↓gfJ_e, ↓pfJ_e, ↓ltI_e, ↓ltJ_e, ↓cal_ok, ↓rz0, ↓rz1, ↓g33, ↓g45, ↓wK, ↓wO, ↓wB, ↓wL, ↓wS, ↓wP, ↓wQ, ↓wY, ↓wL0, ↓wL1, ↓wL2, ↓r93_95, ↓r93_96, ↓r93_98, ↓r93_99, ↓r93_100, ↓r93_101, ↓r93_106, ↓r93_107, ↓ldw1, ↓ldw2, ↓ldw3, ↓ldw5, ↓ldw6, ↓ldw7, ↓ldw8, ↓ldw9, ↓ldw10, ↓ldw11, ↓ld100, ↓ld101, ↓ld106, ↓ld107, nle_F, nle_T, nlt_F, nlt_T, neq_F, neq_T, nle0_T, nle0_F, nlt0_F, n0lt_T, n0lt_F, n0le_T, n1_eq0, n0_eq0, n0_eq1, n1_eq1, np1, Bool.false_eq_true]
      · show fX6_was 93 (nI k) (nI j) M = _
        unfold fX6_was bX6_was_0
        rw [gfI_e, hW.v.b, in_ok, if_pos ((bpred hb4).mpr hi), cal_ok, if_neg (by decide), in_ok, if_pos hn, cal_ok, if_neg (by decide), fen_l]
        exact was6_ok hRO hW hV hk (by omega)
    · refine ⟨-1, M, M, ?_, ?_, h⟩
      · unfold fX5_was bX5_was_0 bX5_was_23
        rw [g33 hRO, gfI_e, hC.b, isBelow_ok, cal_ok, if_pos hi, if_neg (by decide), isUpTo_ok, if_neg hn, cal_ok, if_pos rfl, fen_r]
      · show fX6_was 93 i n M = _
        unfold fX6_was bX6_was_0 bX6_was_24
        rw [gfI_e, hW.v.b, in_ok, if_pos ((bpred hb4).mpr hi), cal_ok, if_neg (by decide), in_ok, if_neg hn, cal_ok, if_pos rfl, fen_r]
  · refine ⟨-1, M, M, ?_, ?_, h⟩
    · unfold fX5_was bX5_was_0 bX5_was_23
      rw [g33 hRO, gfI_e, hC.b, isBelow_ok, cal_ok, if_neg hi, if_pos rfl, fen_r]
    · show fX6_was 93 i n M = _
      unfold fX6_was bX6_was_0 bX6_was_24
      rw [gfI_e, hW.v.b, in_ok, cal_ok, if_neg (fun z => hi ((bpred hb4).mp z)), if_pos rfl, fen_r]

/-! HOURS of the reference -/
def Pf (f c j : Nat) : Prop := c = 106 ∧ 39 * f ≤ j ∧ j < 39 * f + 39
section
variable {M : Mm} {T : WT}
theorem bird6_ok (h : RO M) {f : Nat} (hf : f < 4) (hW : RVd f T M) (hV : VT T) {i e : Nat} (hi : i < tb T) : ∃ M1, fnl gX6_hourOf (1, 93, nI f, nI e, nI i, 0, 0, 0, M) = fnl gX6_hourOf (1, 93, nI f, nI (e + bdE T i), nI (i + 1), 0, 0, 0, M1) ∧ RVd f (bdT T i) M1 ∧ Off (Pf f) M M1 := by
  have hn8 := hV.n8
  have hb4 := hV.b4
  have hp := hV.p8 hi
  have hr8 : rchT T (tp T i) < 256 := pow_lt8 hn8 (rch_lt _ _)
  have ev := v_ok h (f := f) (b := 32) (i := i) (by omega)
  rw [hW.p hi, show nI 32 = (32 : Int32) from rfl] at ev
  have e0 : fnl gX6_hourOf (1, 93, nI f, nI e, nI i, 0, 0, 0, M) = fnl gX6_hourOf (2, 93, nI f, nI (e + bdE T i), nI i, nI (tp T i), nI (rchT T (tp T i)), nI 0, M) := by
    refine fnl_in ?_
    show bX6_hourOf_4 93 (nI f) (nI e) (nI i) M = _
    unfold bX6_hourOf_4
    simp (disch := first | assumption | omega | decide) only [↓reduceIte, ↓gfI_e, ↓pfI_e, ↓gfJ_e, ↓pfJ_e, ↓ltI_e, ↓ltJ_e, ↓cal_ok, ↓rz0, ↓rz1, ↓g33, ↓g45, ↓wK, ↓wO, ↓wB, ↓wL, ↓wS, ↓wP, ↓wQ, ↓wY, ↓wL0, ↓wL1, ↓wL2, ↓r93_95, ↓r93_96, ↓r93_98, ↓r93_99, ↓r93_100, ↓r93_101, ↓r93_106, ↓r93_107, ↓ldw1, ↓ldw2, ↓ldw3, ↓ldw5, ↓ldw6, ↓ldw7, ↓ldw8, ↓ldw9, ↓ldw10, ↓ldw11, ↓ld100, ↓ld101, ↓ld106, ↓ld107, nle_F, nle_T, nlt_F, nlt_T, neq_F, neq_T, nle0_T, nle0_F, nlt0_F, n0lt_T, n0lt_F, n0le_T, n1_eq0, n0_eq0, n0_eq1, n1_eq1, np1, hW.b, ev, eat_ok h hW hV hp, crumbs6_ok h hf hW hV hr8, nI_pl]
    rfl
  obtain ⟨s1, e1, M1, rfl, hW1, hO1⟩ := fnl_go (g := gX6_hourOf) (fun k s => ∃ M1, s = (2, 93, nI f, nI (e + bdE T i), nI i, nI (tp T i), nI (rchT T (tp T i)), nI k, M1) ∧ RVd f (clrT T (rchT T (tp T i)) k) M1 ∧ Off (Pf f) M M1) (tn T) (fun k s hk hI => by
    obtain ⟨M1, rfl, hW1, hO1⟩ := hI
    have h1 := hO1.ro h
    have hn : M1.1 93 10 = nI (tn T) := hW1.n
    have eh := has_ok (M := M1) hr8 (show k < 8 by omega)
    have em := marks_ok h1 (f := f) (m := 0) (x := k) (by omega)
    rw [hW1.m (by decide) hk, show nI 0 = (0 : Int32) from rfl] at em
    have es : ∀ v, fX6_setMarks 93 (nI f) 0 (nI k) v M1 = some ((), wI M1 106 (39 * f + 8 * 0 + k) v) := fun v => setMarks_ok h1 (f := f) (m := 0) (x := k) (v := v) (by omega)
    by_cases q : (rchT T (tp T i)).testBit k = true
    · refine ⟨(2, 93, nI f, nI (e + bdE T i), nI i, nI (tp T i), nI (rchT T (tp T i)), nI (k + 1), wI M1 106 (39 * f + 8 * 0 + k) (nI 0)), ?_, _, rfl, ?_, hO1.wI ⟨rfl, by omega, by omega⟩⟩
      · show bX6_hourOf_43 93 (nI f) (nI (e + bdE T i)) (nI i) (nI (tp T i)) (nI (rchT T (tp T i))) (nI k) M1 = _
        unfold bX6_hourOf_43 bX6_hourOf_79
        rw [q] at eh
        simp (disch := first | assumption | omega | decide) only [↓reduceIte, ↓gfI_e, ↓pfI_e, ↓gfJ_e, ↓pfJ_e, ↓ltI_e, ↓ltJ_e, ↓cal_ok, ↓rz0, ↓rz1, ↓g33, ↓g45, ↓wK, ↓wO, ↓wB, ↓wL, ↓wS, ↓wP, ↓wQ, ↓wY, ↓wL0, ↓wL1, ↓wL2, ↓r93_95, ↓r93_96, ↓r93_98, ↓r93_99, ↓r93_100, ↓r93_101, ↓r93_106, ↓r93_107, ↓ldw1, ↓ldw2, ↓ldw3, ↓ldw5, ↓ldw6, ↓ldw7, ↓ldw8, ↓ldw9, ↓ldw10, ↓ldw11, ↓ld100, ↓ld101, ↓ld106, ↓ld107, nle_F, nle_T, nlt_F, nlt_T, neq_F, neq_T, nle0_T, nle0_F, nlt0_F, n0lt_T, n0lt_F, n0le_T, n1_eq0, n0_eq0, n0_eq1, n1_eq1, np1, hn, eh, es]
        rfl
      · rw [clrT_s, if_pos q]
        exact hW1.setm hV.clr (by decide) (by omega)
    · refine ⟨(2, 93, nI f, nI (e + bdE T i), nI i, nI (tp T i), nI (rchT T (tp T i)), nI (k + 1), wI M1 106 (39 * f + 8 * 0 + k) (nI (tm (clrT T (rchT T (tp T i)) k) 0 k))), ?_, _, rfl, ?_, hO1.wI ⟨rfl, by omega, by omega⟩⟩
      · show bX6_hourOf_43 93 (nI f) (nI (e + bdE T i)) (nI i) (nI (tp T i)) (nI (rchT T (tp T i))) (nI k) M1 = _
        unfold bX6_hourOf_43 bX6_hourOf_79
        rw [show (rchT T (tp T i)).testBit k = false by simpa using q] at eh
        simp (disch := first | assumption | omega | decide) only [↓reduceIte, ↓gfI_e, ↓pfI_e, ↓gfJ_e, ↓pfJ_e, ↓ltI_e, ↓ltJ_e, ↓cal_ok, ↓rz0, ↓rz1, ↓g33, ↓g45, ↓wK, ↓wO, ↓wB, ↓wL, ↓wS, ↓wP, ↓wQ, ↓wY, ↓wL0, ↓wL1, ↓wL2, ↓r93_95, ↓r93_96, ↓r93_98, ↓r93_99, ↓r93_100, ↓r93_101, ↓r93_106, ↓r93_107, ↓ldw1, ↓ldw2, ↓ldw3, ↓ldw5, ↓ldw6, ↓ldw7, ↓ldw8, ↓ldw9, ↓ldw10, ↓ldw11, ↓ld100, ↓ld101, ↓ld106, ↓ld107, nle_F, nle_T, nlt_F, nlt_T, neq_F, neq_T, nle0_T, nle0_F, nlt0_F, n0lt_T, n0lt_F, n0le_T, n1_eq0, n0_eq0, n0_eq1, n1_eq1, np1, hn, eh, em, es, Bool.false_eq_true]
      · rw [clrT_s, if_neg q]
        have := hW1.setm hV.clr (m := 0) (x := k) (v := tm (clrT T (rchT T (tp T i)) k) 0 k) (by decide) (by omega)
        rw [setm_id] at this
        exact this) (s := (2, 93, nI f, nI (e + bdE T i), nI i, nI (tp T i), nI (rchT T (tp T i)), nI 0, M)) ⟨M, rfl, by rw [clrT_0]; exact hW, Off.rf⟩
  have h1 := hO1.ro h
  refine ⟨wI M1 106 (39 * f + 32 + i) (nI (flN (te T (tp T i)) (tp T i))), (e0.trans e1).trans (fnl_in ?_), hW1.setp hV.clr (by omega), hO1.wI ⟨rfl, by omega, by omega⟩⟩
  have hn : M1.1 93 10 = nI (tn T) := hW1.n
  have ex := next_ok h1 hW1 hV.clr (x := tp T i) hp
  have es : ∀ v, fX6_set 93 (nI f) 32 (nI i) v M1 = some ((), wI M1 106 (39 * f + 32 + i) v) := fun v => set_ok h1 (f := f) (b := 32) (i := i) (v := v) (by omega)
  show bX6_hourOf_43 93 (nI f) (nI (e + bdE T i)) (nI i) (nI (tp T i)) (nI (rchT T (tp T i))) (nI (tn T)) M1 = _
  unfold bX6_hourOf_43
  simp (disch := first | assumption | omega | decide) only [↓reduceIte, ↓gfI_e, ↓pfI_e, ↓gfJ_e, ↓pfJ_e, ↓ltI_e, ↓ltJ_e, ↓cal_ok, ↓rz0, ↓rz1, ↓g33, ↓g45, ↓wK, ↓wO, ↓wB, ↓wL, ↓wS, ↓wP, ↓wQ, ↓wY, ↓wL0, ↓wL1, ↓wL2, ↓r93_95, ↓r93_96, ↓r93_98, ↓r93_99, ↓r93_100, ↓r93_101, ↓r93_106, ↓r93_107, ↓ldw1, ↓ldw2, ↓ldw3, ↓ldw5, ↓ldw6, ↓ldw7, ↓ldw8, ↓ldw9, ↓ldw10, ↓ldw11, ↓ld100, ↓ld101, ↓ld106, ↓ld107, nle_F, nle_T, nlt_F, nlt_T, neq_F, neq_T, nle0_T, nle0_F, nlt0_F, n0lt_T, n0lt_F, n0le_T, n1_eq0, n0_eq0, n0_eq1, n1_eq1, np1, hn, ex, es]
  rfl
theorem hour6_ok (h : RO M) {f : Nat} (hf : f < 4) (hW : RVd f T M) (hV : VT T) : ∃ M1, fX6_hourOf 93 (nI f) M = some (nI (hbE T (tb T)), M1) ∧ RVd f (hbT T (tb T)) M1 ∧ Off (Pf f) M M1 := by
  have hb4 := hV.b4
  unfold fX6_hourOf bX6_hourOf_0
  rw [fen_l]
  have all : ∀ k, k ≤ tb T → ∃ M1, fnl gX6_hourOf (1, 93, nI f, 0, 0, 0, 0, 0, M) = fnl gX6_hourOf (1, 93, nI f, nI (hbE T k), nI k, 0, 0, 0, M1) ∧ RVd f (hbT T k) M1 ∧ Off (Pf f) M M1 := by
    intro k
    induction k with
    | zero => exact fun _ => ⟨M, rfl, hW, Off.rf⟩
    | succ k ih =>
      intro hk
      obtain ⟨M1, e1, hW1, hO1⟩ := ih (by omega)
      obtain ⟨M2, e2, hW2, hO2⟩ := bird6_ok (hO1.ro h) hf hW1 (hV.hb (by omega)) (i := k) (e := hbE T k) (by rw [(hb_n k).2.1]; omega)
      exact ⟨M2, e1.trans e2, hW2, hO1.tr hO2⟩
  obtain ⟨M1, e1, hW1, hO1⟩ := all _ (Nat.le_refl _)
  refine ⟨M1, e1.trans (fnl_out ?_), hW1, hO1⟩
  have hb : M1.1 93 11 = nI (tb T) := by rw [hW1.b, (hb_n (tb T)).2.1]
  show bX6_hourOf_4 93 (nI f) (nI (hbE T (tb T))) (nI (tb T)) M1 = _
  unfold bX6_hourOf_4
  simp (disch := first | assumption | omega | decide) only [↓reduceIte, ↓gfI_e, ↓pfI_e, ↓gfJ_e, ↓pfJ_e, ↓ltI_e, ↓ltJ_e, ↓cal_ok, ↓rz0, ↓rz1, ↓g33, ↓g45, ↓wK, ↓wO, ↓wB, ↓wL, ↓wS, ↓wP, ↓wQ, ↓wY, ↓wL0, ↓wL1, ↓wL2, ↓r93_95, ↓r93_96, ↓r93_98, ↓r93_99, ↓r93_100, ↓r93_101, ↓r93_106, ↓r93_107, ↓ldw1, ↓ldw2, ↓ldw3, ↓ldw5, ↓ldw6, ↓ldw7, ↓ldw8, ↓ldw9, ↓ldw10, ↓ldw11, ↓ld100, ↓ld101, ↓ld106, ↓ld107, nle_F, nle_T, nlt_F, nlt_T, neq_F, neq_T, nle0_T, nle0_F, nlt0_F, n0lt_T, n0lt_F, n0le_T, n1_eq0, n0_eq0, n0_eq1, n1_eq1, np1, hb]
theorem hours6_ok (h : RO M) {f : Nat} (hf : f < 4) (hW : RVd f T M) (hV : VT T) {n : Nat} (hn : n < 2 ^ 31) : ∃ M1, fX6_hoursOf 93 (nI f) (nI n) M = some (nI (hsE T n), M1) ∧ RVd f (hsT T n) M1 ∧ Off (Pf f) M M1 := by
  unfold fX6_hoursOf bX6_hoursOf_0
  rw [fen_l]
  obtain ⟨s1, e1, M1, rfl, hW1, hO1⟩ := fnl_go (g := gX6_hoursOf) (fun k s => ∃ M1, s = (1, 93, nI f, nI n, nI (hsE T k), nI k, M1) ∧ RVd f (hsT T k) M1 ∧ Off (Pf f) M M1) n (fun k s hk hI => by
    obtain ⟨M1, rfl, hW1, hO1⟩ := hI
    obtain ⟨M2, e2, hW2, hO2⟩ := hour6_ok (hO1.ro h) hf hW1 (hV.hs k)
    have hbk : tb (hsT T k) = tb T := (hs_n k).2.1
    rw [hbk] at e2 hW2
    refine ⟨(1, 93, nI f, nI n, nI (hsE T (k + 1)), nI (k + 1), M2), ?_, M2, rfl, hW2, hO1.tr hO2⟩
    show bX6_hoursOf_5 93 (nI f) (nI n) (nI (hsE T k)) (nI k) M1 = _
    unfold bX6_hoursOf_5
    simp (disch := first | assumption | omega | decide) only [↓reduceIte, ↓gfI_e, ↓pfI_e, ↓gfJ_e, ↓pfJ_e, ↓ltI_e, ↓ltJ_e, ↓cal_ok, ↓rz0, ↓rz1, ↓g33, ↓g45, ↓wK, ↓wO, ↓wB, ↓wL, ↓wS, ↓wP, ↓wQ, ↓wY, ↓wL0, ↓wL1, ↓wL2, ↓r93_95, ↓r93_96, ↓r93_98, ↓r93_99, ↓r93_100, ↓r93_101, ↓r93_106, ↓r93_107, ↓ldw1, ↓ldw2, ↓ldw3, ↓ldw5, ↓ldw6, ↓ldw7, ↓ldw8, ↓ldw9, ↓ldw10, ↓ldw11, ↓ld100, ↓ld101, ↓ld106, ↓ld107, nle_F, nle_T, nlt_F, nlt_T, neq_F, neq_T, nle0_T, nle0_F, nlt0_F, n0lt_T, n0lt_F, n0le_T, n1_eq0, n0_eq0, n0_eq1, n1_eq1, np1, e2, nI_pl]
    rfl) (s := (1, 93, nI f, nI n, 0, 0, M)) ⟨M, rfl, hW, Off.rf⟩
  refine ⟨M1, e1.trans (fnl_out ?_), hW1, hO1⟩
  show bX6_hoursOf_5 93 (nI f) (nI n) (nI (hsE T n)) (nI n) M1 = _
  unfold bX6_hoursOf_5
  simp (disch := first | assumption | omega | decide) only [↓reduceIte, ↓gfI_e, ↓pfI_e, ↓gfJ_e, ↓pfJ_e, ↓ltI_e, ↓ltJ_e, ↓cal_ok, ↓rz0, ↓rz1, ↓g33, ↓g45, ↓wK, ↓wO, ↓wB, ↓wL, ↓wS, ↓wP, ↓wQ, ↓wY, ↓wL0, ↓wL1, ↓wL2, ↓r93_95, ↓r93_96, ↓r93_98, ↓r93_99, ↓r93_100, ↓r93_101, ↓r93_106, ↓r93_107, ↓ldw1, ↓ldw2, ↓ldw3, ↓ldw5, ↓ldw6, ↓ldw7, ↓ldw8, ↓ldw9, ↓ldw10, ↓ldw11, ↓ld100, ↓ld101, ↓ld106, ↓ld107, nle_F, nle_T, nlt_F, nlt_T, neq_F, neq_T, nle0_T, nle0_F, nlt0_F, n0lt_T, n0lt_F, n0le_T, n1_eq0, n0_eq0, n0_eq1, n1_eq1, np1]
/-- the reference's wood from its parts -/
theorem RWd.of (hV0 : RVd 0 T M) (hs : M.1 93 25 = nI (ts T)) (hz : ∀ i, i ≤ ts T → M.1 107 i = nI (tz T i)) : RWd T M := by
  obtain ⟨h0, h1, h3, h4, h5, h6, h7, h8⟩ := hV0
  refine ⟨h0, h1, hs, h3, h4, fun m x hm hx => ?_, fun x hx => ?_, fun i hi => ?_, fun m hm => ?_, hz⟩
  · have := h5 m x hm hx
    rwa [Nat.mul_zero, Nat.zero_add] at this
  · have := h6 x hx
    rwa [Nat.mul_zero, Nat.zero_add] at this
  · have := h7 i hi
    rwa [Nat.mul_zero, Nat.zero_add] at this
  · have := h8 m hm
    rwa [Nat.mul_zero, Nat.zero_add] at this
end
theorem op_hours (M : Mm) (h : Rel M) (n : Int32) : Good Rel (fX5_hours 0 n M) (fX6_hours 93 n) := by
  obtain ⟨hRO, hF, hR, hX, T, hV, hC, hW, hK⟩ := id h
  have hn8 := hV.n8
  by_cases hn : 0 ≤ n ∧ n ≤ 40
  · obtain ⟨k, hk, rfl⟩ := i32_le_nat (n := 40) (by decide) hn.1 hn.2
    by_cases h0 : tn T = 0
    · refine ⟨-4, M, M, ?_, ?_, h⟩
      · unfold fX5_hours
        rw [isUpTo_ok, cal_ok, if_pos hn, if_neg (by decide), g33 hRO, isEmpty_ok hC hn8, cal_ok, if_pos h0, if_neg (by decide)]
      · show fX6_hours 93 (nI k) M = _
        unfold fX6_hours
        rw [in_ok, cal_ok, if_pos hn, if_neg (by decide), gfI_e, hW.1, h0, if_pos nI_0]
    · have hne : ¬ nI (tn T) = 0 := nI_ne0 (by omega) (by omega)
      obtain ⟨M1, e1, hC1, hO1⟩ := pass_ok hRO w33 hC hV (n := k) (by omega)
      have hW1 : RVd 0 T M1 := by
        obtain ⟨h0, h1, h3, h4, h5, h6, h7, h8⟩ := hW.v
        have e93 := hO1.c (c := 93) (fun j => by omega)
        have e100 := hO1.c (c := 100) (fun j => by omega)
        have e101 := hO1.c (c := 101) (fun j => by omega)
        have e106 := hO1.c (c := 106) (fun j => by omega)
        unfold RVd
        rw [e93, e100, e101, e106]
        exact ⟨h0, h1, h3, h4, h5, h6, h7, h8⟩
      have h1 := hO1.ro hRO
      obtain ⟨M2, e2, hW2, hO2⟩ := hours6_ok h1 (f := 0) (by decide) hW1 hV (n := k) (by omega)
      have g := hs_n (T := T) k
      refine ⟨nI (hsE T k), M1, M2, ?_, ?_, ?_⟩
      · unfold fX5_hours
        rw [isUpTo_ok, cal_ok, if_pos hn, if_neg (by decide), g33 hRO, isEmpty_ok hC hn8, cal_ok, if_neg h0, if_pos rfl, g33 hRO, e1, cal_ok]
      · show fX6_hours 93 (nI k) M1 = _
        unfold fX6_hours
        rw [in_ok, cal_ok, if_pos hn, if_neg (by decide), gfI_e, hW1.n, if_neg hne]
        rw [show fX6_hoursOf 93 0 (nI k) M1 = _ from e2, cal_ok]
      · have oc1 : ∀ c, c ≠ 38 → c ≠ 42 → M1.1 c = M.1 c := fun c a b => hO1.c (fun j => by omega)
        have oc2 : ∀ c, c ≠ 106 → M2.1 c = M1.1 c := fun c a => hO2.c (fun j q => a q.1)
        refine rel_wood (T := T) (T1 := hsT T k) hF hR hX hK (hO2.ro h1) ((KeepX.rf.off (M2 := M1) (fun c h1 h2 h3 h4 h5 => oc1 c (by omega) (by omega)) hO1.2).off (fun c h1 h2 h3 h4 h5 => oc2 c h4) hO2.2) ?_ g.1 g.2.1 (fun _ _ => by rw [g.2.2.1]) (hV.hs k) (hC1.same (fun c h1 h2 => oc2 c (by omega))) (RWd.of hW2 ?_ ?_)
        · rw [oc2 _ (by omega), oc2 _ (by omega), oc1 _ (by omega) (by omega), oc1 _ (by omega) (by omega)]
          exact hF.2.2.1
        · rw [oc2 _ (by omega), oc1 _ (by omega) (by omega), g.2.2.2.1]
          exact hW.2.2.1
        · rw [g.2.2.2.1, g.2.2.2.2.2.1, oc2 _ (by omega), oc1 _ (by omega) (by omega)]
          exact hW.2.2.2.2.2.2.2.2.2
  · refine ⟨-1, M, M, ?_, ?_, h⟩
    · unfold fX5_hours
      rw [isUpTo_ok, cal_ok, if_neg hn, if_pos rfl]
    · show fX6_hours 93 n M = _
      unfold fX6_hours
      rw [in_ok, cal_ok, if_neg hn, if_pos rfl]

/-! HOME, BACK, WRONG -/
theorem g6s {α : Type} {M : Mm} {K : Nat → Option α} (h : RO M) : gfR M 11 0 6 K = K 6 := gR h 11 0 6 6 (by decide)
theorem g68 {α : Type} {M : Mm} {K : Nat → Option α} (h : RO M) : gfR M 0 6 7 K = K 8 := gR h 0 6 7 8 (by decide)
theorem r93_113 {α : Type} {M : Mm} {K : Nat → Option α} (h : RO M) : gfR M 0 93 33 K = K 113 := gR h 0 93 33 113 (by decide)
section
variable {M : Mm} {a : Nat} {T : WT}
theorem emp1 (hC : CWd a T M) (hV : VT T) (h0 : tn T = 0) : fX4_isEmpty a M = some (1, M) := by rw [isEmpty_ok hC hV.n8, if_pos h0]
theorem emp0 (hC : CWd a T M) (hV : VT T) (h0 : tn T ≠ 0) : fX4_isEmpty a M = some (0, M) := by rw [isEmpty_ok hC hV.n8, if_neg h0]
theorem SG.off {M1 : Mm} (h : SG a T M) (hO : Off (fun c j => c = 8 ∨ c = 6 ∧ j = 8) M M1) : SG a T M1 := by
  obtain ⟨h0, h1, h2, h3, h4, h5, h6⟩ := h
  exact ⟨by rw [hO.2]; exact h0, by rw [hO.1 _ _ (by omega)]; exact h1, by rw [hO.1 _ _ (by omega)]; exact h2, by rw [hO.1 _ _ (by omega)]; exact h3, by rw [hO.1 _ _ (by omega)]; exact h4, by rw [hO.1 _ _ (by omega)]; exact h5, by rw [hO.1 _ _ (by omega)]; exact h6⟩
def hereN (T : WT) : Nat := tz T (ts T)
theorem here_lt (hV : VT T) (h0 : tn T ≠ 0) : hereN T < tn T := (hV.pos h0).2 (ts T) (Nat.le_refl _)
def fo (T : WT) : Nat × Bool := foL (fwT T) (hereN T)
theorem findsHome_ok (h : RO M) (hw : isW a) (hC : CWd a T M) (hV : VT T) (hn : tn T ≠ 0) : ∃ M1, fX1_findsHome 6 a M = some (if (fo T).2 then 1 else 0, M1) ∧ M1.1 6 8 = nI (fo T).1 ∧ (∀ j, j ≤ (fo T).1 → M1.1 8 j = nI (foP (fwT T) (hereN T) j)) ∧ SG a T M1 ∧ Of2 (fun c _ => c = 8 ∨ c = 6) M M1 := by
  have haw := isW_lt hw
  obtain ⟨M1, e1, g1, O1⟩ := look_ok h hw hC hV
  have hC1 : CWd a T M1 := hC.pt (fun c j q1 q2 => O1.1 c j (by omega))
  obtain ⟨M2, e2, f1, f2, O2⟩ := follow5_ok (W := fwT T) hw hV.n8 (fun x hx => hV.en hx) (here_lt hV hn) O1.2.2 g1.1 (fun x hx => hC1.e hx)
  have e2 : fX1_follow 6 (nI (tz T (ts T))) (nI (stS T)) (nI (knS T)) (nI (crS T)) M1 = some (if (fo T).2 then 1 else 0, M2) := e2
  refine ⟨M2, ?_, f1, f2, g1.off O2, (O1.mo (fun c j q => Or.inr q.1)).tr ((O2.of2 O1.2.2).mo (fun c j q => by omega))⟩
  unfold fX1_findsHome
  rw [e1, cal_ok, standing_ok O1.2.2 hw hC1 hV.s30, cal_ok, gfI_e, g1.2.2.2.2.2.1, gfI_e, g1.2.2.2.2.2.2, gfI_e, g1.2.2.2.2.1, e2, cal_ok, rz_ite]
theorem hereNow2 (h : RO M) (hW : RWd T M) (hV : VT T) : fX6_hereNow 93 M = some (nI (hereN T), M) := hereNow_ok h hW hV.s30
end
theorem op_home (M : Mm) (h : Rel M) : Good Rel (fX5_home 0 M) (fX6_home 93) := by
  obtain ⟨hRO, hF, hR, hX, T, hV, hC, hW, hK⟩ := id h
  have hn8 := hV.n8
  by_cases h0 : tn T = 0
  · refine ⟨-4, M, M, ?_, ?_, h⟩
    · unfold fX5_home
      rw [g33 hRO, emp1 hC hV h0, cal_ok, if_neg (by decide)]
    · show fX6_home 93 M = _
      unfold fX6_home
      rw [gfI_e, hW.1, h0, if_pos nI_0]
  · have hne : ¬ nI (tn T) = 0 := nI_ne0 (by omega) (by omega)
    obtain ⟨M1, e1, f1, f2, g1, O1⟩ := findsHome_ok hRO w33 hC hV h0
    have r1 := O1.2.2
    obtain ⟨M2, hM2⟩ : ∃ M2, M2 = wI M1 0 10 (nI (fo T).1) := ⟨_, rfl⟩
    have r2 : RO M2 := by rw [hM2]; exact r1
    have o2 : ∀ c j, c ≠ 6 → c ≠ 8 → ¬ (c = 0 ∧ j = 10) → M2.1 c j = M.1 c j := fun c j q1 q2 q3 => by rw [hM2, wI_at, if_neg q3]; exact O1.1 c j (by omega)
    have hW2 : RWd T M2 := hW.same2 hV (fun c j q => o2 c j (by omega) (by omega) (by omega))
    obtain ⟨M3, e3, p1, p2, O3⟩ := follows_ok r2 (f := 0) (by decide) hW2.v hV.vw hV.b4 (here_lt hV h0)
    have e3 : fX6_follows 93 0 (nI (hereN T)) M2 = some (if (fo T).2 then 1 else 0, M3) := e3
    have p1 : M3.1 93 32 = nI ((fo T).1 + 1) := p1
    refine ⟨if (fo T).2 then 1 else 0, M2, wI M3 93 2 (nI (fo T).1), ?_, ?_, ?_⟩
    · unfold fX5_home
      rw [g33 hRO, emp0 hC hV h0, cal_ok, if_pos rfl, g6s hRO, g33 hRO, e1, cal_ok, g6s r1, gfI_e, f1, pfI_e, ← hM2]
      cases (fo T).2
      · rfl
      · rfl
    · show fX6_home 93 M2 = _
      unfold fX6_home bX6_home_36
      rw [gfI_e, hW2.1, if_neg hne, hereNow2 r2 hW2 hV, cal_ok, e3, cal_ok, gfI_e, p1, show nI ((fo T).1 + 1) - 1 = nI (fo T).1 from nsub (b := 1) (Nat.add_comm _ _), tells_ok, tells_ok]
      cases (fo T).2
      · rfl
      · rfl
    · have O3' : ∀ c j, c ≠ 113 → ¬ (c = 93 ∧ j = 32) → M3.1 c j = M2.1 c j := fun c j a b => O3.1 c j (by omega)
      have L3 : M3.2.1 = M.2.1 := by rw [O3.2, hM2]; exact O1.2.1
      refine h.sct (O3.ro r2 : RO M3) (fun c j hi q1 q2 => ?_) ?_ ?_ ?_
      · unfold imp at hi
        rw [wI_at, if_neg q2, O3' c j (by omega) (by omega), o2 c j (by omega) (by omega) q1]
      · rw [wI_at, if_neg (by omega), wI_at, if_pos ⟨rfl, rfl⟩, O3' 0 10 (by omega) (by omega), hM2, wI_at, if_pos ⟨rfl, rfl⟩]
      · show M3.2.1 0 11 = M3.2.1 93 3
        rw [L3]; exact hF.2.2.2.1
      · show M3.2.1 0 12 = M3.2.1 93 4
        rw [L3]; exact hF.2.2.2.2
theorem fo_le (T : WT) : (fo T).1 ≤ 7 := fL_le _ _ _ _
theorem op_back (M : Mm) (h : Rel M) (r : Int32) : Good Rel (fX5_back 0 r M) (fX6_back 93 r) := by
  obtain ⟨hRO, hF, hR, hX, T, hV, hC, hW, hK⟩ := id h
  have hn8 := hV.n8
  by_cases hr : 0 ≤ r ∧ r < 6
  · have hr2 : 0 ≤ r ∧ r ≤ 5 := (below_in (n := 5) (by decide)).mp hr
    obtain ⟨k, hk, rfl⟩ := i32_lt_nat (n := 6) (by decide) hr.1 hr.2
    by_cases h0 : tn T = 0
    · refine ⟨-4, M, M, ?_, ?_, h⟩
      · unfold fX5_back
        rw [isBelow_ok, cal_ok, if_pos hr, if_neg (by decide), g33 hRO, emp1 hC hV h0, cal_ok, if_neg (by decide)]
      · show fX6_back 93 (nI k) M = _
        unfold fX6_back
        rw [isRow_ok, cal_ok, if_pos hr2, if_neg (by decide), gfI_e, hW.1, h0, if_pos nI_0]
    · have hne : ¬ nI (tn T) = 0 := nI_ne0 (by omega) (by omega)
      have hfo := fo_le T
      obtain ⟨M1, e1, f1, f2, g1, O1⟩ := findsHome_ok hRO w33 hC hV h0
      have r1 := O1.2.2
      have o1 : ∀ c j, c ≠ 6 → c ≠ 8 → M1.1 c j = M.1 c j := fun c j q1 q2 => O1.1 c j (by omega)
      obtain ⟨M2, e2, a1, a2, O2⟩ := fill_ok r1 (k := k) (c := 8) (n := (fo T).1 + 1) (L := 8) hk rfl (by decide) (by omega) (by omega) (by omega)
      have r2 := O2.ro r1
      have o2 : ∀ c j, c ≠ 6 → c ≠ 8 → c ≠ 13 + 2 * k → c ≠ 13 + 2 * k + 1 → M2.1 c j = M.1 c j := fun c j q1 q2 q3 q4 => by rw [O2.1 c j (by omega)]; exact o1 c j q1 q2
      have hW2 : RWd T M2 := hW.same2 hV (fun c j q => o2 c j (by omega) (by omega) (by omega) (by omega))
      obtain ⟨M3, e3, p1, p2, O3⟩ := follows_ok r2 (f := 0) (by decide) hW2.v hV.vw hV.b4 (here_lt hV h0)
      have e3 : fX6_follows 93 0 (nI (hereN T)) M2 = some (if (fo T).2 then 1 else 0, M3) := e3
      have p1 : M3.1 93 32 = nI ((fo T).1 + 1) := p1
      have r3 := O3.ro r2
      obtain ⟨M4, e4, b1, b2, O4⟩ := layRow_ok r3 (k := k) (c := 113) (n := (fo T).1 + 1) (L := 9) hk rfl (by decide) (by omega) (by omega) (by omega)
      have p4 : M4.1 93 32 = nI ((fo T).1 + 1) := by rw [O4.1 _ _ (fun q => by unfold P96 at q; omega)]; exact p1
      refine ⟨nI ((fo T).1 + 1), M2, M4, ?_, ?_, ?_⟩
      · unfold fX5_back
        rw [isBelow_ok, cal_ok, if_pos hr, if_neg (by decide), g33 hRO, emp0 hC hV h0, cal_ok, if_pos rfl, g6s hRO, g33 hRO, e1, cal_ok, g1s r1, ldRow r1 hk, g6s r1, g68 r1, g6s r1, gfI_e, f1, np1, e2, cal_ok]
      · show fX6_back 93 (nI k) M2 = _
        unfold fX6_back
        rw [isRow_ok, cal_ok, if_pos hr2, if_neg (by decide), gfI_e, hW2.1, if_neg hne, hereNow2 r2 hW2 hV, cal_ok, e3, cal_ok, r93_113 r3, gfI_e, p1, e4, cal_ok, gfI_e, p4]
      · have o3 : ∀ c j, c ≠ 6 → c ≠ 8 → c ≠ 13 + 2 * k → c ≠ 13 + 2 * k + 1 → c ≠ 113 → ¬ (c = 93 ∧ j = 32) → M3.1 c j = M.1 c j := fun c j q1 q2 q3 q4 q5 q6 => by rw [O3.1 c j (by omega)]; exact o2 c j q1 q2 q3 q4
        have L4 : M4.2.1 = M.2.1 := by rw [O4.2, O3.2, O2.2]; exact O1.2.1
        refine h.row1 hk (O4.ro r3) (fun c j hi q1 q2 q3 q4 q5 q6 => ?_) ?_ ?_ ?_ (Or.inr ⟨(fo T).1 + 1, by omega, ?_, b1, fun i hi => ?_⟩)
        · unfold imp at hi
          rw [O4.1 _ _ (fun q => by unfold P96 at q; omega), o3 c j (by omega) (by omega) q1 q2 (by omega) (by omega)]
        · rw [O4.1 _ _ (fun q => by unfold P96 at q; omega), O4.1 _ _ (fun q => by unfold P96 at q; omega), o3 _ _ (by omega) (by omega) (by omega) (by omega) (by omega) (by omega), o3 _ _ (by omega) (by omega) (by omega) (by omega) (by omega) (by omega)]
          exact hF.2.2.1
        · rw [L4]; exact hF.2.2.2.1
        · rw [L4]; exact hF.2.2.2.2
        · rw [O4.1 _ _ (fun q => by unfold P96 at q; omega), O3.1 _ _ (by omega)]; exact a1
        · rw [O4.1 (13 + 2 * k + 1) i (fun q => by unfold P96 at q; omega), O3.1 (13 + 2 * k + 1) i (by omega), a2 i hi, b2 i hi, f2 i (by omega)]
          exact (p2 i (by show i ≤ (fo T).1; omega)).symm
  · have hr2 : ¬ (0 ≤ r ∧ r ≤ 5) := fun q => hr ((below_in (n := 5) (by decide)).mpr q)
    refine ⟨-1, M, M, ?_, ?_, h⟩
    · unfold fX5_back
      rw [isBelow_ok, cal_ok, if_neg hr, if_pos rfl]
    · show fX6_back 93 r M = _
      unfold fX6_back
      rw [isRow_ok, cal_ok, if_neg hr2, if_pos rfl]
/-- the first round at which it is not so -/
def frst (p : Nat → Bool) : Nat → Nat → Int32
  | 0, _ => -9
  | d + 1, i => if p i then frst p d (i + 1) else nI i
def wrB (T : WT) (i : Nat) : Bool := foP (fwT T) (hereN T) (i + 1) == tz T (ts T - i - 1)
theorem fP_lt {W : FoW} {n : Nat} (hn : n ≤ 8) (hE : ∀ x, x < n → W.1 x < 2 ^ n) : ∀ fu D p j, p < n → j ≤ (fL W fu D p).1 → fP W j D p < n := by
  intro fu
  induction fu with
  | zero =>
    intro D p j hp hj
    have hj : j ≤ 0 := hj
    have : j = 0 := by omega
    subst this
    exact hp
  | succ fu ih =>
    intro D p j hp hj
    unfold fL at hj
    cases j with
    | zero => exact hp
    | succ j =>
      by_cases h : p = 0
      · rw [if_pos h] at hj; exact absurd hj (by show ¬ j + 1 ≤ 0; omega)
      · rw [if_neg h] at hj
        by_cases q : nxN W D p = 9
        · rw [if_pos q] at hj; exact absurd hj (by show ¬ j + 1 ≤ 0; omega)
        · rw [if_neg q] at hj
          have hj : j + 1 ≤ (fL W fu (D ||| 2 ^ nxN W D p) (nxN W D p)).1 + 1 := hj
          exact ih _ _ j (nx_in hn (hE p hp) q).1 (by omega)
theorem foP_lt {T : WT} (hV : VT T) (h0 : tn T ≠ 0) {j : Nat} (hj : j ≤ (fo T).1) : foP (fwT T) (hereN T) j < tn T := fP_lt (W := fwT T) hV.n8 (fun _ hx => hV.en hx) 7 _ _ j (here_lt hV h0) hj
theorem op_wrong (M : Mm) (h : Rel M) : Good Rel (fX5_wrong 0 M) (fX6_wrong 93) := by
  obtain ⟨hRO, hF, hR, hX, T, hV, hC, hW, hK⟩ := id h
  have hn8 := hV.n8
  have hs30 := hV.s30
  by_cases h0 : tn T = 0
  · refine ⟨-4, M, M, ?_, ?_, h⟩
    · unfold fX5_wrong bX5_wrong_0
      rw [g33 hRO, emp1 hC hV h0, cal_ok, if_neg (by decide), fen_r]
    · show fX6_wrong 93 M = _
      unfold fX6_wrong bX6_wrong_0
      rw [gfI_e, hW.1, h0, if_pos nI_0, fen_r]
  · have hne : ¬ nI (tn T) = 0 := nI_ne0 (by omega) (by omega)
    have hfo := fo_le T
    obtain ⟨M1, e1, f1, f2, g1, O1⟩ := findsHome_ok hRO w33 hC hV h0
    have r1 := O1.2.2
    have hw := w33
    have o1 : ∀ c j, c ≠ 6 → c ≠ 8 → M1.1 c j = M.1 c j := fun c j q1 q2 => O1.1 c j (by omega)
    have hC1 : CWd 33 T M1 := hC.pt (fun c j q1 q2 => o1 c j (by omega) (by omega))
    have hW2 : RWd T M1 := hW.same2 hV (fun c j q => o1 c j (by omega) (by omega))
    obtain ⟨M3, e3, p1, p2, O3⟩ := follows_ok r1 (f := 0) (by decide) hW2.v hV.vw hV.b4 (here_lt hV h0)
    have e3 : fX6_follows 93 0 (nI (hereN T)) M1 = some (if (fo T).2 then 1 else 0, M3) := e3
    have p1 : M3.1 93 32 = nI ((fo T).1 + 1) := p1
    have r3 := O3.ro r1
    have hW3 : RWd T M3 := hW2.same2 hV (fun c j q => O3.1 c j (by omega))
    obtain ⟨b, hb⟩ : ∃ b, b = (if ts T < (fo T).1 then ts T else (fo T).1) := ⟨_, rfl⟩
    have hb1 : b ≤ ts T ∧ b ≤ (fo T).1 ∧ (b = ts T ∨ b = (fo T).1) := by
      rw [hb]
      by_cases q : ts T < (fo T).1
      · rw [if_pos q]; omega
      · rw [if_neg q]; omega
    have tzl : ∀ i, i ≤ ts T → tz T i < tn T := (hV.pos h0).2
    have cmp : ∀ i, i < b → (nI (foP (fwT T) (hereN T) (i + 1)) = nI (tz T (ts T - i - 1)) ↔ wrB T i = true) := fun i hi => by
      unfold wrB
      have := foP_lt hV h0 (j := i + 1) (by omega)
      have := tzl (ts T - i - 1) (by omega)
      rw [beq_iff_eq]
      exact ⟨fun q => nI_inj (by omega) (by omega) q, fun q => by rw [q]⟩
    have c5 : ∀ d i, i + d = b → fnl gX5_wrong (1, 0, nI b, nI i, M1) = some (frst (wrB T) d i, M1) := by
      intro d
      induction d with
      | zero =>
        intro i hi
        refine fnl_out ?_
        show bX5_wrong_45 0 (nI b) (nI i) M1 = _
        unfold bX5_wrong_45
        rw [if_pos (nI_le (show b ≤ i by omega) (by omega))]
        rfl
      | succ d ih =>
        intro i hi
        have step : bX5_wrong_45 0 (nI b) (nI i) M1 = if wrB T i = true then some (.inl (1, 0, nI b, nI (i + 1), M1)) else some (.inr (nI i, M1)) := by
          unfold bX5_wrong_45
          have x1 : nI (ts T) - nI i = nI (ts T - i) := nsub (by omega)
          have x2 : nI (ts T - i) - 1 = nI (ts T - i - 1) := nsub (b := 1) (by omega)
          have x3 := f2 (i + 1) (by omega)
          have x4 := hC1.z (x := ts T - i - 1) (by omega)
          simp (disch := first | assumption | omega | decide) only [↓reduceIte, ↓gfI_e, ↓pfI_e, ↓gfJ_e, ↓pfJ_e, ↓ltI_e, ↓ltJ_e, ↓cal_ok, ↓rz0, ↓rz1, ↓g33, ↓g45, ↓wK, ↓wO, ↓wB, ↓wL, ↓wS, ↓wP, ↓wQ, ↓wY, ↓wL0, ↓wL1, ↓wL2, ↓r93_95, ↓r93_96, ↓r93_98, ↓r93_99, ↓r93_100, ↓r93_101, ↓r93_106, ↓r93_107, ↓ldw1, ↓ldw2, ↓ldw3, ↓ldw5, ↓ldw6, ↓ldw7, ↓ldw8, ↓ldw9, ↓ldw10, ↓ldw11, ↓ld100, ↓ld101, ↓ld106, ↓ld107, nle_F, nle_T, nlt_F, nlt_T, neq_F, neq_T, nle0_T, nle0_F, nlt0_F, n0lt_T, n0lt_F, n0le_T, n1_eq0, n0_eq0, n0_eq1, n1_eq1, np1, Bool.false_eq_true, g6s, g68, hC1.s, x1, x2, x3, x4, ld_w 8 (show ln 8 = 8 from rfl) (show i + 1 < 8 by omega), cmp i (by omega)]
        by_cases q : wrB T i = true
        · rw [if_pos q] at step
          rw [show frst (wrB T) (d + 1) i = frst (wrB T) d (i + 1) from if_pos q]
          exact (fnl_in step).trans (ih (i + 1) (by omega))
        · rw [if_neg q] at step
          rw [show frst (wrB T) (d + 1) i = nI i from if_neg q]
          exact fnl_out step
    have c6 : ∀ d i, i + d = b → fnl gX6_wrong (1, 93, nI i, M3) = some (frst (wrB T) d i, M3) := by
      intro d
      have y1 : nI ((fo T).1 + 1) - 1 = nI (fo T).1 := nsub (b := 1) (Nat.add_comm _ _)
      induction d with
      | zero =>
        intro i hi
        refine fnl_out ?_
        show bX6_wrong_22 93 (nI i) M3 = _
        unfold bX6_wrong_22 bX6_wrong_72
        rw [gfI_e, p1, y1, gfI_e, hW3.2.2.1]
        rcases hb1.2.2 with z | z
        · by_cases q : (fo T).1 ≤ i
          · rw [if_pos (nI_le q (by omega))]; rfl
          · rw [if_neg (show ¬ nI (fo T).1 ≤ nI i by rw [nle_F (by omega) (by omega)]; exact id), if_pos (nI_le (by omega) (by omega))]; rfl
        · rw [if_pos (nI_le (show (fo T).1 ≤ i by omega) (by omega))]; rfl
      | succ d ih =>
        intro i hi
        have step : bX6_wrong_22 93 (nI i) M3 = if wrB T i = true then some (.inl (1, 93, nI (i + 1), M3)) else some (.inr (nI i, M3)) := by
          unfold bX6_wrong_22
          have x1 : nI (ts T) - 1 = nI (ts T - 1) := nsub (b := 1) (by omega)
          have x2 : nI (ts T - 1) - nI i = nI (ts T - i - 1) := nsub (by omega)
          have x3 : M3.1 113 (i + 1) = nI (foP (fwT T) (hereN T) (i + 1)) := p2 (i + 1) (by show i + 1 ≤ (fo T).1; omega)
          have x4 := hW3.2.2.2.2.2.2.2.2.2 (ts T - i - 1) (by omega)
          simp (disch := first | assumption | omega | decide) only [↓reduceIte, ↓gfI_e, ↓pfI_e, ↓gfJ_e, ↓pfJ_e, ↓ltI_e, ↓ltJ_e, ↓cal_ok, ↓rz0, ↓rz1, ↓g33, ↓g45, ↓wK, ↓wO, ↓wB, ↓wL, ↓wS, ↓wP, ↓wQ, ↓wY, ↓wL0, ↓wL1, ↓wL2, ↓r93_95, ↓r93_96, ↓r93_98, ↓r93_99, ↓r93_100, ↓r93_101, ↓r93_106, ↓r93_107, ↓ldw1, ↓ldw2, ↓ldw3, ↓ldw5, ↓ldw6, ↓ldw7, ↓ldw8, ↓ldw9, ↓ldw10, ↓ldw11, ↓ld100, ↓ld101, ↓ld106, ↓ld107, nle_F, nle_T, nlt_F, nlt_T, neq_F, neq_T, nle0_T, nle0_F, nlt0_F, n0lt_T, n0lt_F, n0le_T, n1_eq0, n0_eq0, n0_eq1, n1_eq1, np1, Bool.false_eq_true, p1, y1, hW3.2.2.1, r93_113, x1, x2, x3, x4, ld_w 9 (show ln 113 = 9 from rfl) (show i + 1 < 9 by omega), cmp i (by omega)]
        by_cases q : wrB T i = true
        · rw [if_pos q] at step
          rw [show frst (wrB T) (d + 1) i = frst (wrB T) d (i + 1) from if_pos q]
          exact (fnl_in step).trans (ih (i + 1) (by omega))
        · rw [if_neg q] at step
          rw [show frst (wrB T) (d + 1) i = nI i from if_neg q]
          exact fnl_out step
    refine ⟨frst (wrB T) b 0, M1, M3, ?_, ?_, ?_⟩
    · unfold fX5_wrong bX5_wrong_0
      have em : (if nI (ts T) < nI (fo T).1 then nI (ts T) else nI (fo T).1) = nI b := by
        rw [hb]
        by_cases q : ts T < (fo T).1
        · rw [if_pos q]; simp (disch := first | assumption | omega | decide) only [↓reduceIte, ↓gfI_e, ↓pfI_e, ↓gfJ_e, ↓pfJ_e, ↓ltI_e, ↓ltJ_e, ↓cal_ok, ↓rz0, ↓rz1, ↓g33, ↓g45, ↓wK, ↓wO, ↓wB, ↓wL, ↓wS, ↓wP, ↓wQ, ↓wY, ↓wL0, ↓wL1, ↓wL2, ↓r93_95, ↓r93_96, ↓r93_98, ↓r93_99, ↓r93_100, ↓r93_101, ↓r93_106, ↓r93_107, ↓ldw1, ↓ldw2, ↓ldw3, ↓ldw5, ↓ldw6, ↓ldw7, ↓ldw8, ↓ldw9, ↓ldw10, ↓ldw11, ↓ld100, ↓ld101, ↓ld106, ↓ld107, nle_F, nle_T, nlt_F, nlt_T, neq_F, neq_T, nle0_T, nle0_F, nlt0_F, n0lt_T, n0lt_F, n0le_T, n1_eq0, n0_eq0, n0_eq1, n1_eq1, np1, Bool.false_eq_true]
        · rw [if_neg q]; simp (disch := first | assumption | omega | decide) only [↓reduceIte, ↓gfI_e, ↓pfI_e, ↓gfJ_e, ↓pfJ_e, ↓ltI_e, ↓ltJ_e, ↓cal_ok, ↓rz0, ↓rz1, ↓g33, ↓g45, ↓wK, ↓wO, ↓wB, ↓wL, ↓wS, ↓wP, ↓wQ, ↓wY, ↓wL0, ↓wL1, ↓wL2, ↓r93_95, ↓r93_96, ↓r93_98, ↓r93_99, ↓r93_100, ↓r93_101, ↓r93_106, ↓r93_107, ↓ldw1, ↓ldw2, ↓ldw3, ↓ldw5, ↓ldw6, ↓ldw7, ↓ldw8, ↓ldw9, ↓ldw10, ↓ldw11, ↓ld100, ↓ld101, ↓ld106, ↓ld107, nle_F, nle_T, nlt_F, nlt_T, neq_F, neq_T, nle0_T, nle0_F, nlt0_F, n0lt_T, n0lt_F, n0le_T, n1_eq0, n0_eq0, n0_eq1, n1_eq1, np1, Bool.false_eq_true]
      rw [g33 hRO, emp0 hC hV h0, cal_ok, if_pos rfl, g6s hRO, g33 hRO, e1, cal_ok, g6s r1, gfI_e, f1, g33 r1, gfI_e, hC1.s, ltI_e, em, fen_l]
      exact c5 b 0 (by omega)
    · show fX6_wrong 93 M1 = _
      unfold fX6_wrong bX6_wrong_0
      rw [gfI_e, hW2.1, if_neg hne, hereNow2 r1 hW2 hV, cal_ok, e3, cal_ok, fen_l]
      exact c6 b 0 (by omega)
    · refine h.sc r3 (fun c j hi => ?_) ?_
      · unfold imp at hi
        rw [O3.1 c j (by omega), o1 c j (by omega) (by omega)]
      · rw [O3.2]; exact O1.2.1

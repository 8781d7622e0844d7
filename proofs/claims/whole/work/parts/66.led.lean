/-! WHAT MATTERS between the calls; a row filled -/
def imp (c j : Nat) : Prop := c = 0 ∨ (12 ≤ c ∧ c ≤ 44) ∨ (57 ≤ c ∧ c ≤ 92) ∨ c = 94 ∨ c = 95 ∨ c = 96 ∨ c = 98 ∨ c = 99 ∨ c = 100 ∨ c = 101 ∨ (c = 106 ∧ j < 39) ∨ (107 ≤ c ∧ c ≤ 112) ∨ (c = 93 ∧ (j = 0 ∨ j = 2 ∨ j = 10 ∨ j = 11 ∨ j = 25))
theorem RWd.same2 {T : WT} {M M1 : Mm} (hV : VT T) (h : ∀ c j, (c = 93 ∧ (j = 10 ∨ j = 11 ∨ j = 25) ∨ c = 100 ∨ c = 101 ∨ c = 106 ∧ j < 39 ∨ c = 107) → M1.1 c j = M.1 c j) (hC : RWd T M) : RWd T M1 := by
  have hn8 := hV.n8
  have hb4 := hV.b4
  obtain ⟨h0, h1, h2, h3, h4, h5, h6, h7, h8, h9⟩ := hC
  refine ⟨by rw [h _ _ (by omega)]; exact h0, by rw [h _ _ (by omega)]; exact h1, by rw [h _ _ (by omega)]; exact h2, fun x hx => by rw [h _ _ (by omega)]; exact h3 x hx, fun x hx => by rw [h _ _ (by omega)]; exact h4 x hx, fun m x hm hx => by rw [h _ _ (by omega)]; exact h5 m x hm hx, fun x hx => by rw [h _ _ (by omega)]; exact h6 x hx, fun x hx => by rw [h _ _ (by omega)]; exact h7 x hx, fun x hx => by rw [h _ _ (by omega)]; exact h8 x hx, fun x hx => by rw [h _ _ (by omega)]; exact h9 x hx⟩
theorem Rel.row1 {M M1 : Mm} (h : Rel M) {k : Nat} (hk : k < 6) (hRO : RO M1) (hs : ∀ c j, imp c j → c ≠ 13 + 2 * k → c ≠ 13 + 2 * k + 1 → ¬ (c = 95 ∧ j = k) → ¬ (c = 96 ∧ 40 * k ≤ j ∧ j < 40 * k + 40) → ¬ (c = 0 ∧ j = 10) → ¬ (c = 93 ∧ j = 2) → M1.1 c j = M.1 c j) (hA : M1.1 0 10 = M1.1 93 2) (hL1 : M1.2.1 0 11 = M1.2.1 93 3) (hL2 : M1.2.1 0 12 = M1.2.1 93 4) (hR : Row1 13 95 96 40 40 M1 k) : Rel M1 := by
  obtain ⟨h1, hF, h3, h4, T, q1, q2, q3, q4⟩ := h
  have cs : ∀ c, (33 ≤ c ∧ c ≤ 44 ∨ 57 ≤ c ∧ c ≤ 92 ∨ 98 ≤ c ∧ c ≤ 101 ∨ 107 ≤ c ∧ c ≤ 112) → M1.1 c = M.1 c := fun c hc => funext fun j => hs c j (by unfold imp; omega) (by omega) (by omega) (by omega) (by omega) (by omega) (by omega)
  refine ⟨hRO, ⟨?_, fun f hf => ?_, hA, hL1, hL2⟩, fun r hr => ?_, fun t ht => ?_, T, q1, ?_, ?_, fun i hi => ?_⟩
  · rw [hs 0 9 (by unfold imp; omega) (by omega) (by omega) (by omega) (by omega) (by omega) (by omega), hs 93 0 (by unfold imp; omega) (by omega) (by omega) (by omega) (by omega) (by omega) (by omega)]
    exact hF.1
  · rw [hs 12 f (by unfold imp; omega) (by omega) (by omega) (by omega) (by omega) (by omega) (by omega), hs 94 f (by unfold imp; omega) (by omega) (by omega) (by omega) (by omega) (by omega) (by omega)]
    exact hF.2.1 f hf
  · by_cases hrk : r = k
    · rw [hrk]; exact hR
    · refine (h3 r hr).same ?_ ?_ (funext fun j => ?_) (fun i hi => ?_)
      · exact hs _ _ (by unfold imp; omega) (by omega) (by omega) (by omega) (by omega) (by omega) (by omega)
      · exact hs _ _ (by unfold imp; omega) (by omega) (by omega) (by omega) (by omega) (by omega) (by omega)
      · exact hs _ _ (by unfold imp; omega) (by omega) (by omega) (by omega) (by omega) (by omega) (by omega)
      · exact hs _ _ (by unfold imp; omega) (by omega) (by omega) (by omega) (by omega) (by omega) (by omega)
  · refine (h4 t ht).same ?_ ?_ (funext fun j => ?_) (fun i hi => ?_)
    · exact hs _ _ (by unfold imp; omega) (by omega) (by omega) (by omega) (by omega) (by omega) (by omega)
    · exact hs _ _ (by unfold imp; omega) (by omega) (by omega) (by omega) (by omega) (by omega) (by omega)
    · exact hs _ _ (by unfold imp; omega) (by omega) (by omega) (by omega) (by omega) (by omega) (by omega)
    · exact hs _ _ (by unfold imp; omega) (by omega) (by omega) (by omega) (by omega) (by omega) (by omega)
  · exact q2.same (fun c a b => cs c (by omega))
  · exact q3.same2 q1 (fun c j hc => hs c j (by unfold imp; omega) (by omega) (by omega) (by omega) (by omega) (by omega) (by omega))
  · exact (q4 i hi).same hi (fun c a b => cs c (by omega)) (fun c a b => cs c (by omega))
/-- only what doesn't matter and what is told has changed -/
theorem Rel.sct {M M1 : Mm} (h : Rel M) (hRO : RO M1) (hs : ∀ c j, imp c j → ¬ (c = 0 ∧ j = 10) → ¬ (c = 93 ∧ j = 2) → M1.1 c j = M.1 c j) (hA : M1.1 0 10 = M1.1 93 2) (hL1 : M1.2.1 0 11 = M1.2.1 93 3) (hL2 : M1.2.1 0 12 = M1.2.1 93 4) : Rel M1 := by
  refine h.row1 (k := 0) (by decide) hRO (fun c j a _ _ _ _ b d => hs c j a b d) hA hL1 hL2 ?_
  refine (h.2.2.1 0 (by decide)).same ?_ ?_ (funext fun j => ?_) (fun i hi => ?_)
  · exact hs _ _ (by unfold imp; omega) (by omega) (by omega)
  · exact hs _ _ (by unfold imp; omega) (by omega) (by omega)
  · exact hs _ _ (by unfold imp; omega) (by omega) (by omega)
  · exact hs _ _ (by unfold imp; omega) (by omega) (by omega)
/-- only what doesn't matter has changed -/
theorem Rel.sc {M M1 : Mm} (h : Rel M) (hRO : RO M1) (hs : ∀ c j, imp c j → M1.1 c j = M.1 c j) (hL : M1.2.1 = M.2.1) : Rel M1 := by
  have hF := h.2.1
  refine h.sct hRO (fun c j a _ _ => hs c j a) ?_ ?_ ?_
  · rw [hs _ _ (by unfold imp; omega), hs _ _ (by unfold imp; omega)]; exact hF.2.2.1
  · rw [hL]; exact hF.2.2.2.1
  · rw [hL]; exact hF.2.2.2.2
section
variable {M : Mm}
theorem fill_ok (h : RO M) {k c n L : Nat} (hk : k < 6) (hL : ln c = L) (hL40 : L ≤ 40) (hn : n ≤ L) (hc : c ≠ 13 + 2 * k + 1) (hc2 : c ≠ 13 + 2 * k) : ∃ M1, fX2_fillFrom (13 + 2 * k) c (nI n) M = some (nI n, M1) ∧ M1.1 (13 + 2 * k) 1 = nI n ∧ (∀ i, i < n → M1.1 (13 + 2 * k + 1) i = M.1 c i) ∧ Off (fun d _ => d = 13 + 2 * k ∨ d = 13 + 2 * k + 1) M M1 := by
  have hl := strip_ln.1 k hk
  unfold fX2_fillFrom bX2_fillFrom_0
  have em : (if (if (Int32.ofNat (ln (13 + 2 * k + 1))) < (Int32.ofNat (ln c)) then (Int32.ofNat (ln (13 + 2 * k + 1))) else (Int32.ofNat (ln c))) < nI n then (if (Int32.ofNat (ln (13 + 2 * k + 1))) < (Int32.ofNat (ln c)) then (Int32.ofNat (ln (13 + 2 * k + 1))) else (Int32.ofNat (ln c))) else nI n) = nI n := by
    rw [hl, hL]
    show (if (if nI 40 < nI L then nI 40 else nI L) < nI n then (if nI 40 < nI L then nI 40 else nI L) else nI n) = nI n
    simp (disch := first | assumption | omega | decide) only [↓reduceIte, ↓gfI_e, ↓pfI_e, ↓gfJ_e, ↓pfJ_e, ↓ltI_e, ↓ltJ_e, ↓cal_ok, ↓rz0, ↓rz1, ↓g33, ↓g45, ↓wK, ↓wO, ↓wB, ↓wL, ↓wS, ↓wP, ↓wQ, ↓wY, ↓wL0, ↓wL1, ↓wL2, ↓r93_95, ↓r93_96, ↓r93_98, ↓r93_99, ↓r93_100, ↓r93_101, ↓r93_106, ↓r93_107, ↓ldw1, ↓ldw2, ↓ldw3, ↓ldw5, ↓ldw6, ↓ldw7, ↓ldw8, ↓ldw9, ↓ldw10, ↓ldw11, ↓ld100, ↓ld101, ↓ld106, ↓ld107, nle_F, nle_T, nlt_F, nlt_T, neq_F, neq_T, nle0_T, nle0_F, nlt0_F, n0lt_T, n0lt_F, n0le_T, n1_eq0, n0_eq0, n0_eq1, n1_eq1, np1, Bool.false_eq_true]
  rw [gStrip h hk, em, pfI_e, fen_l]
  have key : ∃ r, fnl gX2_fillFrom (1, 13 + 2 * k, c, 0, wI M (13 + 2 * k) 1 (nI n)) = some r ∧ (r.1 = nI n ∧ r.2.1 (13 + 2 * k) 1 = nI n ∧ (∀ i, i < n → r.2.1 (13 + 2 * k + 1) i = M.1 c i) ∧ Off (fun d _ => d = 13 + 2 * k ∨ d = 13 + 2 * k + 1) M r.2) := by
    refine fnl_inv (g := gX2_fillFrom) (fun j s => ∃ M1, s = (1, 13 + 2 * k, c, nI j, M1) ∧ M1.1 (13 + 2 * k) 1 = nI n ∧ (∀ i, i < j → M1.1 (13 + 2 * k + 1) i = M.1 c i) ∧ Off (fun d _ => d = 13 + 2 * k ∨ d = 13 + 2 * k + 1) M M1) n _ (fun j s hj hI => ?_) (fun s hI => ?_) 0 (Nat.zero_le _) _ ⟨wI M (13 + 2 * k) 1 (nI n), rfl, by rw [wI_at, if_pos ⟨rfl, rfl⟩], fun i hi => absurd hi (by omega), Off.rf.wI (Or.inl rfl)⟩
    · obtain ⟨M1, rfl, e1, e2, hO⟩ := hI
      have h1 := hO.ro h
      have ec : M1.1 c j = M.1 c j := hO.1 c j (fun q => by omega)
      left
      refine ⟨(1, 13 + 2 * k, c, nI (j + 1), wI M1 (13 + 2 * k + 1) j (M.1 c j)), ?_, _, rfl, ?_, fun i hi => ?_, hO.wI (Or.inr rfl)⟩
      · show bX2_fillFrom_20 (13 + 2 * k) c (nI j) M1 = _
        unfold bX2_fillFrom_20
        simp (disch := first | assumption | omega | decide) only [↓reduceIte, ↓gfI_e, ↓pfI_e, ↓gfJ_e, ↓pfJ_e, ↓ltI_e, ↓ltJ_e, ↓cal_ok, ↓rz0, ↓rz1, ↓g33, ↓g45, ↓wK, ↓wO, ↓wB, ↓wL, ↓wS, ↓wP, ↓wQ, ↓wY, ↓wL0, ↓wL1, ↓wL2, ↓r93_95, ↓r93_96, ↓r93_98, ↓r93_99, ↓r93_100, ↓r93_101, ↓r93_106, ↓r93_107, ↓ldw1, ↓ldw2, ↓ldw3, ↓ldw5, ↓ldw6, ↓ldw7, ↓ldw8, ↓ldw9, ↓ldw10, ↓ldw11, ↓ld100, ↓ld101, ↓ld106, ↓ld107, nle_F, nle_T, nlt_F, nlt_T, neq_F, neq_T, nle0_T, nle0_F, nlt0_F, n0lt_T, n0lt_F, n0le_T, n1_eq0, n0_eq0, n0_eq1, n1_eq1, np1, Bool.false_eq_true, e1, gStrip h1 hk, ld_w L hL (show j < L by omega), ec, st_w 40 hl (show j < 40 by omega)]
      · rw [wI_at, if_neg (by omega)]; exact e1
      · by_cases q : i = j
        · subst q
          rw [wI_at, if_pos ⟨rfl, rfl⟩]
        · rw [wI_at, if_neg (by omega)]; exact e2 i (by omega)
    · obtain ⟨M1, rfl, e1, e2, hO⟩ := hI
      refine ⟨(nI n, M1), ?_, rfl, e1, e2, hO⟩
      show bX2_fillFrom_20 (13 + 2 * k) c (nI n) M1 = _
      unfold bX2_fillFrom_20
      simp (disch := first | assumption | omega | decide) only [↓reduceIte, ↓gfI_e, ↓pfI_e, ↓gfJ_e, ↓pfJ_e, ↓ltI_e, ↓ltJ_e, ↓cal_ok, ↓rz0, ↓rz1, ↓g33, ↓g45, ↓wK, ↓wO, ↓wB, ↓wL, ↓wS, ↓wP, ↓wQ, ↓wY, ↓wL0, ↓wL1, ↓wL2, ↓r93_95, ↓r93_96, ↓r93_98, ↓r93_99, ↓r93_100, ↓r93_101, ↓r93_106, ↓r93_107, ↓ldw1, ↓ldw2, ↓ldw3, ↓ldw5, ↓ldw6, ↓ldw7, ↓ldw8, ↓ldw9, ↓ldw10, ↓ldw11, ↓ld100, ↓ld101, ↓ld106, ↓ld107, nle_F, nle_T, nlt_F, nlt_T, neq_F, neq_T, nle0_T, nle0_F, nlt0_F, n0lt_T, n0lt_F, n0le_T, n1_eq0, n0_eq0, n0_eq1, n1_eq1, np1, Bool.false_eq_true, e1]
  obtain ⟨r, e, h1, h2, h3, h4⟩ := key
  exact ⟨r.2, e.trans (by rw [← h1]), h2, h3, h4⟩
def P96 (k c j : Nat) : Prop := c = 95 ∧ j = k ∨ c = 96 ∧ 40 * k ≤ j ∧ j < 40 * k + 40
theorem layRow_ok (h : RO M) {k c n L : Nat} (hk : k < 6) (hL : ln c = L) (hL40 : L ≤ 40) (hn : n ≤ L) (hc : c ≠ 95) (hc2 : c ≠ 96) : ∃ M1, fX6_layRow 93 (nI k) c (nI n) M = some ((), M1) ∧ M1.1 95 k = nI n ∧ (∀ i, i < n → M1.1 96 (40 * k + i) = M.1 c i) ∧ Off (P96 k) M M1 := by
  unfold fX6_layRow bX6_layRow_0
  rw [r93_95 h, st_w 6 (show ln 95 = 6 from rfl) hk (by decide), fen_l]
  have key : ∃ r, fnl gX6_layRow (1, 93, nI k, c, nI n, 0, wI M 95 k (nI n)) = some r ∧ (r.2.1 95 k = nI n ∧ (∀ i, i < n → r.2.1 96 (40 * k + i) = M.1 c i) ∧ Off (P96 k) M r.2) := by
    refine fnl_inv (g := gX6_layRow) (fun j s => ∃ M1, s = (1, 93, nI k, c, nI n, nI j, M1) ∧ M1.1 95 k = nI n ∧ (∀ i, i < j → i < n → M1.1 96 (40 * k + i) = M.1 c i) ∧ Off (P96 k) M M1) 40 _ (fun j s hj hI => ?_) (fun s hI => ?_) 0 (Nat.zero_le _) _ ⟨wI M 95 k (nI n), rfl, by rw [wI_at, if_pos ⟨rfl, rfl⟩], fun i hi => absurd hi (by omega), Off.rf.wI (Or.inl ⟨rfl, rfl⟩)⟩
    · obtain ⟨M1, rfl, e1, e2, hO⟩ := hI
      have h1 := hO.ro h
      have ec : M1.1 c j = M.1 c j := hO.1 c j (fun q => by unfold P96 at q; omega)
      left
      refine ⟨(1, 93, nI k, c, nI n, nI (j + 1), wI M1 96 (40 * k + j) (if n ≤ j then 0 else M.1 c j)), ?_, _, rfl, ?_, fun i hi hin => ?_, hO.wI (Or.inr ⟨rfl, by omega, by omega⟩)⟩
      · show bX6_layRow_10 93 (nI k) c (nI n) (nI j) M1 = _
        unfold bX6_layRow_10 bX6_layRow_42
        rw [show (40 : Int32) = nI 40 from rfl, nI_mul, nI_pl]
        by_cases q : n ≤ j
        · simp (disch := first | assumption | omega | decide) only [↓reduceIte, ↓gfI_e, ↓pfI_e, ↓gfJ_e, ↓pfJ_e, ↓ltI_e, ↓ltJ_e, ↓cal_ok, ↓rz0, ↓rz1, ↓g33, ↓g45, ↓wK, ↓wO, ↓wB, ↓wL, ↓wS, ↓wP, ↓wQ, ↓wY, ↓wL0, ↓wL1, ↓wL2, ↓r93_95, ↓r93_96, ↓r93_98, ↓r93_99, ↓r93_100, ↓r93_101, ↓r93_106, ↓r93_107, ↓ldw1, ↓ldw2, ↓ldw3, ↓ldw5, ↓ldw6, ↓ldw7, ↓ldw8, ↓ldw9, ↓ldw10, ↓ldw11, ↓ld100, ↓ld101, ↓ld106, ↓ld107, nle_F, nle_T, nlt_F, nlt_T, neq_F, neq_T, nle0_T, nle0_F, nlt0_F, n0lt_T, n0lt_F, n0le_T, n1_eq0, n0_eq0, n0_eq1, n1_eq1, np1, Bool.false_eq_true, q, st_w 240 (show ln 96 = 240 from rfl) (show 40 * k + j < 240 by omega)]
        · simp (disch := first | assumption | omega | decide) only [↓reduceIte, ↓gfI_e, ↓pfI_e, ↓gfJ_e, ↓pfJ_e, ↓ltI_e, ↓ltJ_e, ↓cal_ok, ↓rz0, ↓rz1, ↓g33, ↓g45, ↓wK, ↓wO, ↓wB, ↓wL, ↓wS, ↓wP, ↓wQ, ↓wY, ↓wL0, ↓wL1, ↓wL2, ↓r93_95, ↓r93_96, ↓r93_98, ↓r93_99, ↓r93_100, ↓r93_101, ↓r93_106, ↓r93_107, ↓ldw1, ↓ldw2, ↓ldw3, ↓ldw5, ↓ldw6, ↓ldw7, ↓ldw8, ↓ldw9, ↓ldw10, ↓ldw11, ↓ld100, ↓ld101, ↓ld106, ↓ld107, nle_F, nle_T, nlt_F, nlt_T, neq_F, neq_T, nle0_T, nle0_F, nlt0_F, n0lt_T, n0lt_F, n0le_T, n1_eq0, n0_eq0, n0_eq1, n1_eq1, np1, Bool.false_eq_true, q, ld_w L hL (show j < L by omega), ec, st_w 240 (show ln 96 = 240 from rfl) (show 40 * k + j < 240 by omega)]
      · rw [wI_at, if_neg (by omega)]; exact e1
      · by_cases q : i = j
        · subst q
          rw [wI_at, if_pos ⟨rfl, rfl⟩, if_neg (by omega)]
        · rw [wI_at, if_neg (by omega)]; exact e2 i (by omega) hin
    · obtain ⟨M1, rfl, e1, e2, hO⟩ := hI
      exact ⟨((), M1), rfl, e1, fun i hi => e2 i (by omega) hi, hO⟩
  obtain ⟨r, e, h2, h3, h4⟩ := key
  exact ⟨r.2, e, h2, h3, h4⟩
end
theorem op_led (M : Mm) (h : Rel M) (r : Int32) : Good Rel (fX5_led 0 r M) (fX6_led 93 r) := by
  obtain ⟨hRO, hF, hR, hX, T, hV, hC, hW, hK⟩ := id h
  have hn8 := hV.n8
  have hs := hV.s30
  by_cases hr : 0 ≤ r ∧ r < 6
  · have hr2 : 0 ≤ r ∧ r ≤ 5 := (below_in (n := 5) (by decide)).mp hr
    obtain ⟨k, hk, rfl⟩ := i32_lt_nat (n := 6) (by decide) hr.1 hr.2
    by_cases h0 : tn T = 0
    · refine ⟨-4, M, M, ?_, ?_, h⟩
      · unfold fX5_led
        rw [isBelow_ok, cal_ok, if_pos hr, if_neg (by decide), g33 hRO, isEmpty_ok hC hn8, cal_ok, if_pos h0, if_neg (by decide)]
      · show fX6_led 93 (nI k) M = _
        unfold fX6_led
        rw [isRow_ok, cal_ok, if_pos hr2, if_neg (by decide), gfI_e, hW.1, h0, if_pos nI_0]
    · have hne : ¬ nI (tn T) = 0 := nI_ne0 (by omega) (by omega)
      have hw := w33
      obtain ⟨M1, e1, a1, a2, hO1⟩ := fill_ok hRO (k := k) (c := 33 + 11) (n := ts T + 1) (L := 31) hk rfl (by decide) (by omega) (by omega) (by omega)
      have h1 := hO1.ro hRO
      have o1 : ∀ c, c ≠ 13 + 2 * k → c ≠ 13 + 2 * k + 1 → M1.1 c = M.1 c := fun c a b => hO1.c (fun j q => by omega)
      have w1 : M1.1 93 10 = nI (tn T) := by rw [o1 _ (by omega) (by omega)]; exact hW.1
      have w2 : M1.1 93 25 = nI (ts T) := by rw [o1 _ (by omega) (by omega)]; exact hW.2.2.1
      obtain ⟨M2, e2, b1, b2, hO2⟩ := layRow_ok h1 (k := k) (c := 107) (n := ts T + 1) (L := 31) hk rfl (by decide) (by omega) (by omega) (by omega)
      have w3 : M2.1 93 25 = nI (ts T) := by rw [hO2.1 _ _ (fun q => by unfold P96 at q; omega)]; exact w2
      refine ⟨nI (ts T + 1), M1, M2, ?_, ?_, ?_⟩
      · unfold fX5_led
        rw [isBelow_ok, cal_ok, if_pos hr, if_neg (by decide), g33 hRO, isEmpty_ok hC hn8, cal_ok, if_neg h0, if_pos rfl]
        simp (disch := first | assumption | omega | decide) only [↓reduceIte, ↓gfI_e, ↓pfI_e, ↓gfJ_e, ↓pfJ_e, ↓ltI_e, ↓ltJ_e, ↓cal_ok, ↓rz0, ↓rz1, ↓g33, ↓g45, ↓wK, ↓wO, ↓wB, ↓wL, ↓wS, ↓wP, ↓wQ, ↓wY, ↓wL0, ↓wL1, ↓wL2, ↓r93_95, ↓r93_96, ↓r93_98, ↓r93_99, ↓r93_100, ↓r93_101, ↓r93_106, ↓r93_107, ↓ldw1, ↓ldw2, ↓ldw3, ↓ldw5, ↓ldw6, ↓ldw7, ↓ldw8, ↓ldw9, ↓ldw10, ↓ldw11, ↓ld100, ↓ld101, ↓ld106, ↓ld107, nle_F, nle_T, nlt_F, nlt_T, neq_F, neq_T, nle0_T, nle0_F, nlt0_F, n0lt_T, n0lt_F, n0le_T, n1_eq0, n0_eq0, n0_eq1, n1_eq1, np1, Bool.false_eq_true, g1s, ldRow, hC.s, e1]
      · show fX6_led 93 (nI k) M1 = _
        unfold fX6_led
        rw [isRow_ok, cal_ok, if_pos hr2, if_neg (by decide), gfI_e, w1, if_neg hne]
        simp (disch := first | assumption | omega | decide) only [↓reduceIte, ↓gfI_e, ↓pfI_e, ↓gfJ_e, ↓pfJ_e, ↓ltI_e, ↓ltJ_e, ↓cal_ok, ↓rz0, ↓rz1, ↓g33, ↓g45, ↓wK, ↓wO, ↓wB, ↓wL, ↓wS, ↓wP, ↓wQ, ↓wY, ↓wL0, ↓wL1, ↓wL2, ↓r93_95, ↓r93_96, ↓r93_98, ↓r93_99, ↓r93_100, ↓r93_101, ↓r93_106, ↓r93_107, ↓ldw1, ↓ldw2, ↓ldw3, ↓ldw5, ↓ldw6, ↓ldw7, ↓ldw8, ↓ldw9, ↓ldw10, ↓ldw11, ↓ld100, ↓ld101, ↓ld106, ↓ld107, nle_F, nle_T, nlt_F, nlt_T, neq_F, neq_T, nle0_T, nle0_F, nlt0_F, n0lt_T, n0lt_F, n0le_T, n1_eq0, n0_eq0, n0_eq1, n1_eq1, np1, Bool.false_eq_true, w2, e2, w3]
      · have o2 : ∀ c j, ¬ P96 k c j → M2.1 c j = M1.1 c j := hO2.1
        refine h.row1 hk (hO2.ro h1) (fun c j hi q1 q2 q3 q4 q5 q6 => ?_) ?_ ?_ ?_ (Or.inr ⟨ts T + 1, by omega, ?_, b1, fun i hi => ?_⟩)
        · rw [o2 _ _ (fun q => by unfold P96 at q; omega), o1 _ q1 q2]
        · rw [o2 _ _ (fun q => by unfold P96 at q; omega), o2 _ _ (fun q => by unfold P96 at q; omega), o1 _ (by omega) (by omega), o1 _ (by omega) (by omega)]
          exact hF.2.2.1
        · rw [hO2.2, hO1.2]; exact hF.2.2.2.1
        · rw [hO2.2, hO1.2]; exact hF.2.2.2.2
        · rw [o2 _ _ (fun q => by unfold P96 at q; omega)]; exact a1
        · rw [o2 _ _ (fun q => by unfold P96 at q; omega), a2 i hi, b2 i hi, o1 _ (by omega) (by omega), hC.z (by omega), hW.2.2.2.2.2.2.2.2.2 i (by omega)]
  · have hr2 : ¬ (0 ≤ r ∧ r ≤ 5) := fun q => hr ((below_in (n := 5) (by decide)).mpr q)
    refine ⟨-1, M, M, ?_, ?_, h⟩
    · unfold fX5_led
      rw [isBelow_ok, cal_ok, if_neg hr, if_pos rfl]
    · show fX6_led 93 r M = _
      unfold fX6_led
      rw [isRow_ok, cal_ok, if_neg hr2, if_pos rfl]

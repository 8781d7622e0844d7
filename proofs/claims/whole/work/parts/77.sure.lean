/-! WAYS, SURE -/
theorem frst_all {p : Nat → Bool} : ∀ e k, (∀ i, k ≤ i → p i = true) → frst p e k = -9
  | 0, _, _ => rfl
  | e + 1, k, h => by
    show (if p k then frst p e (k + 1) else nI k) = -9
    rw [if_pos (h k (Nat.le_refl _))]
    exact frst_all e (k + 1) (fun i hi => h i (by omega))
theorem frst_more {p : Nat → Bool} : ∀ d e k, (∀ i, k + d ≤ i → p i = true) → frst p (d + e) k = frst p d k
  | 0, e, k, h => by
    rw [Nat.zero_add]
    exact frst_all e k (fun i hi => h i (by omega))
  | d + 1, e, k, h => by
    rw [Nat.add_right_comm]
    show (if p k then frst p (d + e) (k + 1) else nI k) = (if p k then frst p d (k + 1) else nI k)
    rw [frst_more d e (k + 1) (fun i hi => h i (by omega))]
section
variable {M : Mm} {T : WT}
theorem mk_lt (T : WT) : mkS T < 2 ^ tn T := setN_lt _ _
theorem ways6_ok (h : RO M) (hW : RWd T M) (hV : VT T) (h0 : tn T ≠ 0) {k : Nat} (hk : k ≤ 8) (hw : ∀ i x, i ≤ k → x < tn T → M.1 117 (8 * i + x) = nI (wkN T (mkS T) 0 i x)) : fnl gX6_ways (1, 93, nI k, -9, nI (tn T) - 1, M) = some (nI (wkN T (mkS T) 0 k 0), wI M 93 2 (fsI T (mkS T) k)) := by
  have hn8 := hV.n8
  have out : ∀ v : Int32, bX6_ways_125 93 (nI k) v M = some (Sum.inr (nI (wkN T (mkS T) 0 k 0), wI M 93 2 v)) := fun v => by
    have hz := hw k 0 (Nat.le_refl _) (by omega)
    unfold bX6_ways_125
    rw [r93_117 h, L8, nI_mul, ld117 (show 8 * k < 72 by omega), tells_ok, cal_ok]
    rw [Nat.add_zero] at hz
    rw [hz]
  cases k with
  | zero =>
    refine fnl_out ?_
    show bX6_ways_38 93 (nI 0) (-9) (nI (tn T) - 1) M = _
    unfold bX6_ways_38
    rw [show nI (tn T) - 1 = nI (tn T - 1) from nsub (b := 1) (by omega), if_neg (show ¬ nI (tn T - 1) < 0 by rw [nlt0_F (by omega)]; exact id), if_pos (show nI 0 ≤ 0 by decide)]
    exact out (-9)
  | succ k =>
    obtain ⟨p, hp⟩ : ∃ p : Nat → Bool, p = fun y => !((te T 0 &&& mkS T).testBit y && decide (wkN T (mkS T) 0 k y ≠ 0)) := ⟨_, rfl⟩
    have e1 : fnl gX6_ways (1, 93, nI (k + 1), -9, nI (tn T) - 1, M) = fnl gX6_ways (1, 93, nI (k + 1), frst p (tn T) (tn T - tn T), nI (tn T - tn T) - 1, M) := by
      refine fnl_up (g := gX6_ways) (fun j => (1, 93, nI (k + 1), frst p j (tn T - j), nI (tn T - j) - 1, M)) (tn T) (fun j hj => ?_)
      obtain ⟨y, hy⟩ : ∃ y, y = tn T - 1 - j := ⟨_, rfl⟩
      have hyn : y < tn T := by omega
      have m0 := hV.mk (m := 0) (by decide) hyn
      have m1 := hV.mk (m := 1) (by decide) hyn
      have m2 := hV.mk (m := 2) (by decide) hyn
      have ef : frst p (j + 1) (tn T - (j + 1)) = if p y then frst p j (tn T - j) else nI y := by
        show (if p (tn T - (j + 1)) then frst p j (tn T - (j + 1) + 1) else nI (tn T - (j + 1))) = _
        rw [show tn T - (j + 1) = y by omega, show y + 1 = tn T - j by omega]
      have hk1 : nI (k + 1) - 1 = nI k := nsub (b := 1) (Nat.add_comm _ _)
      have hz := hw k y (by omega) hyn
      have hl := wk_lt (A := mkS T) (out := 0) hn8 (show k ≤ 8 by omega) y
      show bX6_ways_38 93 (nI (k + 1)) (frst p j (tn T - j)) (nI (tn T - j) - 1) M = some (Sum.inl (1, 93, nI (k + 1), frst p (j + 1) (tn T - (j + 1)), nI (tn T - (j + 1)) - 1, M))
      rw [ef, dn_pred hj hn8, ← dn_step hj hn8, ← hy]
      have eb : (te T 0 &&& mkS T).testBit y = ((te T 0).testBit y && decide (tm T 0 y + tm T 1 y + tm T 2 y ≠ 0)) := by
        rw [Nat.testBit_and]
        unfold mkS
        rw [setN_bit]
        simp [hyn]
      have ep : p y = !(((te T 0).testBit y && decide (tm T 0 y + tm T 1 y + tm T 2 y ≠ 0)) && decide (wkN T (mkS T) 0 k y ≠ 0)) := by rw [hp, ← eb]
      rw [ep]
      generalize frst p j (tn T - j) = fv
      have fin2 : ∀ s0 : Int32, bX6_ways_77 93 (nI (k + 1)) fv (nI y) s0 M = some (Sum.inl (1, 93, nI (k + 1), if (te T 0).testBit y = true ∧ ¬ s0 = 0 ∧ wkN T (mkS T) 0 k y ≠ 0 then nI y else fv, nI y + (-1), M)) := by
        intro s0
        unfold bX6_ways_77 bX6_ways_117 bX6_ways_118
        rw [r93_101 h, show ldI M 101 0 _ = ldI M 101 (nI 0) _ from rfl, ld101 (by omega), hW.2.2.2.2.1 0 (by omega), has_ok (hV.e8 (by omega)) (by omega), cal_ok]
        by_cases q1 : (te T 0).testBit y = true
        · rw [q1, if_neg (show ¬ (if true = true then (1 : Int32) else 0) = 0 by decide)]
          by_cases q2 : s0 = 0
          · rw [if_pos q2, if_neg (fun z => z.2.1 q2)]
          · rw [if_neg q2, r93_117 h, hk1, L8, nI_mul, nI_pl, ld117 (show 8 * k + y < 72 by omega), hz, le0_if hl]
            by_cases q3 : wkN T (mkS T) 0 k y = 0
            · rw [if_pos q3, if_neg (fun z => z.2.2 q3)]
            · rw [if_neg q3, if_pos ⟨rfl, q2, q3⟩]
        · rw [if_neg q1, if_pos rfl, if_neg (fun z => q1 z.1)]
      unfold bX6_ways_38
      rw [if_neg (show ¬ nI y < 0 by rw [nlt0_F (by omega)]; exact id), if_neg (show ¬ nI (k + 1) ≤ 0 by rw [nle0_F (by omega) (by omega)]; exact id), marks0_ok h (v := 0) 0 rfl (by decide) (by omega), cal_ok, marks0_ok h (v := 1) 1 rfl (by decide) (by omega), cal_ok, marks0_ok h (v := 2) 2 rfl (by decide) (by omega), cal_ok, hW.2.2.2.2.2.1 0 y (by decide) hyn, hW.2.2.2.2.2.1 1 y (by decide) hyn, hW.2.2.2.2.2.1 2 y (by decide) hyn, nI_pl, nI_pl, le0_if (by omega), fin2, fin2]
      by_cases q2 : tm T 0 y + tm T 1 y + tm T 2 y = 0
      · rw [if_pos q2, if_neg (fun z => z.2.1 rfl), if_pos (by rw [show decide (tm T 0 y + tm T 1 y + tm T 2 y ≠ 0) = false from decide_eq_false (fun z => z q2)]; simp)]
      · rw [if_neg q2, show decide (tm T 0 y + tm T 1 y + tm T 2 y ≠ 0) = true from decide_eq_true q2, Bool.and_true]
        by_cases q1 : (te T 0).testBit y = true
        · by_cases q3 : wkN T (mkS T) 0 k y = 0
          · rw [if_neg (fun z => z.2.2 q3), if_pos (by simp [q3])]
          · rw [if_pos ⟨q1, by decide, q3⟩, if_neg (by simp [q1, q3])]
        · rw [if_neg (fun z => q1 z.1), if_pos (by simp [q1])]
    refine e1.trans (fnl_out ?_)
    show bX6_ways_38 93 (nI (k + 1)) (frst p (tn T) (tn T - tn T)) (nI (tn T - tn T) - 1) M = _
    unfold bX6_ways_38
    rw [Nat.sub_self, if_pos (show nI 0 - 1 < 0 by decide), out]
    have : fsI T (mkS T) (k + 1) = frst p (tn T) 0 := by
      show opI T (mkS T) k = _
      unfold opI
      rw [← hp]
      have := frst_more (p := p) (tn T) (8 - tn T) 0 (fun i hi => by
        rw [hp]
        have : (te T 0 &&& mkS T).testBit i = false := Nat.testBit_lt_two_pow (Nat.lt_of_lt_of_le (Nat.lt_of_le_of_lt Nat.and_le_left (hV.en (x := 0) (by omega))) (Nat.pow_le_pow_right (by decide) (by omega)))
        simp [this])
      rw [show tn T + (8 - tn T) = 8 by omega] at this
      exact this
    rw [this]
end
theorem op_ways (M : Mm) (h : Rel M) (n : Int32) : Good Rel (fX5_ways 0 n M) (fX6_ways 93 n) := by
  obtain ⟨hRO, hF, hR, hX, T, hV, hC, hW, hK⟩ := id h
  have hn8 := hV.n8
  by_cases hr : 0 ≤ n ∧ n ≤ 8
  · obtain ⟨k, hk, rfl⟩ := i32_le_nat (n := 8) (by decide) hr.1 hr.2
    by_cases h0 : tn T = 0
    · refine ⟨-4, M, M, ?_, ?_, h⟩
      · unfold fX5_ways
        rw [isUpTo_ok, cal_ok, if_pos hr, if_neg (by decide), g33 hRO, emp1 hC hV h0, cal_ok, if_neg (by decide)]
      · show fX6_ways 93 (nI k) M = _
        unfold fX6_ways bX6_ways_0
        rw [in_ok, cal_ok, if_pos hr, if_neg (by decide), gfI_e, hW.1, h0, if_pos nI_0, fen_r]
    · have hne : ¬ nI (tn T) = 0 := nI_ne0 (by omega) (by omega)
      obtain ⟨M1, e1, f1, O1⟩ := num_ok hRO w33 hC hV h0 (A := mkS T) (pow_lt8 hn8 (mk_lt T)) hk
      have r1 := O1.ro hRO
      obtain ⟨M2, hM2⟩ : ∃ M2, M2 = wI M1 0 10 (fsI T (mkS T) k) := ⟨_, rfl⟩
      have r2 : RO M2 := by rw [hM2]; exact r1
      have o2 : ∀ c j, ¬ P10 c j → ¬ (c = 0 ∧ j = 10) → M2.1 c j = M.1 c j := fun c j q1 q2 => by rw [hM2, wI_at, if_neg q2]; exact O1.1 c j q1
      have hW2 : RWd T M2 := hW.same2 hV (fun c j q => o2 c j (fun z => by unfold P10 at z; omega) (by omega))
      obtain ⟨M3, e3, x3, O3⟩ := lays_ok r2 hW2 hV h0 hk (out := 0) (by decide)
      have e3 : fX6_layWays 93 (nI k) 0 M2 = some ((), M3) := e3
      have r3 := O3.ro r2
      have hW3 : RWd T M3 := hW2.same2 hV (fun c j q => O3.1 c j (by omega))
      refine ⟨nI (wkN T (mkS T) 0 k 0), M2, wI M3 93 2 (fsI T (mkS T) k), ?_, ?_, ?_⟩
      · unfold fX5_ways
        rw [isUpTo_ok, cal_ok, if_pos hr, if_neg (by decide), g33 hRO, emp0 hC hV h0, cal_ok, if_pos rfl, g9s hRO, g33 hRO, g33 hRO, marked_ok hRO w33 hC hV, cal_ok, e1, cal_ok, g9s r1, gfI_e, f1, pfI_e, ← hM2]
      · show fX6_ways 93 (nI k) M2 = _
        unfold fX6_ways bX6_ways_0
        rw [in_ok, cal_ok, if_pos hr, if_neg (by decide), gfI_e, hW2.1, if_neg hne, e3, cal_ok, gfI_e, hW3.1, ltI_e, fen_l]
        exact ways6_ok r3 hW3 hV h0 hk x3
      · have L3 : M3.2.1 = M.2.1 := by rw [O3.2, hM2]; show M1.2.1 = _; rw [O1.2]
        refine h.sct (r3 : RO _) (fun c j hi q1 q2 => ?_) ?_ ?_ ?_
        · unfold imp at hi
          rw [wI_at, if_neg q2, O3.1 c j (by omega), o2 c j (fun z => by unfold P10 at z; omega) q1]
        · rw [wI_at, if_neg (by omega), wI_at, if_pos ⟨rfl, rfl⟩, O3.1 0 10 (by omega), hM2, wI_at, if_pos ⟨rfl, rfl⟩]
        · show M3.2.1 0 11 = M3.2.1 93 3
          rw [L3]; exact hF.2.2.2.1
        · show M3.2.1 0 12 = M3.2.1 93 4
          rw [L3]; exact hF.2.2.2.2
  · refine ⟨-1, M, M, ?_, ?_, h⟩
    · unfold fX5_ways
      rw [isUpTo_ok, cal_ok, if_neg hr, if_pos rfl]
    · show fX6_ways 93 n M = _
      unfold fX6_ways bX6_ways_0
      rw [in_ok, cal_ok, if_neg hr, if_pos rfl, fen_r]
theorem and_bit : ∀ S, S < 256 → ∀ x, x < 8 → decide (nI S &&& nI (2 ^ x) = 0) = !S.testBit x := by decide +kernel
def enS (T : WT) : Nat := 1 ||| 2 ^ hereN T
def cmB (T : WT) (n x : Nat) : Bool := !(enS T).testBit x && decide (wkN T (difN (mkS T) (2 ^ x)) 0 n 0 = 0)
def suB (T : WT) (n x : Nat) : Bool := decide (wkN T (mkS T) (2 ^ x) n 0 = 0)
section
variable {M : Mm} {T : WT}
theorem cm_su (hV : VT T) (h0 : tn T ≠ 0) (n : Nat) : enS T ||| setN (cmB T n) (tn T) = setN (suB T n) (tn T) := by
  have hn8 := hV.n8
  have hh := here_lt hV h0
  refine set_ext (n := tn T) (Nat.or_lt_two_pow (Nat.or_lt_two_pow (pow_lt (x := 0) (by omega)) (pow_lt hh)) (setN_lt _ _)) (setN_lt _ _) (fun y hy => ?_)
  have b1 : (enS T).testBit y = decide (y = 0 ∨ y = hereN T) := by
    unfold enS
    rw [show (1 : Nat) ||| 2 ^ hereN T = 2 ^ 0 ||| 2 ^ hereN T from rfl, Nat.testBit_or, Nat.testBit_two_pow, Nat.testBit_two_pow]
    by_cases q : y = 0
    · subst q; simp
    · by_cases r : y = hereN T
      · rw [r]; simp
      · simp [q, r, show ¬ 0 = y from fun z => q z.symm, show ¬ hereN T = y from fun z => r z.symm]
  rw [Nat.testBit_or, setN_bit, setN_bit, b1]
  unfold cmB suB
  rw [b1]
  by_cases q : y = 0
  · subst q
    rw [wk_in]
    simp [hy]
  · by_cases r : y = hereN T
    · rw [r, wk_none]
      simp [hh]
    · rw [wk_out hn8 n 0 (fun z => q z.symm)]
      simp [q, r, hy]
theorem common_ok (h : RO M) (hC : CWd 33 T M) (hV : VT T) (h0 : tn T ≠ 0) {n : Nat} (hn : n ≤ 8) : ∃ M1, fX3_commonPlaces 9 33 (nI n) (nI (mkS T)) M = some (if wkN T (mkS T) 0 n 0 = 0 then 0 else nI (enS T ||| setN (cmB T n) (tn T)), M1) ∧ Off P10 M M1 := by
  have hn8 := hV.n8
  have hh := here_lt hV h0
  have hA := pow_lt8 hn8 (mk_lt T)
  obtain ⟨M1, e1, -, O1⟩ := num_ok h w33 hC hV h0 hA hn
  have r1 := O1.ro h
  have hC1 : CWd 33 T M1 := hC.pt (fun c j q1 q2 => O1.1 c j (fun z => by unfold P10 at z; omega))
  have hl := wk_lt (A := mkS T) (out := 0) hn8 hn 0
  unfold fX3_commonPlaces bX3_commonPlaces_0
  rw [e1, cal_ok]
  by_cases q : wkN T (mkS T) 0 n 0 = 0
  · rw [if_pos q, q, if_pos nI_0, fen_r]
    exact ⟨M1, rfl, O1⟩
  · rw [if_neg q, if_neg (nI_ne0 (by omega) hl), standing_ok r1 w33 hC1 hV.s30, cal_ok, show tz T (ts T) = hereN T from rfl, shl1 _ (by omega), show (1 : Int32) ||| nI (2 ^ hereN T) = nI (enS T) from nI_or 1 _, ltI_e, fen_l]
    have hE : enS T < 256 := Nat.or_lt_two_pow (n := 8) (by decide) (pow_lt (by omega))
    obtain ⟨s, e2, M2, rfl, O2⟩ := fnl_go (g := gX3_commonPlaces) (fun k s => ∃ M2, s = (1, 9, 33, nI n, nI (mkS T), nI (enS T), nI (enS T ||| setN (cmB T n) k), nI k, M2) ∧ Off P10 M M2) (tn T) (fun k s hk hI => by
      obtain ⟨M2, rfl, O2⟩ := hI
      have r2 := O2.ro h
      have hC2 : CWd 33 T M2 := hC.pt (fun c j q1 q2 => O2.1 c j (fun z => by unfold P10 at z; omega))
      obtain ⟨M3, e3, -, O3⟩ := num_ok r2 w33 hC2 hV h0 (A := difN (mkS T) (2 ^ k)) (Nat.lt_of_le_of_lt Nat.and_le_left hA) hn
      have hl3 := wk_lt (A := difN (mkS T) (2 ^ k)) (out := 0) hn8 hn 0
      have ab := and_bit _ hE k (by omega)
      by_cases z : (enS T).testBit k = true
      · rw [z] at ab
        refine ⟨(1, 9, 33, nI n, nI (mkS T), nI (enS T), nI (enS T ||| setN (cmB T n) (k + 1)), nI (k + 1), M2), ?_, M2, rfl, O2⟩
        show bX3_commonPlaces_29 9 33 (nI n) (nI (mkS T)) (nI (enS T)) (nI (enS T ||| setN (cmB T n) k)) (nI k) M2 = _
        unfold bX3_commonPlaces_29 bX3_commonPlaces_74
        rw [gfI_e, hC2.n, if_neg (show ¬ nI (tn T) ≤ nI k by rw [nle_F (by omega) (by omega)]; exact id), ltI_e, shl1 k (by omega), if_neg (by simpa using ab), np1, setN_or, if_neg (by unfold cmB; rw [z]; simp), Nat.or_zero]
      · rw [show (enS T).testBit k = false by simpa using z] at ab
        refine ⟨(1, 9, 33, nI n, nI (mkS T), nI (enS T), nI (enS T ||| setN (cmB T n) (k + 1)), nI (k + 1), M3), ?_, M3, rfl, O2.tr O3⟩
        show bX3_commonPlaces_29 9 33 (nI n) (nI (mkS T)) (nI (enS T)) (nI (enS T ||| setN (cmB T n) k)) (nI k) M2 = _
        unfold bX3_commonPlaces_29 bX3_commonPlaces_74
        rw [gfI_e, hC2.n, if_neg (show ¬ nI (tn T) ≤ nI k by rw [nle_F (by omega) (by omega)]; exact id), ltI_e, shl1 k (by omega), if_pos (by simpa using ab), nI_dif hA, e3, cal_ok, ltI_e, nI_or, np1, setN_or]
        by_cases w : wkN T (difN (mkS T) (2 ^ k)) 0 n 0 = 0
        · rw [w, if_pos nI_0, if_pos (by unfold cmB; rw [w]; simp [z]), Nat.or_assoc]
        · rw [if_neg (nI_ne0 (by omega) hl3), if_neg (by unfold cmB; simp [w]), Nat.or_zero]) (s := (1, 9, 33, nI n, nI (mkS T), nI (enS T), nI (enS T), 0, M1)) ⟨M1, by show _ = (1, 9, 33, nI n, nI (mkS T), nI (enS T), nI (enS T ||| 0), nI 0, M1); rw [Nat.or_zero]; rfl, O1⟩
    have hC2 : CWd 33 T M2 := hC.pt (fun c j q1 q2 => O2.1 c j (fun z => by unfold P10 at z; omega))
    refine ⟨M2, e2.trans (fnl_out ?_), O2⟩
    show bX3_commonPlaces_29 9 33 (nI n) (nI (mkS T)) (nI (enS T)) _ (nI (tn T)) M2 = _
    unfold bX3_commonPlaces_29
    rw [gfI_e, hC2.n, if_pos (nI_le (Nat.le_refl _) (by omega))]
end
theorem op_sure (M : Mm) (h : Rel M) (n : Int32) : Good Rel (fX5_sure 0 n M) (fX6_sure 93 n) := by
  obtain ⟨hRO, hF, hR, hX, T, hV, hC, hW, hK⟩ := id h
  have hn8 := hV.n8
  by_cases hr : 0 ≤ n ∧ n ≤ 8
  · obtain ⟨k, hk, rfl⟩ := i32_le_nat (n := 8) (by decide) hr.1 hr.2
    by_cases h0 : tn T = 0
    · refine ⟨-4, M, M, ?_, ?_, h⟩
      · unfold fX5_sure
        rw [isUpTo_ok, cal_ok, if_pos hr, if_neg (by decide), g33 hRO, emp1 hC hV h0, cal_ok, if_neg (by decide)]
      · show fX6_sure 93 (nI k) M = _
        unfold fX6_sure bX6_sure_0
        rw [in_ok, cal_ok, if_pos hr, if_neg (by decide), gfI_e, hW.1, h0, if_pos nI_0, fen_r]
    · have hne : ¬ nI (tn T) = 0 := nI_ne0 (by omega) (by omega)
      have hl := wk_lt (A := mkS T) (out := 0) hn8 hk 0
      obtain ⟨M1, e1, O1⟩ := common_ok hRO hC hV h0 hk
      rw [cm_su hV h0] at e1
      have r1 := O1.ro hRO
      have hW1 : RWd T M1 := hW.same2 hV (fun c j q => O1.1 c j (fun z => by unfold P10 at z; omega))
      obtain ⟨M2, e2, x2, O2⟩ := lays_ok r1 hW1 hV h0 hk (out := 0) (by decide)
      have e2 : fX6_layWays 93 (nI k) 0 M1 = some ((), M2) := e2
      have r2 := O2.ro r1
      have z2 := x2 k 0 (Nat.le_refl _) (by omega)
      rw [Nat.add_zero] at z2
      have key : ∃ M3, fX6_sure 93 (nI k) M1 = some (if wkN T (mkS T) 0 k 0 = 0 then 0 else nI (setN (suB T k) (tn T)), M3) ∧ Off (fun c _ => c = 117) M1 M3 := by
        unfold fX6_sure bX6_sure_0
        rw [in_ok, cal_ok, if_pos hr, if_neg (by decide), gfI_e, hW1.1, if_neg hne, e2, cal_ok, r93_117 r2, L8, nI_mul, ld117 (show 8 * k < 72 by omega), z2]
        by_cases q : wkN T (mkS T) 0 k 0 = 0
        · rw [if_pos q, q, if_pos nI_0, fen_r]
          exact ⟨M2, rfl, O2⟩
        · rw [if_neg q, if_neg (nI_ne0 (by omega) hl), fen_l]
          obtain ⟨s, e3, M3, rfl, O3⟩ := fnl_go (g := gX6_sure) (fun j s => ∃ M3, s = (1, 93, nI k, nI (setN (suB T k) j), nI j, M3) ∧ Off (fun c _ => c = 117) M1 M3) (tn T) (fun j s hj hI => by
            obtain ⟨M3, rfl, O3⟩ := hI
            have r3 := O3.ro r1
            have hW3 : RWd T M3 := hW1.same2 hV (fun c j q => O3.1 c j (by omega))
            obtain ⟨M4, e4, x4, O4⟩ := lays_ok r3 hW3 hV h0 hk (out := 2 ^ j) (pow_lt (n := 8) (by omega))
            have r4 := O4.ro r3
            have z4 := x4 k 0 (Nat.le_refl _) (by omega)
            rw [Nat.add_zero] at z4
            have hl4 := wk_lt (A := mkS T) (out := 2 ^ j) hn8 hk 0
            refine ⟨(1, 93, nI k, nI (setN (suB T k) (j + 1)), nI (j + 1), M4), ?_, M4, rfl, O3.tr O4⟩
            show bX6_sure_46 93 (nI k) (nI (setN (suB T k) j)) (nI j) M3 = _
            unfold bX6_sure_46 bX6_sure_82
            rw [gfI_e, hW3.1, if_neg (show ¬ nI (tn T) ≤ nI j by rw [nle_F (by omega) (by omega)]; exact id), shl1 j (by omega), e4, cal_ok, r93_117 r4, L8, nI_mul, ld117 (show 8 * k < 72 by omega), z4, ltI_e, ltI_e, nI_or, np1, setN_or]
            by_cases w : wkN T (mkS T) (2 ^ j) k 0 = 0
            · rw [w, if_pos nI_0, if_pos (by unfold suB; rw [w]; rfl)]
            · rw [if_neg (nI_ne0 (by omega) hl4), if_neg (by unfold suB; simp [w]), Nat.or_zero, show nI (setN (suB T k) j) ||| 0 = nI (setN (suB T k) j) from Int32.or_zero]) (s := (1, 93, nI k, 0, 0, M2)) ⟨M2, rfl, O2⟩
          have hW3 : RWd T M3 := hW1.same2 hV (fun c j q => O3.1 c j (by omega))
          refine ⟨M3, e3.trans (fnl_out ?_), O3⟩
          show bX6_sure_46 93 (nI k) (nI (setN (suB T k) (tn T))) (nI (tn T)) M3 = _
          unfold bX6_sure_46
          rw [gfI_e, hW3.1, if_pos (nI_le (Nat.le_refl _) (by omega))]
      obtain ⟨M3, e3, O3⟩ := key
      refine ⟨if wkN T (mkS T) 0 k 0 = 0 then 0 else nI (setN (suB T k) (tn T)), M1, M3, ?_, e3, ?_⟩
      · unfold fX5_sure
        rw [isUpTo_ok, cal_ok, if_pos hr, if_neg (by decide), g33 hRO, emp0 hC hV h0, cal_ok, if_pos rfl, g9s hRO, g33 hRO, g33 hRO, marked_ok hRO w33 hC hV, cal_ok, e1, cal_ok]
      · refine h.sc (O3.ro r1) (fun c j hi => ?_) (by rw [O3.2, O1.2])
        unfold imp at hi
        rw [O3.1 c j (by omega), O1.1 c j (fun z => by unfold P10 at z; omega)]
  · refine ⟨-1, M, M, ?_, ?_, h⟩
    · unfold fX5_sure
      rw [isUpTo_ok, cal_ok, if_neg hr, if_pos rfl]
    · show fX6_sure 93 n M = _
      unfold fX6_sure bX6_sure_0
      rw [in_ok, cal_ok, if_neg hr, if_pos rfl, fen_r]

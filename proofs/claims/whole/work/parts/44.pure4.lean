/-! AT, LAY, TEAR, TEXT, PUT -/
theorem i32_in_pred {i : Int32} {n : Nat} (hn : n < 2 ^ 31 - 1) : (0 ≤ i ∧ i ≤ nI n - 1) ↔ (0 ≤ i ∧ i < nI n) := by
  have e1 : (1 : Int32).toInt = 1 := by decide
  have en : (nI n).toInt = (n : Int) := nI_toInt (by omega)
  rw [Int32.le_iff_toInt_le, Int32.le_iff_toInt_le, Int32.lt_iff_toInt_lt, i32_sub (by rw [en, e1]; omega) (by rw [en, e1]; omega), en, e1]
  omega
theorem rowAt_ok {M : Mm} (h : RO M) {k i : Nat} (hk : k < 6) (hi : i < 40) : fX6_rowAt 93 (nI k) (nI i) M = some (M.1 96 (40 * k + i), M) := by
  unfold fX6_rowAt
  rw [gR h 0 93 6 96 (by decide), show (40 : Int32) = nI 40 from rfl, nI_mul, nI_pl, ldI_ok (show 40 * k + i < ln 96 from by show 40 * k + i < 240; omega) (by decide)]
theorem op_at (M : Mm) (h : Rel M) (r i : Int32) : Good Rel (fX5_at 0 r i M) (fX6_at 93 r i) := by
  have hRO := h.1
  by_cases hr : 0 ≤ r ∧ r < 6
  · have hr2 : 0 ≤ r ∧ r ≤ 5 := (below_in (n := 5) (by decide)).mp hr
    obtain ⟨k, hk, rfl⟩ := i32_lt_nat (n := 6) (by decide) hr.1 hr.2
    obtain ⟨s1, s2, s3⟩ := strip_sh k (by omega)
    have hl := strip_ln.1 k hk
    rcases h.2.2.1 k hk with ⟨z1, z2⟩ | ⟨n, hn, z1, z2, z3⟩
    · refine ⟨-3, refuseM M 1, meetsM (refuseM M 1) 1, ?_, ?_, rel_refuse h 1⟩
      · unfold fX5_at
        rw [isBelow_ok, cal_ok, if_pos hr, if_neg (by decide), gR hRO 3 0 0 1 (by decide), ldR_ok hRO (13 + 2 * k) (show k < ln 1 from hk) (by decide) rfl s1 (by omega) (by omega), lackOf_no z1, cal_ok, if_neg (by decide), refuse_ok hRO (v := 1) (f := 1) rfl (by decide), cal_ok]
      · show fX6_at 93 (nI k) i (refuseM M 1) = _
        have z3 : (refuseM M 1).1 95 k = -1 := z2
        unfold fX6_at
        rw [isRow_ok, cal_ok, if_pos hr2, if_neg (by decide), gR (M := refuseM M 1) hRO 0 93 5 95 (by decide), ldI_ok (show k < ln 95 from hk) (by decide), z3, if_neg (by decide), meets_ok (M := refuseM M 1) hRO (v := 1) (f := 1) rfl (by decide), cal_ok]
    · by_cases hi : 0 ≤ i ∧ i < nI n
      · have hi2 := (i32_in_pred (by omega)).mpr hi
        obtain ⟨j, hj, rfl⟩ := i32_lt_nat (by omega) hi.1 hi.2
        refine ⟨1, wI M 0 10 (M.1 (13 + 2 * k + 1) j), wI (wI M 0 10 (M.1 (13 + 2 * k + 1) j)) 93 2 (M.1 96 (40 * k + j)), ?_, ?_, ?_⟩
        · unfold fX5_at
          rw [isBelow_ok, cal_ok, if_pos hr, if_neg (by decide), gR hRO 3 0 0 1 (by decide), ldR_ok hRO (13 + 2 * k) (show k < ln 1 from hk) (by decide) rfl s1 (by omega) (by omega), lackOf_ok z1 (by omega), cal_ok, if_pos hi, if_pos rfl, gR hRO 3 0 0 1 (by decide), ldR_ok hRO (13 + 2 * k) (show k < ln 1 from hk) (by decide) rfl s1 (by omega) (by omega), gR hRO 0 (13 + 2 * k) 0 (13 + 2 * k + 1) ⟨s3, s2, by omega, by omega⟩, ldI_ok (by omega) (by rw [hl]; decide)]
          rfl
        · show fX6_at 93 (nI k) (nI j) (wI M 0 10 (M.1 (13 + 2 * k + 1) j)) = _
          generalize hM1 : wI M 0 10 (M.1 (13 + 2 * k + 1) j) = M1
          have hRO1 : RO M1 := by rw [← hM1]; exact hRO
          have e95 : M1.1 95 k = nI n := by rw [← hM1]; exact z2
          have e96 : M1.1 96 (40 * k + j) = M.1 96 (40 * k + j) := by rw [← hM1]; rfl
          unfold fX6_at
          rw [isRow_ok, cal_ok, if_pos hr2, if_neg (by decide), gR hRO1 0 93 5 95 (by decide), ldI_ok (show k < ln 95 from hk) (by decide), e95, if_pos (nI_pos' (by omega)), gR hRO1 0 93 5 95 (by decide), ldI_ok (show k < ln 95 from hk) (by decide), e95, in_ok, cal_ok, if_pos hi2, if_neg (by decide), rowAt_ok hRO1 hk (by omega), cal_ok, e96]
          rfl
        · refine h.told (fun c q h0 h12 h94 h93 => ?_) rfl ⟨?_, ?_, ?_, h.2.1.2.2.2.1, h.2.1.2.2.2.2⟩
          · rw [wI_at, if_neg (by omega), wI_at, if_neg (by omega)]
          · exact h.2.1.1
          · exact h.2.1.2.1
          · exact z3 j hj
      · have hi2 : ¬ (0 ≤ i ∧ i ≤ nI n - 1) := fun q => hi ((i32_in_pred (by omega)).mp q)
        refine ⟨-3, refuseM M 2, meetsM (refuseM M 2) 2, ?_, ?_, rel_refuse h 2⟩
        · unfold fX5_at
          rw [isBelow_ok, cal_ok, if_pos hr, if_neg (by decide), gR hRO 3 0 0 1 (by decide), ldR_ok hRO (13 + 2 * k) (show k < ln 1 from hk) (by decide) rfl s1 (by omega) (by omega), lackOf_ok z1 (by omega), cal_ok, if_neg hi, if_neg (by decide), refuse_ok hRO (v := 2) (f := 2) rfl (by decide), cal_ok]
        · show fX6_at 93 (nI k) i (refuseM M 2) = _
          have e95 : (refuseM M 2).1 95 k = nI n := z2
          unfold fX6_at
          rw [isRow_ok, cal_ok, if_pos hr2, if_neg (by decide), gR (M := refuseM M 2) hRO 0 93 5 95 (by decide), ldI_ok (show k < ln 95 from hk) (by decide), e95, if_pos (nI_pos' (by omega)), gR (M := refuseM M 2) hRO 0 93 5 95 (by decide), ldI_ok (show k < ln 95 from hk) (by decide), e95, in_ok, cal_ok, if_neg hi2, if_pos rfl, meets_ok (M := refuseM M 2) hRO (v := 2) (f := 2) rfl (by decide), cal_ok]
  · have hr2 : ¬ (0 ≤ r ∧ r ≤ 5) := fun q => hr ((below_in (n := 5) (by decide)).mpr q)
    refine ⟨-1, M, M, ?_, ?_, h⟩
    · unfold fX5_at
      rw [isBelow_ok, cal_ok, if_neg hr, if_pos rfl]
    · show fX6_at 93 r i M = _
      unfold fX6_at
      rw [isRow_ok, cal_ok, if_neg hr2, if_pos rfl]

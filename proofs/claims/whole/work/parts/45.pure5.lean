theorem op_tear (M : Mm) (h : Rel M) (r : Int32) : Good Rel (fX5_tear 0 r M) (fX6_tear 93 r) := by
  have hRO := h.1
  by_cases hr : 0 ≤ r ∧ r < 6
  · have hr2 : 0 ≤ r ∧ r ≤ 5 := (below_in (n := 5) (by decide)).mp hr
    obtain ⟨k, hk, rfl⟩ := i32_lt_nat (n := 6) (by decide) hr.1 hr.2
    obtain ⟨s1, s2, s3⟩ := strip_sh k (by omega)
    rcases h.2.2.1 k hk with ⟨z1, z2⟩ | ⟨n, hn, z1, z2, z3⟩
    · refine ⟨-3, refuseM M 1, meetsM (refuseM M 1) 1, ?_, ?_, rel_refuse h 1⟩
      · unfold fX5_tear
        rw [isBelow_ok, cal_ok, if_pos hr, if_neg (by decide), gR hRO 3 0 0 1 (by decide), ldR_ok hRO (13 + 2 * k) (show k < ln 1 from hk) (by decide) rfl s1 (by omega) (by omega), isMissing_ok, cal_ok, z1, if_neg (show ¬ (0 : Int32) ≤ -1 by decide), if_neg (by decide), refuse_ok hRO (v := 1) (f := 1) rfl (by decide), cal_ok]
      · show fX6_tear 93 (nI k) (refuseM M 1) = _
        have z3 : (refuseM M 1).1 95 k = -1 := z2
        unfold fX6_tear
        rw [isRow_ok, cal_ok, if_pos hr2, if_neg (by decide), gR (M := refuseM M 1) hRO 0 93 5 95 (by decide), ldI_ok (show k < ln 95 from hk) (by decide), z3, if_neg (by decide), meets_ok (M := refuseM M 1) hRO (v := 1) (f := 1) rfl (by decide), cal_ok]
    · refine ⟨1, wI M (13 + 2 * k) 1 (-1), wI (wI M (13 + 2 * k) 1 (-1)) 95 k (-1), ?_, ?_, ?_⟩
      · unfold fX5_tear
        rw [isBelow_ok, cal_ok, if_pos hr, if_neg (by decide), gR hRO 3 0 0 1 (by decide), ldR_ok hRO (13 + 2 * k) (show k < ln 1 from hk) (by decide) rfl s1 (by omega) (by omega), isMissing_ok, cal_ok, z1, if_pos (nI_pos' (by omega)), if_pos rfl, gR hRO 3 0 0 1 (by decide), ldR_ok hRO (13 + 2 * k) (show k < ln 1 from hk) (by decide) rfl s1 (by omega) (by omega)]
        rfl
      · show fX6_tear 93 (nI k) (wI M (13 + 2 * k) 1 (-1)) = _
        have e95 : (wI M (13 + 2 * k) 1 (-1)).1 95 k = nI n := by rw [wI_at, if_neg (by omega)]; exact z2
        unfold fX6_tear
        rw [isRow_ok, cal_ok, if_pos hr2, if_neg (by decide), gR (hRO.wI _ _ _) 0 93 5 95 (by decide), ldI_ok (show k < ln 95 from hk) (by decide), e95, if_pos (nI_pos' (by omega)), gR (hRO.wI _ _ _) 0 93 5 95 (by decide), stI_ok (show k < ln 95 from hk) (by decide)]
      · refine h.rows (fun c j => ⟨fun hc _ => ?_, fun hc h95 h96 h97 h98 h99 h93 => ?_⟩) ?_ rfl (fun r hr => ?_) (fun t ht => ?_)
        · rw [wI_at, if_neg (by omega), wI_at, if_neg (by omega)]
        · rw [wI_at, if_neg (by omega), wI_at, if_neg (by omega)]
        · rw [wI_at, if_neg (by omega), wI_at, if_neg (by omega), wI_at, if_neg (by omega), wI_at, if_neg (by omega)]
          exact h.2.1.2.2.1
        · by_cases hrk : r = k
          · subst hrk
            refine Or.inl ⟨?_, ?_⟩
            · rw [wI_at, if_neg (by omega), wI_at, if_pos ⟨rfl, rfl⟩]
            · rw [wI_at, if_pos ⟨rfl, rfl⟩]
          · refine (h.2.2.1 r hr).same ?_ ?_ ?_ (fun i hi => ?_)
            · rw [wI_at, if_neg (by omega), wI_at, if_neg (by omega)]
            · rw [wI_at, if_neg (by omega), wI_at, if_neg (by omega)]
            · funext i
              rw [wI_at, if_neg (by omega), wI_at, if_neg (by omega)]
            · rw [wI_at, if_neg (by omega), wI_at, if_neg (by omega)]
        · refine (h.2.2.2.1 t ht).same ?_ ?_ ?_ (fun i hi => ?_)
          · rw [wI_at, if_neg (by omega), wI_at, if_neg (by omega)]
          · rw [wI_at, if_neg (by omega), wI_at, if_neg (by omega)]
          · funext i
            rw [wI_at, if_neg (by omega), wI_at, if_neg (by omega)]
          · rw [wI_at, if_neg (by omega), wI_at, if_neg (by omega)]
  · have hr2 : ¬ (0 ≤ r ∧ r ≤ 5) := fun q => hr ((below_in (n := 5) (by decide)).mpr q)
    refine ⟨-1, M, M, ?_, ?_, h⟩
    · unfold fX5_tear
      rw [isBelow_ok, cal_ok, if_neg hr, if_pos rfl]
    · show fX6_tear 93 r M = _
      unfold fX6_tear
      rw [isRow_ok, cal_ok, if_neg hr2, if_pos rfl]
theorem op_lay (M : Mm) (h : Rel M) (r i v : Int32) : Good Rel (fX5_lay 0 r i v M) (fX6_lay 93 r i v) := by
  have hRO := h.1
  by_cases hr : 0 ≤ r ∧ r < 6
  · have hr2 : 0 ≤ r ∧ r ≤ 5 := (below_in (n := 5) (by decide)).mp hr
    obtain ⟨k, hk, rfl⟩ := i32_lt_nat (n := 6) (by decide) hr.1 hr.2
    obtain ⟨s1, s2, s3⟩ := strip_sh k (by omega)
    have hl := strip_ln.1 k hk
    rcases h.2.2.1 k hk with ⟨z1, z2⟩ | ⟨n, hn, z1, z2, z3⟩
    · refine ⟨-3, refuseM M 1, meetsM (refuseM M 1) 1, ?_, ?_, rel_refuse h 1⟩
      · unfold fX5_lay
        rw [isBelow_ok, cal_ok, if_pos hr, if_neg (by decide), gR hRO 3 0 0 1 (by decide), ldR_ok hRO (13 + 2 * k) (show k < ln 1 from hk) (by decide) rfl s1 (by omega) (by omega), lackOf_no z1, cal_ok, if_neg (by decide), refuse_ok hRO (v := 1) (f := 1) rfl (by decide), cal_ok]
      · show fX6_lay 93 (nI k) i v (refuseM M 1) = _
        have z3 : (refuseM M 1).1 95 k = -1 := z2
        unfold fX6_lay
        rw [isRow_ok, cal_ok, if_pos hr2, if_neg (by decide), gR (M := refuseM M 1) hRO 0 93 5 95 (by decide), ldI_ok (show k < ln 95 from hk) (by decide), z3, if_neg (by decide), meets_ok (M := refuseM M 1) hRO (v := 1) (f := 1) rfl (by decide), cal_ok]
    · by_cases hi : 0 ≤ i ∧ i < nI n
      · have hi2 := (i32_in_pred (by omega)).mpr hi
        obtain ⟨j, hj, rfl⟩ := i32_lt_nat (by omega) hi.1 hi.2
        refine ⟨1, wI (wI M 0 10 (M.1 (13 + 2 * k + 1) j)) (13 + 2 * k + 1) j v, wI (wI (wI (wI M 0 10 (M.1 (13 + 2 * k + 1) j)) (13 + 2 * k + 1) j v) 96 (40 * k + j) v) 93 2 (M.1 96 (40 * k + j)), ?_, ?_, ?_⟩
        · unfold fX5_lay
          rw [isBelow_ok, cal_ok, if_pos hr, if_neg (by decide), gR hRO 3 0 0 1 (by decide), ldR_ok hRO (13 + 2 * k) (show k < ln 1 from hk) (by decide) rfl s1 (by omega) (by omega), lackOf_ok z1 (by omega), cal_ok, if_pos hi, if_pos rfl, gR hRO 3 0 0 1 (by decide), ldR_ok hRO (13 + 2 * k) (show k < ln 1 from hk) (by decide) rfl s1 (by omega) (by omega), gR hRO 0 (13 + 2 * k) 0 (13 + 2 * k + 1) ⟨s3, s2, by omega, by omega⟩, ldI_ok (by omega) (by rw [hl]; decide)]
          rw [pfI_e, gR (hRO.wI _ _ _) 3 0 0 1 (by decide), ldR_ok (hRO.wI _ _ _) (13 + 2 * k) (show k < ln 1 from hk) (by decide) rfl s1 (by omega) (by omega), gR (hRO.wI _ _ _) 0 (13 + 2 * k) 0 (13 + 2 * k + 1) ⟨s3, s2, by omega, by omega⟩, stI_ok (by omega) (by rw [hl]; decide)]
        · show fX6_lay 93 (nI k) (nI j) v (wI (wI M 0 10 (M.1 (13 + 2 * k + 1) j)) (13 + 2 * k + 1) j v) = _
          generalize hM1 : wI (wI M 0 10 (M.1 (13 + 2 * k + 1) j)) (13 + 2 * k + 1) j v = M1
          have hRO1 : RO M1 := by rw [← hM1]; exact hRO
          have e95 : M1.1 95 k = nI n := by rw [← hM1, wI_at, if_neg (by omega), wI_at, if_neg (by omega)]; exact z2
          have e96 : M1.1 96 (40 * k + j) = M.1 96 (40 * k + j) := by rw [← hM1, wI_at, if_neg (by omega), wI_at, if_neg (by omega)]
          unfold fX6_lay
          rw [isRow_ok, cal_ok, if_pos hr2, if_neg (by decide), gR hRO1 0 93 5 95 (by decide), ldI_ok (show k < ln 95 from hk) (by decide), e95, if_pos (nI_pos' (by omega)), gR hRO1 0 93 5 95 (by decide), ldI_ok (show k < ln 95 from hk) (by decide), e95, in_ok, cal_ok, if_pos hi2, if_neg (by decide), rowAt_ok hRO1 hk (by omega), cal_ok, e96, gR hRO1 0 93 6 96 (by decide), show (40 : Int32) = nI 40 from rfl, nI_mul, nI_pl, stI_ok (show 40 * k + j < ln 96 from by show 40 * k + j < 240; omega) (by decide)]
          rfl
        · refine h.rows (fun c q => ⟨fun hc hq => ?_, fun hc h95 h96 h97 h98 h99 h93 => ?_⟩) ?_ rfl (fun r hr => ?_) (fun t ht => ?_)
          · rw [wI_at, if_neg (by omega), wI_at, if_neg (by omega), wI_at, if_neg (by omega), wI_at, if_neg (by omega)]
          · rw [wI_at, if_neg (by omega), wI_at, if_neg (by omega), wI_at, if_neg (by omega), wI_at, if_neg (by omega)]
          · rw [wI_at, if_neg (by omega), wI_at, if_neg (by omega), wI_at, if_neg (by omega), wI_at, if_pos ⟨rfl, rfl⟩, wI_at, if_pos ⟨rfl, rfl⟩]
            exact z3 j hj
          · by_cases hrk : r = k
            · subst hrk
              refine Or.inr ⟨n, hn, ?_, ?_, fun i hi => ?_⟩
              · rw [wI_at, if_neg (by omega), wI_at, if_neg (by omega), wI_at, if_neg (by omega), wI_at, if_neg (by omega)]
                exact z1
              · rw [wI_at, if_neg (by omega), wI_at, if_neg (by omega), wI_at, if_neg (by omega), wI_at, if_neg (by omega)]
                exact z2
              · by_cases hij : i = j
                · subst hij
                  rw [wI_at, if_neg (by omega), wI_at, if_neg (by omega), wI_at, if_pos ⟨rfl, rfl⟩, wI_at, if_neg (by omega), wI_at, if_pos ⟨rfl, rfl⟩]
                · rw [wI_at, if_neg (by omega), wI_at, if_neg (by omega), wI_at, if_neg (by omega), wI_at, if_neg (by omega)]
                  rw [wI_at, if_neg (by omega), wI_at, if_neg (by omega), wI_at, if_neg (by omega), wI_at, if_neg (by omega)]
                  exact z3 i hi
            · refine (h.2.2.1 r hr).same ?_ ?_ ?_ (fun i hi => ?_)
              · rw [wI_at, if_neg (by omega), wI_at, if_neg (by omega), wI_at, if_neg (by omega), wI_at, if_neg (by omega)]
              · rw [wI_at, if_neg (by omega), wI_at, if_neg (by omega), wI_at, if_neg (by omega), wI_at, if_neg (by omega)]
              · funext i
                rw [wI_at, if_neg (by omega), wI_at, if_neg (by omega), wI_at, if_neg (by omega), wI_at, if_neg (by omega)]
              · rw [wI_at, if_neg (by omega), wI_at, if_neg (by omega), wI_at, if_neg (by omega), wI_at, if_neg (by omega)]
          · refine (h.2.2.2.1 t ht).same ?_ ?_ ?_ (fun i hi => ?_)
            · rw [wI_at, if_neg (by omega), wI_at, if_neg (by omega), wI_at, if_neg (by omega), wI_at, if_neg (by omega)]
            · rw [wI_at, if_neg (by omega), wI_at, if_neg (by omega), wI_at, if_neg (by omega), wI_at, if_neg (by omega)]
            · funext i
              rw [wI_at, if_neg (by omega), wI_at, if_neg (by omega), wI_at, if_neg (by omega), wI_at, if_neg (by omega)]
            · rw [wI_at, if_neg (by omega), wI_at, if_neg (by omega), wI_at, if_neg (by omega), wI_at, if_neg (by omega)]
      · have hi2 : ¬ (0 ≤ i ∧ i ≤ nI n - 1) := fun q => hi ((i32_in_pred (by omega)).mp q)
        refine ⟨-3, refuseM M 2, meetsM (refuseM M 2) 2, ?_, ?_, rel_refuse h 2⟩
        · unfold fX5_lay
          rw [isBelow_ok, cal_ok, if_pos hr, if_neg (by decide), gR hRO 3 0 0 1 (by decide), ldR_ok hRO (13 + 2 * k) (show k < ln 1 from hk) (by decide) rfl s1 (by omega) (by omega), lackOf_ok z1 (by omega), cal_ok, if_neg hi, if_neg (by decide), refuse_ok hRO (v := 2) (f := 2) rfl (by decide), cal_ok]
        · show fX6_lay 93 (nI k) i v (refuseM M 2) = _
          have e95 : (refuseM M 2).1 95 k = nI n := z2
          unfold fX6_lay
          rw [isRow_ok, cal_ok, if_pos hr2, if_neg (by decide), gR (M := refuseM M 2) hRO 0 93 5 95 (by decide), ldI_ok (show k < ln 95 from hk) (by decide), e95, if_pos (nI_pos' (by omega)), gR (M := refuseM M 2) hRO 0 93 5 95 (by decide), ldI_ok (show k < ln 95 from hk) (by decide), e95, in_ok, cal_ok, if_neg hi2, if_pos rfl, meets_ok (M := refuseM M 2) hRO (v := 2) (f := 2) rfl (by decide), cal_ok]
  · have hr2 : ¬ (0 ≤ r ∧ r ≤ 5) := fun q => hr ((below_in (n := 5) (by decide)).mpr q)
    refine ⟨-1, M, M, ?_, ?_, h⟩
    · unfold fX5_lay
      rw [isBelow_ok, cal_ok, if_neg hr, if_pos rfl]
    · show fX6_lay 93 r i v M = _
      unfold fX6_lay
      rw [isRow_ok, cal_ok, if_neg hr2, if_pos rfl]

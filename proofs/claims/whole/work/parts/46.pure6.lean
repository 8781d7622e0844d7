theorem strip_shT : ∀ t, t < 4 → sh (25 + 2 * t) = 12 ∧ sh (25 + 2 * t + 1) = 0 ∧ R0 (25 + 2 * t) 0 = 25 + 2 * t + 1 := by decide +kernel
theorem nar_b (w : Int32) : vp_nar .byte w.toInt8.toInt32 = w.toInt8.toInt32 := by
  show w.toInt8.toInt32.toInt8.toInt32 = _
  simp
theorem op_text (M : Mm) (h : Rel M) (r z : Int32) : Good Rel (fX5_text 0 r z M) (fX6_text 93 r z) := by
  have hRO := h.1
  by_cases hr : 0 ≤ r ∧ r < 4
  · have hr2 : 0 ≤ r ∧ r ≤ 3 := (below_in (n := 3) (by decide)).mp hr
    obtain ⟨k, hk, rfl⟩ := i32_lt_nat (n := 4) (by decide) hr.1 hr.2
    by_cases hz : z ≤ 80
    · by_cases h0 : 0 ≤ z
      · obtain ⟨n, hn, rfl⟩ := i32_le_nat (n := 80) (by decide) h0 hz
        obtain ⟨s1, s2, s3⟩ := strip_shT k hk
        have hl := strip_ln.2 k hk
        refine ⟨nI n, fillM (wI M (25 + 2 * k) 1 (nI n)) (25 + 2 * k + 1) 0 32 n, fillM (wI (fillM (wI M (25 + 2 * k) 1 (nI n)) (25 + 2 * k + 1) 0 32 n) 98 k (nI n)) 99 (80 * k) 32 80, ?_, ?_, ?_⟩
        · unfold fX5_text
          rw [isBelow_ok, cal_ok, if_pos hr, if_neg (by decide), if_pos hz, if_pos h0, gR hRO 3 0 1 2 (by decide), ldR_ok hRO (25 + 2 * k) (show k < ln 2 from hk) (by decide) rfl s1 (by omega) (by omega), renew_ok hRO s3 s2 (by omega) (by omega) (by rw [hl]; exact hn) (by rw [hl]; decide), cal_ok]
        · show fX6_text 93 (nI k) (nI n) (fillM (wI M (25 + 2 * k) 1 (nI n)) (25 + 2 * k + 1) 0 32 n) = _
          unfold fX6_text bX6_text_0
          rw [isText_ok, cal_ok, if_pos hr2, if_neg (by decide), if_pos hz, if_pos h0, gR ((hRO.wI _ _ _).fill _ _ _ _) 0 93 8 98 (by decide), stI_ok (show k < ln 98 from hk) (by decide)]
          show fnl gX6_text _ = _
          exact text6_ok (((hRO.wI _ _ _).fill _ _ _ _).wI _ _ _) hk
        · refine h.rows (fun c j => ⟨fun hc _ => ?_, fun hc h95 h96 h97 h98 h99 h93 => ?_⟩) ?_ rfl (fun r hr => ?_) (fun t ht => ?_)
          · rw [fillM_at, if_neg (by omega), wI_at, if_neg (by omega), fillM_at, if_neg (by omega), wI_at, if_neg (by omega)]
          · rw [fillM_at, if_neg (by omega), wI_at, if_neg (by omega), fillM_at, if_neg (by omega), wI_at, if_neg (by omega)]
          · rw [fillM_at, if_neg (by omega), wI_at, if_neg (by omega), fillM_at, if_neg (by omega), wI_at, if_neg (by omega), fillM_at, if_neg (by omega), wI_at, if_neg (by omega), fillM_at, if_neg (by omega), wI_at, if_neg (by omega)]
            exact h.2.1.2.2.1
          · refine (h.2.2.1 r hr).same ?_ ?_ ?_ (fun i hi => ?_)
            · rw [fillM_at, if_neg (by omega), wI_at, if_neg (by omega), fillM_at, if_neg (by omega), wI_at, if_neg (by omega)]
            · rw [fillM_at, if_neg (by omega), wI_at, if_neg (by omega), fillM_at, if_neg (by omega), wI_at, if_neg (by omega)]
            · funext i
              rw [fillM_at, if_neg (by omega), wI_at, if_neg (by omega), fillM_at, if_neg (by omega), wI_at, if_neg (by omega)]
            · rw [fillM_at, if_neg (by omega), wI_at, if_neg (by omega), fillM_at, if_neg (by omega), wI_at, if_neg (by omega)]
          · by_cases htk : t = k
            · subst htk
              refine Or.inr ⟨n, hn, ?_, ?_, fun i hi => ?_⟩
              · rw [fillM_at, if_neg (by omega), wI_at, if_neg (by omega), fillM_at, if_neg (by omega), wI_at, if_pos ⟨rfl, rfl⟩]
              · rw [fillM_at, if_neg (by omega), wI_at, if_pos ⟨rfl, rfl⟩]
              · rw [fillM_at, if_neg (by omega), wI_at, if_neg (by omega), fillM_at, if_pos (by omega), fillM_at, if_pos (by omega)]
            · refine (h.2.2.2.1 t ht).same ?_ ?_ ?_ (fun i hi => ?_)
              · rw [fillM_at, if_neg (by omega), wI_at, if_neg (by omega), fillM_at, if_neg (by omega), wI_at, if_neg (by omega)]
              · rw [fillM_at, if_neg (by omega), wI_at, if_neg (by omega), fillM_at, if_neg (by omega), wI_at, if_neg (by omega)]
              · funext i
                rw [fillM_at, if_neg (by omega), wI_at, if_neg (by omega), fillM_at, if_neg (by omega), wI_at, if_neg (by omega)]
              · rw [fillM_at, if_neg (by omega), wI_at, if_neg (by omega), fillM_at, if_neg (by omega), wI_at, if_neg (by omega)]
      · refine ⟨-3, refuseM M 5, meetsM (refuseM M 5) 5, ?_, ?_, rel_refuse h 5⟩
        · unfold fX5_text
          rw [isBelow_ok, cal_ok, if_pos hr, if_neg (by decide), if_pos hz, if_neg h0, refuse_ok hRO (v := 5) (f := 5) rfl (by decide), cal_ok]
        · show fX6_text 93 (nI k) z (refuseM M 5) = _
          unfold fX6_text bX6_text_0
          rw [isText_ok, cal_ok, if_pos hr2, if_neg (by decide), if_pos hz, if_neg h0, meets_ok (M := refuseM M 5) hRO (v := 5) (f := 5) rfl (by decide), cal_ok]
          rfl
    · refine ⟨-1, M, M, ?_, ?_, h⟩
      · unfold fX5_text bX5_text_14
        rw [isBelow_ok, cal_ok, if_pos hr, if_neg (by decide), if_neg hz]
      · show fX6_text 93 (nI k) z M = _
        unfold fX6_text bX6_text_0 bX6_text_13
        rw [isText_ok, cal_ok, if_pos hr2, if_neg (by decide), if_neg hz]
        rfl
  · have hr2 : ¬ (0 ≤ r ∧ r ≤ 3) := fun q => hr ((below_in (n := 3) (by decide)).mpr q)
    refine ⟨-1, M, M, ?_, ?_, h⟩
    · unfold fX5_text bX5_text_14
      rw [isBelow_ok, cal_ok, if_neg hr, if_pos rfl]
    · show fX6_text 93 r z M = _
      unfold fX6_text bX6_text_0 bX6_text_13
      rw [isText_ok, cal_ok, if_neg hr2, if_pos rfl]
      rfl
theorem op_put (M : Mm) (h : Rel M) (r i v : Int32) : Good Rel (fX5_put 0 r i v M) (fX6_put 93 r i v) := by
  have hRO := h.1
  by_cases hr : 0 ≤ r ∧ r < 4
  · have hr2 : 0 ≤ r ∧ r ≤ 3 := (below_in (n := 3) (by decide)).mp hr
    obtain ⟨k, hk, rfl⟩ := i32_lt_nat (n := 4) (by decide) hr.1 hr.2
    obtain ⟨s1, s2, s3⟩ := strip_shT k hk
    have hl := strip_ln.2 k hk
    rcases h.2.2.2.1 k hk with ⟨z1, z2⟩ | ⟨n, hn, z1, z2, z3⟩
    · refine ⟨-3, refuseM M 1, meetsM (refuseM M 1) 1, ?_, ?_, rel_refuse h 1⟩
      · unfold fX5_put
        rw [isBelow_ok, cal_ok, if_pos hr, if_neg (by decide), gR hRO 3 0 1 2 (by decide), ldR_ok hRO (25 + 2 * k) (show k < ln 2 from hk) (by decide) rfl s1 (by omega) (by omega), lackOf_no z1, cal_ok, if_neg (by decide), refuse_ok hRO (v := 1) (f := 1) rfl (by decide), cal_ok]
      · show fX6_put 93 (nI k) i v (refuseM M 1) = _
        have z3 : (refuseM M 1).1 98 k = -1 := z2
        unfold fX6_put
        rw [isText_ok, cal_ok, if_pos hr2, if_neg (by decide), gR (M := refuseM M 1) hRO 0 93 8 98 (by decide), ldI_ok (show k < ln 98 from hk) (by decide), z3, if_neg (by decide), meets_ok (M := refuseM M 1) hRO (v := 1) (f := 1) rfl (by decide), cal_ok]
    · by_cases hi : 0 ≤ i ∧ i < nI n
      · have hi2 := (i32_in_pred (by omega)).mpr hi
        obtain ⟨j, hj, rfl⟩ := i32_lt_nat (by omega) hi.1 hi.2
        refine ⟨M.1 (25 + 2 * k + 1) j + 1000, wI M (25 + 2 * k + 1) j v.toInt8.toInt32, wI (wI M (25 + 2 * k + 1) j v.toInt8.toInt32) 99 (80 * k + j) v.toInt8.toInt32, ?_, ?_, ?_⟩
        · unfold fX5_put
          rw [isBelow_ok, cal_ok, if_pos hr, if_neg (by decide), gR hRO 3 0 1 2 (by decide), ldR_ok hRO (25 + 2 * k) (show k < ln 2 from hk) (by decide) rfl s1 (by omega) (by omega), lackOf_ok z1 (by omega), cal_ok, if_pos hi, if_pos rfl, gR hRO 3 0 1 2 (by decide), ldR_ok hRO (25 + 2 * k) (show k < ln 2 from hk) (by decide) rfl s1 (by omega) (by omega), gR hRO 0 (25 + 2 * k) 0 (25 + 2 * k + 1) ⟨s3, s2, by omega, by omega⟩, ldI_ok (by omega) (by rw [hl]; decide), gR hRO 3 0 1 2 (by decide), ldR_ok hRO (25 + 2 * k) (show k < ln 2 from hk) (by decide) rfl s1 (by omega) (by omega), gR hRO 0 (25 + 2 * k) 0 (25 + 2 * k + 1) ⟨s3, s2, by omega, by omega⟩, stI_ok (by omega) (by rw [hl]; decide)]
        · show fX6_put 93 (nI k) (nI j) v (wI M (25 + 2 * k + 1) j v.toInt8.toInt32) = _
          generalize hM1 : wI M (25 + 2 * k + 1) j v.toInt8.toInt32 = M1
          have hRO1 : RO M1 := by rw [← hM1]; exact hRO
          have e95 : M1.1 98 k = nI n := by rw [← hM1, wI_at, if_neg (by omega)]; exact z2
          have e96 : M1.1 99 (80 * k + j) = M.1 (25 + 2 * k + 1) j := by rw [← hM1, wI_at, if_neg (by omega)]; exact (z3 j hj).symm
          unfold fX6_put
          rw [isText_ok, cal_ok, if_pos hr2, if_neg (by decide), gR hRO1 0 93 8 98 (by decide), ldI_ok (show k < ln 98 from hk) (by decide), e95, if_pos (nI_pos' (by omega)), gR hRO1 0 93 8 98 (by decide), ldI_ok (show k < ln 98 from hk) (by decide), e95, in_ok, cal_ok, if_pos hi2, if_neg (by decide), gR hRO1 1 93 9 99 (by decide), show (80 : Int32) = nI 80 from rfl, nI_mul, nI_pl, ldI_ok (show 80 * k + j < ln 99 from by show 80 * k + j < 320; omega) (by decide), gR hRO1 1 93 9 99 (by decide), stI_ok (show 80 * k + j < ln 99 from by show 80 * k + j < 320; omega) (by decide), e96, nar_b, Int32.add_comm]
        · refine h.rows (fun c q => ⟨fun hc hq => ?_, fun hc h95 h96 h97 h98 h99 h93 => ?_⟩) ?_ rfl (fun r hr => ?_) (fun t ht => ?_)
          · rw [wI_at, if_neg (by omega), wI_at, if_neg (by omega)]
          · rw [wI_at, if_neg (by omega), wI_at, if_neg (by omega)]
          · rw [wI_at, if_neg (by omega), wI_at, if_neg (by omega), wI_at, if_neg (by omega), wI_at, if_neg (by omega)]
            exact h.2.1.2.2.1
          · refine (h.2.2.1 r hr).same ?_ ?_ ?_ (fun i hi => ?_)
            · rw [wI_at, if_neg (by omega), wI_at, if_neg (by omega)]
            · rw [wI_at, if_neg (by omega), wI_at, if_neg (by omega)]
            · funext i
              rw [wI_at, if_neg (by omega), wI_at, if_neg (by omega)]
            · rw [wI_at, if_neg (by omega), wI_at, if_neg (by omega)]
          · by_cases htk : t = k
            · subst htk
              refine Or.inr ⟨n, hn, ?_, ?_, fun i hi => ?_⟩
              · rw [wI_at, if_neg (by omega), wI_at, if_neg (by omega)]
                exact z1
              · rw [wI_at, if_neg (by omega), wI_at, if_neg (by omega)]
                exact z2
              · by_cases hij : i = j
                · subst hij
                  rw [wI_at, if_neg (by omega), wI_at, if_pos ⟨rfl, rfl⟩, wI_at, if_pos ⟨rfl, rfl⟩]
                · rw [wI_at, if_neg (by omega), wI_at, if_neg (by omega)]
                  rw [wI_at, if_neg (by omega), wI_at, if_neg (by omega)]
                  exact z3 i hi
            · refine (h.2.2.2.1 t ht).same ?_ ?_ ?_ (fun i hi => ?_)
              · rw [wI_at, if_neg (by omega), wI_at, if_neg (by omega)]
              · rw [wI_at, if_neg (by omega), wI_at, if_neg (by omega)]
              · funext i
                rw [wI_at, if_neg (by omega), wI_at, if_neg (by omega)]
              · rw [wI_at, if_neg (by omega), wI_at, if_neg (by omega)]
      · have hi2 : ¬ (0 ≤ i ∧ i ≤ nI n - 1) := fun q => hi ((i32_in_pred (by omega)).mp q)
        refine ⟨-3, refuseM M 2, meetsM (refuseM M 2) 2, ?_, ?_, rel_refuse h 2⟩
        · unfold fX5_put
          rw [isBelow_ok, cal_ok, if_pos hr, if_neg (by decide), gR hRO 3 0 1 2 (by decide), ldR_ok hRO (25 + 2 * k) (show k < ln 2 from hk) (by decide) rfl s1 (by omega) (by omega), lackOf_ok z1 (by omega), cal_ok, if_neg hi, if_neg (by decide), refuse_ok hRO (v := 2) (f := 2) rfl (by decide), cal_ok]
        · show fX6_put 93 (nI k) i v (refuseM M 2) = _
          have e95 : (refuseM M 2).1 98 k = nI n := z2
          unfold fX6_put
          rw [isText_ok, cal_ok, if_pos hr2, if_neg (by decide), gR (M := refuseM M 2) hRO 0 93 8 98 (by decide), ldI_ok (show k < ln 98 from hk) (by decide), e95, if_pos (nI_pos' (by omega)), gR (M := refuseM M 2) hRO 0 93 8 98 (by decide), ldI_ok (show k < ln 98 from hk) (by decide), e95, in_ok, cal_ok, if_neg hi2, if_pos rfl, meets_ok (M := refuseM M 2) hRO (v := 2) (f := 2) rfl (by decide), cal_ok]
  · have hr2 : ¬ (0 ≤ r ∧ r ≤ 3) := fun q => hr ((below_in (n := 3) (by decide)).mpr q)
    refine ⟨-1, M, M, ?_, ?_, h⟩
    · unfold fX5_put
      rw [isBelow_ok, cal_ok, if_neg hr, if_pos rfl]
    · show fX6_put 93 r i v M = _
      unfold fX6_put
      rw [isText_ok, cal_ok, if_neg hr2, if_pos rfl]

/-! stores in a loop -/
def fillM (M : Mm) (c s : Nat) (v : Int32) (j : Nat) : Mm := (fun b i => if b = c ∧ s ≤ i ∧ i < s + j then v else M.1 b i, M.2.1, M.2.2)
theorem fillM_at {M : Mm} {c s j b i : Nat} {v : Int32} : (fillM M c s v j).1 b i = if b = c ∧ s ≤ i ∧ i < s + j then v else M.1 b i := rfl
theorem fillM_0 {M : Mm} {c s : Nat} {v : Int32} : fillM M c s v 0 = M := by
  obtain ⟨M1, M2, M3⟩ := M
  unfold fillM
  refine congrArg (fun z => (z, M2, M3)) ?_
  funext b i
  rw [if_neg (by omega)]
theorem fillM_s {M : Mm} {c s j : Nat} {v : Int32} : wI (fillM M c s v j) c (s + j) v = fillM M c s v (j + 1) := by
  obtain ⟨M1, M2, M3⟩ := M
  unfold wI fillM
  refine congrArg (fun z => (z, M2, M3)) ?_
  funext b i
  show (if b = c ∧ i = s + j then v else if b = c ∧ s ≤ i ∧ i < s + j then v else M1 b i) = if b = c ∧ s ≤ i ∧ i < s + (j + 1) then v else M1 b i
  by_cases h1 : b = c ∧ i = s + j
  · rw [if_pos h1, if_pos (by omega)]
  · by_cases h2 : b = c ∧ s ≤ i ∧ i < s + j
    · rw [if_neg h1, if_pos h2, if_pos (by omega)]
    · rw [if_neg h1, if_neg h2, if_neg (by omega)]
theorem RO.fill {M : Mm} (h : RO M) (c s : Nat) (v : Int32) (j : Nat) : RO (fillM M c s v j) := h
theorem renew_ok {M : Mm} (h : RO M) {o n : Nat} {v : Int32} (ho : R0 o 0 = o + 1) (hs : sh (o + 1) = 0) (h4 : o ≠ 4) (h6 : o ≠ 6) (hn : n ≤ ln (o + 1)) (hl : ln (o + 1) < 2 ^ 31) : fX2_renew o (nI n) v M = some ((), fillM (wI M o 1 (nI n)) (o + 1) 0 v n) := by
  unfold fX2_renew bX2_renew_0
  rw [gR h 0 o 0 (o + 1) ⟨ho, hs, by omega, by omega⟩]
  rw [pfI_e, if_neg (show ¬ (Int32.ofNat (ln (o + 1)) < nI n) from nI_nlt hn hl)]
  show fnl gX2_renew _ = _
  have e := fnl_loop (g := gX2_renew) (fun j => (1, o, v, nI j, fillM (wI M o 1 (nI n)) (o + 1) 0 v j)) n (r := ((), fillM (wI M o 1 (nI n)) (o + 1) 0 v n)) (fun j hj => ?_) ?_
  · rw [← e, fillM_0]
    rfl
  · show bX2_renew_15 o v (nI j) (fillM (wI M o 1 (nI n)) (o + 1) 0 v j) = _
    have e1 : (fillM (wI M o 1 (nI n)) (o + 1) 0 v j).1 o 1 = nI n := by rw [fillM_at, if_neg (by omega), wI_at, if_pos ⟨rfl, rfl⟩]
    unfold bX2_renew_15
    rw [gfI_e, e1, if_neg (nI_ge hj (by omega)), gR ((h.wI _ _ _).fill _ _ _ _) 0 o 0 (o + 1) ⟨ho, hs, by omega, by omega⟩, stI_ok (by omega) hl, nI_succ]
    have e2 := fillM_s (M := wI M o 1 (nI n)) (c := o + 1) (s := 0) (j := j) (v := v)
    rw [Nat.zero_add] at e2
    rw [e2]
  · show bX2_renew_15 o v (nI n) (fillM (wI M o 1 (nI n)) (o + 1) 0 v n) = _
    have e1 : (fillM (wI M o 1 (nI n)) (o + 1) 0 v n).1 o 1 = nI n := by rw [fillM_at, if_neg (by omega), wI_at, if_pos ⟨rfl, rfl⟩]
    unfold bX2_renew_15
    rw [gfI_e, e1, if_pos (Int32.le_refl _)]
theorem row6_ok {M : Mm} (h : RO M) {k n : Nat} (hk : k < 6) : fnl gX6_row (1, 93, nI k, nI n, 0, M) = some (nI n, fillM M 96 (40 * k) 0 40) := by
  have e := fnl_loop (g := gX6_row) (fun j => (1, 93, nI k, nI n, nI j, fillM M 96 (40 * k) 0 j)) 40 (r := (nI n, fillM M 96 (40 * k) 0 40)) (fun j hj => ?_) ?_
  · rw [← e, fillM_0]
    rfl
  · show bX6_row_34 93 (nI k) (nI n) (nI j) (fillM M 96 (40 * k) 0 j) = _
    unfold bX6_row_34
    rw [if_neg (show ¬ ((40 : Int32) ≤ nI j) from nI_ge hj (by decide)), gR (h.fill _ _ _ _) 0 93 6 96 (by decide), show (40 : Int32) = nI 40 from rfl, nI_mul, nI_pl, stI_ok (show 40 * k + j < ln 96 from by show 40 * k + j < 240; omega) (by decide), fillM_s, nI_succ]
  · show bX6_row_34 93 (nI k) (nI n) (nI 40) (fillM M 96 (40 * k) 0 40) = _
    unfold bX6_row_34
    rw [if_pos (show (40 : Int32) ≤ nI 40 from Int32.le_refl _)]
theorem text6_ok {M : Mm} (h : RO M) {k n : Nat} (hk : k < 4) : fnl gX6_text (1, 93, nI k, nI n, 0, M) = some (nI n, fillM M 99 (80 * k) 32 80) := by
  have e := fnl_loop (g := gX6_text) (fun j => (1, 93, nI k, nI n, nI j, fillM M 99 (80 * k) 32 j)) 80 (r := (nI n, fillM M 99 (80 * k) 32 80)) (fun j hj => ?_) ?_
  · rw [← e, fillM_0]
    rfl
  · show bX6_text_34 93 (nI k) (nI n) (nI j) (fillM M 99 (80 * k) 32 j) = _
    unfold bX6_text_34
    rw [if_neg (show ¬ ((80 : Int32) ≤ nI j) from nI_ge hj (by decide)), gR (h.fill _ _ _ _) 1 93 9 99 (by decide), show (80 : Int32) = nI 80 from rfl, nI_mul, nI_pl, stI_ok (show 80 * k + j < ln 99 from by show 80 * k + j < 320; omega) (by decide), show vp_nar .byte 32 = 32 from by decide, fillM_s, nI_succ]
  · show bX6_text_34 93 (nI k) (nI n) (nI 80) (fillM M 99 (80 * k) 32 80) = _
    unfold bX6_text_34
    rw [if_pos (show (80 : Int32) ≤ nI 80 from Int32.le_refl _)]
theorem below_in {v : Int32} {n : Nat} (hn : n < 2 ^ 31 - 1) : (0 ≤ v ∧ v < nI (n + 1)) ↔ (0 ≤ v ∧ v ≤ nI n) := by
  rw [le_pred hn]
theorem op_row (M : Mm) (h : Rel M) (r z : Int32) : Good Rel (fX5_row 0 r z M) (fX6_row 93 r z) := by
  have hRO := h.1
  by_cases hr : 0 ≤ r ∧ r < 6
  · have hr2 : 0 ≤ r ∧ r ≤ 5 := (below_in (n := 5) (by decide)).mp hr
    obtain ⟨k, hk, rfl⟩ := i32_lt_nat (n := 6) (by decide) hr.1 hr.2
    by_cases hz : z ≤ 40
    · by_cases h0 : 0 ≤ z
      · obtain ⟨n, hn, rfl⟩ := i32_le_nat (n := 40) (by decide) h0 hz
        obtain ⟨s1, s2, s3⟩ := strip_sh k (by omega)
        have hl := strip_ln.1 k hk
        refine ⟨nI n, fillM (wI M (13 + 2 * k) 1 (nI n)) (13 + 2 * k + 1) 0 0 n, fillM (wI (fillM (wI M (13 + 2 * k) 1 (nI n)) (13 + 2 * k + 1) 0 0 n) 95 k (nI n)) 96 (40 * k) 0 40, ?_, ?_, ?_⟩
        · unfold fX5_row
          rw [isBelow_ok, cal_ok, if_pos hr, if_neg (by decide), if_pos hz, if_pos h0, gR hRO 3 0 0 1 (by decide), ldR_ok hRO (13 + 2 * k) (show k < ln 1 from hk) (by decide) rfl s1 (by omega) (by omega), renew_ok hRO s3 s2 (by omega) (by omega) (by rw [hl]; exact hn) (by rw [hl]; decide), cal_ok]
        · show fX6_row 93 (nI k) (nI n) (fillM (wI M (13 + 2 * k) 1 (nI n)) (13 + 2 * k + 1) 0 0 n) = _
          unfold fX6_row bX6_row_0
          rw [isRow_ok, cal_ok, if_pos hr2, if_neg (by decide), if_pos hz, if_pos h0, gR ((hRO.wI _ _ _).fill _ _ _ _) 0 93 5 95 (by decide), stI_ok (show k < ln 95 from hk) (by decide)]
          show fnl gX6_row _ = _
          exact row6_ok (((hRO.wI _ _ _).fill _ _ _ _).wI _ _ _) hk
        · refine h.rows (fun c j => ⟨fun hc _ => ?_, fun hc h95 h96 h97 h98 h99 h93 => ?_⟩) ?_ rfl (fun r hr => ?_) (fun t ht => ?_)
          · rw [fillM_at, if_neg (by omega), wI_at, if_neg (by omega), fillM_at, if_neg (by omega), wI_at, if_neg (by omega)]
          · rw [fillM_at, if_neg (by omega), wI_at, if_neg (by omega), fillM_at, if_neg (by omega), wI_at, if_neg (by omega)]
          · rw [fillM_at, if_neg (by omega), wI_at, if_neg (by omega), fillM_at, if_neg (by omega), wI_at, if_neg (by omega), fillM_at, if_neg (by omega), wI_at, if_neg (by omega), fillM_at, if_neg (by omega), wI_at, if_neg (by omega)]
            exact h.2.1.2.2.1
          · by_cases hrk : r = k
            · subst hrk
              refine Or.inr ⟨n, hn, ?_, ?_, fun i hi => ?_⟩
              · rw [fillM_at, if_neg (by omega), wI_at, if_neg (by omega), fillM_at, if_neg (by omega), wI_at, if_pos ⟨rfl, rfl⟩]
              · rw [fillM_at, if_neg (by omega), wI_at, if_pos ⟨rfl, rfl⟩]
              · rw [fillM_at, if_neg (by omega), wI_at, if_neg (by omega), fillM_at, if_pos (by omega), fillM_at, if_pos (by omega)]
            · refine (h.2.2.1 r hr).same ?_ ?_ ?_ (fun i hi => ?_)
              · rw [fillM_at, if_neg (by omega), wI_at, if_neg (by omega), fillM_at, if_neg (by omega), wI_at, if_neg (by omega)]
              · rw [fillM_at, if_neg (by omega), wI_at, if_neg (by omega), fillM_at, if_neg (by omega), wI_at, if_neg (by omega)]
              · funext i
                rw [fillM_at, if_neg (by omega), wI_at, if_neg (by omega), fillM_at, if_neg (by omega), wI_at, if_neg (by omega)]
              · rw [fillM_at, if_neg (by omega), wI_at, if_neg (by omega), fillM_at, if_neg (by omega), wI_at, if_neg (by omega)]
          · refine (h.2.2.2.1 t ht).same ?_ ?_ ?_ (fun i hi => ?_)
            · rw [fillM_at, if_neg (by omega), wI_at, if_neg (by omega), fillM_at, if_neg (by omega), wI_at, if_neg (by omega)]
            · rw [fillM_at, if_neg (by omega), wI_at, if_neg (by omega), fillM_at, if_neg (by omega), wI_at, if_neg (by omega)]
            · funext i
              rw [fillM_at, if_neg (by omega), wI_at, if_neg (by omega), fillM_at, if_neg (by omega), wI_at, if_neg (by omega)]
            · rw [fillM_at, if_neg (by omega), wI_at, if_neg (by omega), fillM_at, if_neg (by omega), wI_at, if_neg (by omega)]
      · refine ⟨-3, refuseM M 5, meetsM (refuseM M 5) 5, ?_, ?_, rel_refuse h 5⟩
        · unfold fX5_row
          rw [isBelow_ok, cal_ok, if_pos hr, if_neg (by decide), if_pos hz, if_neg h0, refuse_ok hRO (v := 5) (f := 5) rfl (by decide), cal_ok]
        · show fX6_row 93 (nI k) z (refuseM M 5) = _
          unfold fX6_row bX6_row_0
          rw [isRow_ok, cal_ok, if_pos hr2, if_neg (by decide), if_pos hz, if_neg h0, meets_ok (M := refuseM M 5) hRO (v := 5) (f := 5) rfl (by decide), cal_ok]
          rfl
    · refine ⟨-1, M, M, ?_, ?_, h⟩
      · unfold fX5_row bX5_row_15
        rw [isBelow_ok, cal_ok, if_pos hr, if_neg (by decide), if_neg hz]
      · show fX6_row 93 (nI k) z M = _
        unfold fX6_row bX6_row_0 bX6_row_13
        rw [isRow_ok, cal_ok, if_pos hr2, if_neg (by decide), if_neg hz]
        rfl
  · have hr2 : ¬ (0 ≤ r ∧ r ≤ 5) := fun q => hr ((below_in (n := 5) (by decide)).mpr q)
    refine ⟨-1, M, M, ?_, ?_, h⟩
    · unfold fX5_row bX5_row_15
      rw [isBelow_ok, cal_ok, if_neg hr, if_pos rfl]
    · show fX6_row 93 r z M = _
      unfold fX6_row bX6_row_0 bX6_row_13
      rw [isRow_ok, cal_ok, if_neg hr2, if_pos rfl]
      rfl

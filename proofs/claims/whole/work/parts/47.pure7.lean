/-! MEAN -/
def sumJ (f : Nat → Int32) : Nat → Int64
  | 0 => 0
  | n + 1 => sumJ f n + (f n).toInt64
theorem sumJ_congr {f g : Nat → Int32} : ∀ {n : Nat}, (∀ i, i < n → f i = g i) → sumJ f n = sumJ g n
  | 0, _ => rfl
  | n + 1, h => by
    show sumJ f n + (f n).toInt64 = sumJ g n + (g n).toInt64
    rw [sumJ_congr (fun i hi => h i (Nat.lt_succ_of_lt hi)), h n (Nat.lt_succ_self n)]
theorem dvJ_ok {α : Type} {x y : Int64} {K : Int64 → Option α} (h : ¬ y = 0) : dvJ x y K = K (x / y) := by
  unfold dvJ
  rw [if_pos h]
theorem rmJ_ok {α : Type} {x y : Int64} {K : Int64 → Option α} (h : ¬ y = 0) : rmJ x y K = K (x - x / y * y) := by
  unfold rmJ
  rw [if_pos h]
theorem nJ_ne {n : Nat} (h0 : 0 < n) (hn : n < 2 ^ 31) : ¬ (nI n).toInt64 = 0 := by
  intro h
  have := congrArg Int64.toInt h
  rw [Int32.toInt_toInt64, nI_toInt hn] at this
  have e : (0 : Int64).toInt = 0 := by decide
  rw [e] at this
  omega
theorem sum_ok {M : Mm} (h : RO M) {o n : Nat} (ho : R0 o 0 = o + 1) (hs : sh (o + 1) = 0) (h4 : o ≠ 4) (h6 : o ≠ 6) (hz : M.1 o 1 = nI n) (hn : n ≤ ln (o + 1)) (hl : ln (o + 1) < 2 ^ 31) : fX2_sum o M = some (sumJ (M.1 (o + 1)) n, M) := by
  unfold fX2_sum bX2_sum_0
  show fnl gX2_sum _ = _
  refine fnl_loop (g := gX2_sum) (fun j => (1, o, sumJ (M.1 (o + 1)) j, nI j, M)) n (fun j hj => ?_) ?_
  · show bX2_sum_4 o (sumJ (M.1 (o + 1)) j) (nI j) M = _
    unfold bX2_sum_4
    rw [gfI_e, hz, if_neg (nI_ge hj (by omega)), gR h 0 o 0 (o + 1) ⟨ho, hs, by omega, by omega⟩, ldI_ok (by omega) hl, ltJ_e, nI_succ]
    rfl
  · show bX2_sum_4 o (sumJ (M.1 (o + 1)) n) (nI n) M = _
    unfold bX2_sum_4
    rw [gfI_e, hz, if_pos (Int32.le_refl _)]
theorem mean6_ok {M : Mm} (h : RO M) {k n : Nat} (hk : k < 6) (hz : M.1 95 k = nI n) (h0 : 0 < n) (hn : n ≤ 40) : fnl gX6_mean (1, 93, nI k, 0, 0, M) = some (1, wI M 93 2 ((sumJ (fun i => M.1 96 (40 * k + i)) n / (nI n).toInt64).toInt32)) := by
  refine fnl_loop (g := gX6_mean) (fun j => (1, 93, nI k, sumJ (fun i => M.1 96 (40 * k + i)) j, nI j, M)) n (fun j hj => ?_) ?_
  · show bX6_mean_44 93 (nI k) (sumJ (fun i => M.1 96 (40 * k + i)) j) (nI j) M = _
    unfold bX6_mean_44
    rw [gR h 0 93 5 95 (by decide), ldI_ok (show k < ln 95 from hk) (by decide), hz, if_neg (nI_ge hj (by omega)), rowAt_ok h hk (by omega), cal_ok, ltJ_e, nI_succ]
    rfl
  · show bX6_mean_44 93 (nI k) (sumJ (fun i => M.1 96 (40 * k + i)) n) (nI n) M = _
    unfold bX6_mean_44
    rw [gR h 0 93 5 95 (by decide), ldI_ok (show k < ln 95 from hk) (by decide), hz, if_pos (Int32.le_refl _), gR h 0 93 5 95 (by decide), ldI_ok (show k < ln 95 from hk) (by decide), hz, dvJ_ok (nJ_ne h0 (by omega))]
    rfl
theorem op_mean (M : Mm) (h : Rel M) (r : Int32) : Good Rel (fX5_mean 0 r M) (fX6_mean 93 r) := by
  have hRO := h.1
  by_cases hr : 0 ≤ r ∧ r < 6
  · have hr2 : 0 ≤ r ∧ r ≤ 5 := (below_in (n := 5) (by decide)).mp hr
    obtain ⟨k, hk, rfl⟩ := i32_lt_nat (n := 6) (by decide) hr.1 hr.2
    obtain ⟨s1, s2, s3⟩ := strip_sh k (by omega)
    have hl := strip_ln.1 k hk
    rcases h.2.2.1 k hk with ⟨z1, z2⟩ | ⟨n, hn, z1, z2, z3⟩
    · refine ⟨-3, refuseM M 1, meetsM (refuseM M 1) 1, ?_, ?_, rel_refuse h 1⟩
      · unfold fX5_mean
        rw [isBelow_ok, cal_ok, if_pos hr, if_neg (by decide), gR hRO 3 0 0 1 (by decide), ldR_ok hRO (13 + 2 * k) (show k < ln 1 from hk) (by decide) rfl s1 (by omega) (by omega), isMissing_ok, cal_ok, z1, if_neg (show ¬ (0 : Int32) ≤ -1 by decide), if_neg (by decide), refuse_ok hRO (v := 1) (f := 1) rfl (by decide), cal_ok]
      · show fX6_mean 93 (nI k) (refuseM M 1) = _
        have z3 : (refuseM M 1).1 95 k = -1 := z2
        unfold fX6_mean bX6_mean_0
        rw [isRow_ok, cal_ok, if_pos hr2, if_neg (by decide), gR (M := refuseM M 1) hRO 0 93 5 95 (by decide), ldI_ok (show k < ln 95 from hk) (by decide), z3, if_neg (by decide), meets_ok (M := refuseM M 1) hRO (v := 1) (f := 1) rfl (by decide), cal_ok]
        rfl
    · rcases Nat.eq_zero_or_pos n with hn0 | hn0
      · subst hn0
        refine ⟨-3, refuseM M 4, meetsM (refuseM M 4) 4, ?_, ?_, rel_refuse h 4⟩
        · unfold fX5_mean
          rw [isBelow_ok, cal_ok, if_pos hr, if_neg (by decide), gR hRO 3 0 0 1 (by decide), ldR_ok hRO (13 + 2 * k) (show k < ln 1 from hk) (by decide) rfl s1 (by omega) (by omega), isMissing_ok, cal_ok, z1, if_pos (nI_pos' (by omega)), if_pos rfl, gR hRO 3 0 0 1 (by decide), ldR_ok hRO (13 + 2 * k) (show k < ln 1 from hk) (by decide) rfl s1 (by omega) (by omega), gfI_e, z1, if_pos nI_0, refuse_ok hRO (v := 4) (f := 4) rfl (by decide), cal_ok]
        · show fX6_mean 93 (nI k) (refuseM M 4) = _
          have e95 : (refuseM M 4).1 95 k = nI 0 := z2
          unfold fX6_mean bX6_mean_0
          rw [isRow_ok, cal_ok, if_pos hr2, if_neg (by decide), gR (M := refuseM M 4) hRO 0 93 5 95 (by decide), ldI_ok (show k < ln 95 from hk) (by decide), e95, if_pos (nI_pos' (by omega)), gR (M := refuseM M 4) hRO 0 93 5 95 (by decide), ldI_ok (show k < ln 95 from hk) (by decide), e95, if_pos nI_0, meets_ok (M := refuseM M 4) hRO (v := 4) (f := 4) rfl (by decide), cal_ok]
          rfl
      · have hne : ¬ nI n = 0 := nI_ne0 hn0 (by omega)
        refine ⟨1, wI M 0 10 ((sumJ (M.1 (13 + 2 * k + 1)) n / (nI n).toInt64).toInt32), wI (wI M 0 10 ((sumJ (M.1 (13 + 2 * k + 1)) n / (nI n).toInt64).toInt32)) 93 2 ((sumJ (fun i => M.1 96 (40 * k + i)) n / (nI n).toInt64).toInt32), ?_, ?_, ?_⟩
        · unfold fX5_mean
          rw [isBelow_ok, cal_ok, if_pos hr, if_neg (by decide), gR hRO 3 0 0 1 (by decide), ldR_ok hRO (13 + 2 * k) (show k < ln 1 from hk) (by decide) rfl s1 (by omega) (by omega), isMissing_ok, cal_ok, z1, if_pos (nI_pos' (by omega)), if_pos rfl, gR hRO 3 0 0 1 (by decide), ldR_ok hRO (13 + 2 * k) (show k < ln 1 from hk) (by decide) rfl s1 (by omega) (by omega), gfI_e, z1, if_neg hne, gR hRO 3 0 0 1 (by decide), ldR_ok hRO (13 + 2 * k) (show k < ln 1 from hk) (by decide) rfl s1 (by omega) (by omega), sum_ok hRO s3 s2 (by omega) (by omega) z1 (by omega) (by rw [hl]; decide), cal_ok, gR hRO 3 0 0 1 (by decide), ldR_ok hRO (13 + 2 * k) (show k < ln 1 from hk) (by decide) rfl s1 (by omega) (by omega), gfI_e, z1, dvJ_ok (nJ_ne hn0 (by omega))]
          rfl
        · show fX6_mean 93 (nI k) (wI M 0 10 ((sumJ (M.1 (13 + 2 * k + 1)) n / (nI n).toInt64).toInt32)) = _
          have e95 : (wI M 0 10 ((sumJ (M.1 (13 + 2 * k + 1)) n / (nI n).toInt64).toInt32)).1 95 k = nI n := z2
          have em := mean6_ok (M := wI M 0 10 ((sumJ (M.1 (13 + 2 * k + 1)) n / (nI n).toInt64).toInt32)) hRO hk e95 hn0 hn
          unfold fX6_mean bX6_mean_0
          rw [isRow_ok, cal_ok, if_pos hr2, if_neg (by decide), gR (hRO.wI _ _ _) 0 93 5 95 (by decide), ldI_ok (show k < ln 95 from hk) (by decide), e95, if_pos (nI_pos' (by omega)), gR (hRO.wI _ _ _) 0 93 5 95 (by decide), ldI_ok (show k < ln 95 from hk) (by decide), e95, if_neg hne]
          exact em
        · refine h.told (fun c q h0 h12 h94 h93 => ?_) rfl ⟨?_, ?_, ?_, h.2.1.2.2.2.1, h.2.1.2.2.2.2⟩
          · rw [wI_at, if_neg (by omega), wI_at, if_neg (by omega)]
          · exact h.2.1.1
          · exact h.2.1.2.1
          · show ((sumJ (M.1 (13 + 2 * k + 1)) n / (nI n).toInt64).toInt32) = ((sumJ (fun i => M.1 96 (40 * k + i)) n / (nI n).toInt64).toInt32)
            rw [sumJ_congr (g := fun i => M.1 96 (40 * k + i)) (fun i hi => z3 i hi)]
  · have hr2 : ¬ (0 ≤ r ∧ r ≤ 5) := fun q => hr ((below_in (n := 5) (by decide)).mpr q)
    refine ⟨-1, M, M, ?_, ?_, h⟩
    · unfold fX5_mean
      rw [isBelow_ok, cal_ok, if_neg hr, if_pos rfl]
    · show fX6_mean 93 r M = _
      unfold fX6_mean bX6_mean_0
      rw [isRow_ok, cal_ok, if_neg hr2, if_pos rfl]
      rfl

theorem gR {α : Type} {M : Mm} {K : Nat → Option α} (h : RO M) (k a f b : Nat) (e : R0 a f = b ∧ sh b = k ∧ ¬ (a = 4 ∧ f = 0) ∧ ¬ (a = 6 ∧ f = 0)) : gfR M k a f K = K b := gfR_ok h b e.1 e.2.1 e.2.2.1 e.2.2.2
theorem gfI_e {α : Type} {M : Mm} {a f : Nat} {K : Int32 → Option α} : gfI M a f K = K (M.1 a f) := rfl
theorem gfJ_e {α : Type} {M : Mm} {a f : Nat} {K : Int64 → Option α} : gfJ M a f K = K (M.2.1 a f) := rfl
theorem pfI_e {α : Type} {M : Mm} {a f : Nat} {v : Int32} {K : Mm → Option α} : pfI M a f v K = K (wI M a f v) := rfl
theorem pfJ_e {α : Type} {M : Mm} {a f : Nat} {v : Int64} {K : Mm → Option α} : pfJ M a f v K = K (wJ M a f v) := rfl
theorem pfR_e {α : Type} {M : Mm} {a f v : Nat} {K : Mm → Option α} : pfR M a f v K = K (wR M a f v) := rfl
theorem ltI_e {α : Type} {v : Int32} {K : Int32 → Option α} : ltI v K = K v := rfl
theorem ltJ_e {α : Type} {v : Int64} {K : Int64 → Option α} : ltJ v K = K v := rfl
/-! CALLS ON ROWS, TEXTS AND WHAT IS TOLD -/
theorem isBelow_ok (a b : Int32) (M : Mm) : fX5_isBelow a b M = some (if 0 ≤ a ∧ a < b then 1 else 0, M) := by
  unfold fX5_isBelow bX5_isBelow_13
  by_cases h1 : a < 0
  · rw [if_pos h1, if_neg (fun h => absurd h1 (Int32.not_lt.mpr h.1))]
  · by_cases h2 : b ≤ a
    · rw [if_neg h1, if_pos h2, if_neg (fun h => absurd h.2 (Int32.not_lt.mpr h2))]
    · rw [if_neg h1, if_neg h2, if_pos ⟨Int32.not_lt.mp h1, Int32.not_le.mp h2⟩]
theorem isUpTo_ok (a b : Int32) (M : Mm) : fX5_isUpTo a b M = some (if 0 ≤ a ∧ a ≤ b then 1 else 0, M) := by
  unfold fX5_isUpTo bX5_isUpTo_13
  by_cases h1 : a < 0
  · rw [if_pos h1, if_neg (fun h => absurd h1 (Int32.not_lt.mpr h.1))]
  · by_cases h2 : b < a
    · rw [if_neg h1, if_pos h2, if_neg (fun h => absurd h2 (Int32.not_lt.mpr h.2))]
    · rw [if_neg h1, if_neg h2, if_pos ⟨Int32.not_lt.mp h1, Int32.not_lt.mp h2⟩]
theorem in_ok (v a b : Int32) (M : Mm) : fX6_in v a b M = some (if a ≤ v ∧ v ≤ b then 1 else 0, M) := by
  unfold fX6_in bX6_in_14
  by_cases h1 : v < a
  · rw [if_pos h1, if_neg (fun h => absurd h1 (Int32.not_lt.mpr h.1))]
  · by_cases h2 : b < v
    · rw [if_neg h1, if_pos h2, if_neg (fun h => absurd h2 (Int32.not_lt.mpr h.2))]
    · rw [if_neg h1, if_neg h2, if_pos ⟨Int32.not_lt.mp h1, Int32.not_lt.mp h2⟩]
theorem rz_ite {α : Type} (p : Prop) [Decidable p] (o : Option α) : rz (if p then 1 else 0) o = o := by
  unfold rz
  by_cases h : p <;> simp [h]
theorem isRow_ok (v : Int32) (M : Mm) : fX6_isRow v M = some (if 0 ≤ v ∧ v ≤ 5 then 1 else 0, M) := by
  unfold fX6_isRow
  rw [in_ok, cal_ok, rz_ite]
theorem isText_ok (v : Int32) (M : Mm) : fX6_isText v M = some (if 0 ≤ v ∧ v ≤ 3 then 1 else 0, M) := by
  unfold fX6_isText
  rw [in_ok, cal_ok, rz_ite]
theorem le_pred {v : Int32} {n : Nat} (hn : n < 2 ^ 31 - 1) : v ≤ nI n ↔ v < nI (n + 1) := by
  rw [Int32.le_iff_toInt_le, Int32.lt_iff_toInt_lt, nI_toInt (by omega), nI_toInt (by omega)]
  omega
def refuseM (M : Mm) (f : Nat) : Mm := wI (wI M 0 9 (nI f)) 12 f (M.1 12 f + 1)
def meetsM (M : Mm) (f : Nat) : Mm := wI (wI M 93 0 (nI f)) 94 f (M.1 94 f + 1)
theorem refuse_ok {M : Mm} (h : RO M) {v : Int32} {f : Nat} (hv : v = nI f) (hf : f < 6) : fX5_refuse 0 v M = some (-3, refuseM M f) := by
  subst hv
  unfold fX5_refuse
  rw [pfI_e, gR (h.wI _ _ _) 0 0 8 12 (by decide), ldI_ok (show f < ln 12 from hf) (by decide), stI_ok (show f < ln 12 from hf) (by decide)]
  rfl
theorem meets_ok {M : Mm} (h : RO M) {v : Int32} {f : Nat} (hv : v = nI f) (hf : f < 6) : fX6_meets 93 v M = some (-3, meetsM M f) := by
  subst hv
  unfold fX6_meets
  rw [pfI_e, gR (h.wI _ _ _) 0 93 1 94 (by decide), ldI_ok (show f < ln 94 from hf) (by decide), stI_ok (show f < ln 94 from hf) (by decide)]
  rfl
theorem rel_refuse {M : Mm} (h : Rel M) (f : Nat) : Rel (meetsM (refuseM M f) f) := by
  refine h.told (fun c j h0 h12 h94 h93 => ?_) rfl ?_
  · simp only [meetsM, refuseM, wI_at]
    rw [if_neg (by omega), if_neg (by omega), if_neg (by omega), if_neg (by omega)]
  · obtain ⟨-, hF, -⟩ := h
    refine ⟨rfl, fun g hg => ?_, hF.2.2.1, hF.2.2.2.1, hF.2.2.2.2⟩
    have e := hF.2.1 g hg
    simp only [meetsM, refuseM, wI_at]
    by_cases hgf : g = f
    · subst hgf
      simp [e]
    · simp [hgf, e]
theorem strip_sh : ∀ k, k < 10 → sh (13 + 2 * k) = 12 ∧ sh (13 + 2 * k + 1) = 0 ∧ R0 (13 + 2 * k) 0 = 13 + 2 * k + 1 := by decide +kernel
theorem strip_ln : (∀ k, k < 6 → ln (13 + 2 * k + 1) = 40) ∧ ∀ t, t < 4 → ln (25 + 2 * t + 1) = 80 := by decide +kernel
theorem isMissing_ok (o : Nat) (M : Mm) : fX2_isMissing o M = some (if 0 ≤ M.1 o 1 then 0 else 1, M) := by
  unfold fX2_isMissing
  rw [gfI_e]
  by_cases h : 0 ≤ M.1 o 1
  · rw [if_pos h, if_pos h]
  · rw [if_neg h, if_neg h]
theorem lackOf_no {o : Nat} {i : Int32} {M : Mm} (h : M.1 o 1 = -1) : fX2_lackOf o i M = some (1, M) := by
  unfold fX2_lackOf
  rw [isMissing_ok, cal_ok, h, if_neg (show ¬ (0 : Int32) ≤ -1 by decide), if_neg (by decide)]
theorem lackOf_ok {o n : Nat} {i : Int32} {M : Mm} (h : M.1 o 1 = nI n) (hn : n < 2 ^ 31) : fX2_lackOf o i M = some (if 0 ≤ i ∧ i < nI n then 0 else 2, M) := by
  unfold fX2_lackOf
  rw [isMissing_ok, cal_ok, h, if_pos (nI_pos' hn), if_pos rfl, gfI_e, h, isBelow_ok, cal_ok]
  by_cases q : 0 ≤ i ∧ i < nI n
  · rw [if_pos q, if_neg (by decide), if_pos q]
  · rw [if_neg q, if_pos rfl, if_neg q]
theorem op_finding (M : Mm) (h : Rel M) : Good Rel (fX5_finding 0 M) (fX6_finding 93) := ⟨M.1 0 9, M, M, rfl, by
  show some (M.1 93 0, M) = _
  rw [h.2.1.1], h⟩
theorem op_asked (M : Mm) (h : Rel M) : Good Rel (fX5_asked 0 M) (fX6_asked 93) := ⟨M.1 0 10, M, M, rfl, by
  show some (M.1 93 2, M) = _
  rw [h.2.1.2.2.1], h⟩
theorem op_upper (M : Mm) (h : Rel M) : Good Rel (fX5_upper 0 M) (fX6_upper 93) := ⟨M.2.1 0 11, M, M, rfl, by
  show some (M.2.1 93 3, M) = _
  rw [h.2.1.2.2.2.1], h⟩
theorem op_lower (M : Mm) (h : Rel M) : Good Rel (fX5_lower 0 M) (fX6_lower 93) := ⟨M.2.1 0 12, M, M, rfl, by
  show some (M.2.1 93 4, M) = _
  rw [h.2.1.2.2.2.2], h⟩
theorem op_findings (M : Mm) (h : Rel M) (f : Int32) : Good Rel (fX5_findings 0 f M) (fX6_findings 93 f) := by
  have hRO := h.1
  by_cases h1 : 1 ≤ f ∧ f ≤ 5
  · obtain ⟨k, hk, rfl⟩ := i32_le_nat (n := 5) (by decide) (Int32.le_trans (by decide) h1.1) h1.2
    refine ⟨M.1 12 k, M, M, ?_, ?_, h⟩
    · unfold fX5_findings
      rw [if_neg (Int32.not_lt.mpr h1.1), if_pos h1.2, gR hRO 0 0 8 12 (by decide), ldI_ok (show k < ln 12 from by show k < 6; omega) (by decide)]
    · show fX6_findings 93 (nI k) M = _
      unfold fX6_findings
      rw [in_ok, cal_ok, if_pos h1, if_neg (by decide), gR hRO 0 93 1 94 (by decide), ldI_ok (show k < ln 94 from by show k < 6; omega) (by decide), h.2.1.2.1 k (by omega)]
  · refine ⟨-1, M, M, ?_, ?_, h⟩
    · unfold fX5_findings bX5_findings_10
      by_cases q : f < 1
      · rw [if_pos q]
      · rw [if_neg q, if_neg (fun z => h1 ⟨Int32.not_lt.mp q, z⟩)]
    · show fX6_findings 93 f M = _
      unfold fX6_findings
      rw [in_ok, cal_ok, if_neg h1, if_pos rfl]

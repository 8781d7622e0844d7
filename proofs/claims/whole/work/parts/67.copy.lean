/-! COPY -/
theorem lg_gt {x y : Int64} : (0 < lg_cmp x y) ↔ y < x := by
  unfold lg_cmp
  by_cases h : x > y
  · rw [if_pos h]; exact ⟨fun _ => h, fun _ => by decide⟩
  · rw [if_neg h]
    by_cases e : x = y
    · rw [if_pos e]; exact ⟨fun q => absurd q (by decide), fun q => absurd q h⟩
    · rw [if_neg e]; exact ⟨fun q => absurd q (by decide), fun q => absurd q h⟩
theorem lg_le {x y : Int64} : (lg_cmp x y ≤ 0) ↔ ¬ y < x := by
  rw [← lg_gt]
  exact Int32.not_lt.symm
theorem lg_e0 {x y : Int64} : (lg_cmp x y = 0) ↔ x = y := by
  unfold lg_cmp
  by_cases h : x > y
  · rw [if_pos h]; exact ⟨fun q => absurd q (by decide), fun q => by subst q; exact absurd h (Int64.lt_irrefl)⟩
  · rw [if_neg h]
    by_cases e : x = y
    · rw [if_pos e]; exact ⟨fun _ => e, fun _ => rfl⟩
    · rw [if_neg e]; exact ⟨fun q => absurd q (by decide), fun q => absurd q e⟩
def RunOk (i n : Int32) (s : Nat) : Prop := 0 ≤ i ∧ i.toInt + n.toInt ≤ (s : Int)
theorem run_le {i n : Int32} {s : Nat} (hs : s ≤ 40) : ((nI s).toInt64 < i.toInt64 + n.toInt64) ↔ ¬ i.toInt + n.toInt ≤ (s : Int) := by
  have b1 := i.le_toInt
  have b2 := i.toInt_lt
  have b3 := n.le_toInt
  have b4 := n.toInt_lt
  rw [Int64.lt_iff_toInt_lt, Int64.toInt_add, Int32.toInt_toInt64, Int32.toInt_toInt64, Int32.toInt_toInt64, nI_toInt (by omega), Int.bmod_eq_of_le (by omega) (by omega)]
  omega
theorem hasRun_ok {M : Mm} {o s : Nat} {i n : Int32} (hz : M.1 o 1 = nI s) (hs : s ≤ 40) (hn : 0 ≤ n) : (RunOk i n s → fX2_hasRun o i n M = some (1, M)) ∧ (¬ RunOk i n s → fX2_hasRun o i n M = some (0, M)) := by
  have b1 := i.le_toInt
  have b2 := i.toInt_lt
  have b4 := n.toInt_lt
  have hn0 : (0 : Int) ≤ n.toInt := by simpa using Int32.le_iff_toInt_le.mp hn
  have e : (nI s - n).toInt = (s : Int) - n.toInt := by
    rw [i32_sub (by rw [nI_toInt (by omega)]; omega) (by rw [nI_toInt (by omega)]; omega), nI_toInt (by omega)]
  have e2 : (nI s - n < i) ↔ ¬ i.toInt + n.toInt ≤ (s : Int) := by
    rw [Int32.lt_iff_toInt_lt, e]
    omega
  unfold fX2_hasRun bX2_hasRun_18 RunOk
  rw [gfI_e, hz]
  by_cases q : i < 0
  · rw [if_pos q]
    exact ⟨fun z => absurd q (Int32.not_lt.mpr z.1), fun _ => rfl⟩
  · rw [if_neg q]
    by_cases r : nI s - n < i
    · rw [if_pos r]
      exact ⟨fun z => absurd z.2 (e2.mp r), fun _ => rfl⟩
    · rw [if_neg r]
      exact ⟨fun _ => rfl, fun z => absurd ⟨Int32.not_lt.mp q, Classical.byContradiction fun w => r (e2.mpr w)⟩ z⟩
theorem cpA_ok {α : Type} {M : Mm} {a0 a i j n : Nat} {K : Mm → Option α} (h1 : i + n ≤ ln a0) (h2 : j + n ≤ ln a) (hl : ln a0 < 2 ^ 31) (hl2 : ln a < 2 ^ 31) : cpA M a0 (nI i) a (nI j) (nI n) K = K (wC M a0 a i j n) := by
  unfold cpA
  rw [nI_clamp (by omega), nI_clamp (by omega), nI_clamp (by omega), if_pos]
  exact ⟨nI_pos (by omega), nI_pos (by omega), nI_pos (by omega), h1, h2⟩
theorem copy6_ok {M : Mm} (h : RO M) {k i m j n s t : Nat} (hk : k < 6) (hm : m < 6) (hs : s ≤ 40) (ht : t ≤ 40) (h1 : i + n ≤ s) (h2 : j + n ≤ t) : ∃ M1, fnl gX6_copy (1, 93, nI k, nI i, nI m, nI j, nI n, 0, M) = some (1, M1) ∧ (∀ x, x < n → M1.1 96 (40 * m + j + x) = M.1 96 (40 * k + i + x)) ∧ Off (fun c y => c = 97 ∨ c = 96 ∧ 40 * m + j ≤ y ∧ y < 40 * m + j + n) M M1 := by
  obtain ⟨s1, e1, M1, rfl, a1, hO1⟩ := fnl_go (g := gX6_copy) (fun x st => ∃ M1, st = (1, 93, nI k, nI i, nI m, nI j, nI n, nI x, M1) ∧ (∀ y, y < x → M1.1 97 y = M.1 96 (40 * k + i + y)) ∧ Off (fun c _ => c = 97) M M1) n (fun x st hx hI => by
    obtain ⟨M1, rfl, a1, hO1⟩ := hI
    have r1 := hO1.ro h
    have er := rowAt_ok r1 hk (show i + x < 40 by omega)
    rw [hO1.1 96 _ (by omega)] at er
    refine ⟨(1, 93, nI k, nI i, nI m, nI j, nI n, nI (x + 1), wI M1 97 x (M.1 96 (40 * k + (i + x)))), ?_, _, rfl, fun y hy => ?_, hO1.wI rfl⟩
    · show bX6_copy_104 93 (nI k) (nI i) (nI m) (nI j) (nI n) (nI x) M1 = _
      unfold bX6_copy_104
      rw [nI_pl]
      simp (disch := first | assumption | omega | decide) only [↓reduceIte, ↓gfI_e, ↓pfI_e, ↓gfJ_e, ↓pfJ_e, ↓ltI_e, ↓ltJ_e, ↓cal_ok, ↓rz0, ↓rz1, ↓g33, ↓g45, ↓wK, ↓wO, ↓wB, ↓wL, ↓wS, ↓wP, ↓wQ, ↓wY, ↓wL0, ↓wL1, ↓wL2, ↓r93_95, ↓r93_96, ↓r93_98, ↓r93_99, ↓r93_100, ↓r93_101, ↓r93_106, ↓r93_107, ↓ldw1, ↓ldw2, ↓ldw3, ↓ldw5, ↓ldw6, ↓ldw7, ↓ldw8, ↓ldw9, ↓ldw10, ↓ldw11, ↓ld100, ↓ld101, ↓ld106, ↓ld107, nle_F, nle_T, nlt_F, nlt_T, neq_F, neq_T, nle0_T, nle0_F, nlt0_F, n0lt_T, n0lt_F, n0le_T, n1_eq0, n0_eq0, n0_eq1, n1_eq1, np1, Bool.false_eq_true, gR r1 0 93 7 97 (by decide), er, st_w 40 (show ln 97 = 40 from rfl) (show x < 40 by omega)]
    · by_cases q : y = x
      · subst q
        rw [wI_at, if_pos ⟨rfl, rfl⟩, Nat.add_assoc]
      · rw [wI_at, if_neg (by omega)]; exact a1 y (by omega)) (s := (1, 93, nI k, nI i, nI m, nI j, nI n, 0, M)) ⟨M, rfl, fun y hy => absurd hy (by omega), Off.rf⟩
  have r1 := hO1.ro h
  have e2 : fnl gX6_copy (1, 93, nI k, nI i, nI m, nI j, nI n, nI n, M1) = fnl gX6_copy (2, 93, 0, 0, nI m, nI j, nI n, nI 0, M1) := by
    refine fnl_in ?_
    show bX6_copy_104 93 (nI k) (nI i) (nI m) (nI j) (nI n) (nI n) M1 = _
    unfold bX6_copy_104
    simp (disch := first | assumption | omega | decide) only [↓reduceIte, ↓gfI_e, ↓pfI_e, ↓gfJ_e, ↓pfJ_e, ↓ltI_e, ↓ltJ_e, ↓cal_ok, ↓rz0, ↓rz1, ↓g33, ↓g45, ↓wK, ↓wO, ↓wB, ↓wL, ↓wS, ↓wP, ↓wQ, ↓wY, ↓wL0, ↓wL1, ↓wL2, ↓r93_95, ↓r93_96, ↓r93_98, ↓r93_99, ↓r93_100, ↓r93_101, ↓r93_106, ↓r93_107, ↓ldw1, ↓ldw2, ↓ldw3, ↓ldw5, ↓ldw6, ↓ldw7, ↓ldw8, ↓ldw9, ↓ldw10, ↓ldw11, ↓ld100, ↓ld101, ↓ld106, ↓ld107, nle_F, nle_T, nlt_F, nlt_T, neq_F, neq_T, nle0_T, nle0_F, nlt0_F, n0lt_T, n0lt_F, n0le_T, n1_eq0, n0_eq0, n0_eq1, n1_eq1, np1, Bool.false_eq_true]
    rfl
  obtain ⟨s2, e3, M2, rfl, a2, hO2⟩ := fnl_go (g := gX6_copy) (fun x st => ∃ M2, st = (2, 93, 0, 0, nI m, nI j, nI n, nI x, M2) ∧ (∀ y, y < x → M2.1 96 (40 * m + j + y) = M.1 96 (40 * k + i + y)) ∧ Off (fun c y => c = 96 ∧ 40 * m + j ≤ y ∧ y < 40 * m + j + n) M1 M2) n (fun x st hx hI => by
    obtain ⟨M2, rfl, a2, hO2⟩ := hI
    have r2 := hO2.ro r1
    have e97 : M2.1 97 x = M.1 96 (40 * k + i + x) := by rw [hO2.1 97 x (by omega)]; exact a1 x hx
    refine ⟨(2, 93, 0, 0, nI m, nI j, nI n, nI (x + 1), wI M2 96 (40 * m + j + x) (M.1 96 (40 * k + i + x))), ?_, _, rfl, fun y hy => ?_, hO2.wI ⟨rfl, by omega, by omega⟩⟩
    · show bX6_copy_136 93 (nI m) (nI j) (nI n) (nI x) M2 = _
      unfold bX6_copy_136
      rw [show (40 : Int32) = nI 40 from rfl, nI_mul, nI_pl, nI_pl]
      simp (disch := first | assumption | omega | decide) only [↓reduceIte, ↓gfI_e, ↓pfI_e, ↓gfJ_e, ↓pfJ_e, ↓ltI_e, ↓ltJ_e, ↓cal_ok, ↓rz0, ↓rz1, ↓g33, ↓g45, ↓wK, ↓wO, ↓wB, ↓wL, ↓wS, ↓wP, ↓wQ, ↓wY, ↓wL0, ↓wL1, ↓wL2, ↓r93_95, ↓r93_96, ↓r93_98, ↓r93_99, ↓r93_100, ↓r93_101, ↓r93_106, ↓r93_107, ↓ldw1, ↓ldw2, ↓ldw3, ↓ldw5, ↓ldw6, ↓ldw7, ↓ldw8, ↓ldw9, ↓ldw10, ↓ldw11, ↓ld100, ↓ld101, ↓ld106, ↓ld107, nle_F, nle_T, nlt_F, nlt_T, neq_F, neq_T, nle0_T, nle0_F, nlt0_F, n0lt_T, n0lt_F, n0le_T, n1_eq0, n0_eq0, n0_eq1, n1_eq1, np1, Bool.false_eq_true, gR r2 0 93 7 97 (by decide), ld_w 40 (show ln 97 = 40 from rfl) (show x < 40 by omega), e97, st_w 240 (show ln 96 = 240 from rfl) (show 40 * m + j + x < 240 by omega)]
    · by_cases q : y = x
      · subst q
        rw [wI_at, if_pos ⟨rfl, rfl⟩]
      · rw [wI_at, if_neg (by omega)]; exact a2 y (by omega)) (s := (2, 93, 0, 0, nI m, nI j, nI n, nI 0, M1)) ⟨M1, rfl, fun y hy => absurd hy (by omega), Off.rf⟩
  refine ⟨M2, e1.trans (e2.trans (e3.trans (fnl_out ?_))), a2, (hO1.mo (fun c y q => Or.inl q)).tr (hO2.mo (fun c y q => Or.inr q))⟩
  show bX6_copy_136 93 (nI m) (nI j) (nI n) (nI n) M2 = _
  unfold bX6_copy_136
  simp (disch := first | assumption | omega | decide) only [↓reduceIte, ↓gfI_e, ↓pfI_e, ↓gfJ_e, ↓pfJ_e, ↓ltI_e, ↓ltJ_e, ↓cal_ok, ↓rz0, ↓rz1, ↓g33, ↓g45, ↓wK, ↓wO, ↓wB, ↓wL, ↓wS, ↓wP, ↓wQ, ↓wY, ↓wL0, ↓wL1, ↓wL2, ↓r93_95, ↓r93_96, ↓r93_98, ↓r93_99, ↓r93_100, ↓r93_101, ↓r93_106, ↓r93_107, ↓ldw1, ↓ldw2, ↓ldw3, ↓ldw5, ↓ldw6, ↓ldw7, ↓ldw8, ↓ldw9, ↓ldw10, ↓ldw11, ↓ld100, ↓ld101, ↓ld106, ↓ld107, nle_F, nle_T, nlt_F, nlt_T, neq_F, neq_T, nle0_T, nle0_F, nlt0_F, n0lt_T, n0lt_F, n0le_T, n1_eq0, n0_eq0, n0_eq1, n1_eq1, np1, Bool.false_eq_true]
theorem mone : ((0 : Int32) ≤ -1) = False := by simp
theorem mone2 : ((-1 : Int32) < 0) = True := by simp
theorem op_copy (M : Mm) (h : Rel M) (r i t j n : Int32) : Good Rel (fX5_copy 0 r i t j n M) (fX6_copy 93 r i t j n) := by
  obtain ⟨hRO, hF, hR, hX, T, hV, hC, hW, hK⟩ := id h
  by_cases hr : 0 ≤ r ∧ r < 6
  · have hr2 : 0 ≤ r ∧ r ≤ 5 := (below_in (n := 5) (by decide)).mp hr
    by_cases ht : 0 ≤ t ∧ t < 6
    · have ht2 : 0 ≤ t ∧ t ≤ 5 := (below_in (n := 5) (by decide)).mp ht
      obtain ⟨k, hk, rfl⟩ := i32_lt_nat (n := 6) (by decide) hr.1 hr.2
      obtain ⟨m, hm, rfl⟩ := i32_lt_nat (n := 6) (by decide) ht.1 ht.2
      have c5 : ∀ o, fX5_copy 0 (nI k) i (nI m) j n M = o ↔ (if 0 ≤ n then gfR M 3 0 0 fun v9 => ldR M 12 v9 (nI k) fun v10 => cal (fX2_isMissing v10 M) fun v12 M11 => if v12 = 0 then gfR M11 3 0 0 fun v13 => ldR M11 12 v13 (nI m) fun v14 => cal (fX2_isMissing v14 M11) fun v16 M15 => if v16 = 0 then gfR M15 3 0 0 fun v17 => ldR M15 12 v17 (nI k) fun v18 => cal (fX2_hasRun v18 i n M15) fun v20 M19 => if v20 = 0 then bX5_copy_92 0 M19 else gfR M19 3 0 0 fun v21 => ldR M19 12 v21 (nI m) fun v22 => cal (fX2_hasRun v22 j n M19) fun v24 M23 => if v24 = 0 then bX5_copy_92 0 M23 else gfR M23 3 0 0 fun v25 => ldR M23 12 v25 (nI k) fun v26 => gfR M23 0 v26 0 fun v27 => gfR M23 3 0 0 fun v28 => ldR M23 12 v28 (nI m) fun v29 => gfR M23 0 v29 0 fun v30 => cpA M23 v27 i v30 j n fun M31 => some ((1, M31)) else bX5_copy_55 0 M15 else bX5_copy_55 0 M11 else cal (fX5_refuse 0 5 M) fun v33 M32 => some ((v33, M32))) = o := by
        intro o
        unfold fX5_copy
        rw [isBelow_ok, cal_ok, if_pos hr, if_neg (by decide), isBelow_ok, cal_ok, if_pos ht, if_neg (by decide)]
      have c6 : ∀ M1 o, fX6_copy 93 (nI k) i (nI m) j n M1 = o ↔ fen gX6_copy (if 0 ≤ n then gfR M1 0 93 5 fun v17 => ldI M1 v17 (nI k) fun v18 => if v18 < 0 then bX6_copy_45 93 M1 else gfR M1 0 93 5 fun v19 => ldI M1 v19 (nI m) fun v20 => if 0 ≤ v20 then if i < 0 then bX6_copy_95 93 M1 else if j < 0 then bX6_copy_95 93 M1 else gfR M1 0 93 5 fun v21 => ldI M1 v21 (nI k) fun v22 => if 0 < (lg_cmp (((i : Int32).toInt64) + ((n : Int32).toInt64)) ((v22 : Int32).toInt64)) then bX6_copy_95 93 M1 else gfR M1 0 93 5 fun v23 => ldI M1 v23 (nI m) fun v24 => if (lg_cmp (((j : Int32).toInt64) + ((n : Int32).toInt64)) ((v24 : Int32).toInt64)) ≤ 0 then some (.inl (1, 93, (nI k), i, (nI m), j, n, 0, M1)) else bX6_copy_95 93 M1 else bX6_copy_45 93 M1 else cal (fX6_meets 93 5 M1) fun v26 M25 => some (.inr (v26, M25))) = o := by
        intro M1 o
        unfold fX6_copy bX6_copy_0
        rw [isRow_ok, cal_ok, if_pos hr2, if_neg (by decide), isRow_ok, cal_ok, if_pos ht2, if_neg (by decide)]
      have rk := row_eq (hR k hk)
      have rm := row_eq (hR m hm)
      have ref5 : ∀ f, f < 6 → ∀ v : Int32, v = nI f → fX5_refuse 0 v M = some (-3, refuseM M f) := fun f hf v hv => refuse_ok hRO hv hf
      have ref6 : ∀ f, f < 6 → ∀ v : Int32, v = nI f → fX6_meets 93 v (refuseM M f) = some (-3, meetsM (refuseM M f) f) := fun f hf v hv => meets_ok (M := refuseM M f) hRO hv hf
      by_cases hn : 0 ≤ n
      · by_cases z : M.1 95 k = -1 ∨ M.1 95 m = -1
        · refine ⟨-3, refuseM M 1, meetsM (refuseM M 1) 1, ?_, ?_, rel_refuse h 1⟩
          · rw [c5, if_pos hn]
            unfold bX5_copy_55
            have e := ref5 1 (by decide) 1 rfl
            by_cases z1 : M.1 95 k = -1
            · simp (disch := first | assumption | omega | decide) only [↓reduceIte, ↓gfI_e, ↓pfI_e, ↓gfJ_e, ↓pfJ_e, ↓ltI_e, ↓ltJ_e, ↓cal_ok, ↓rz0, ↓rz1, ↓g33, ↓g45, ↓wK, ↓wO, ↓wB, ↓wL, ↓wS, ↓wP, ↓wQ, ↓wY, ↓wL0, ↓wL1, ↓wL2, ↓r93_95, ↓r93_96, ↓r93_98, ↓r93_99, ↓r93_100, ↓r93_101, ↓r93_106, ↓r93_107, ↓ldw1, ↓ldw2, ↓ldw3, ↓ldw5, ↓ldw6, ↓ldw7, ↓ldw8, ↓ldw9, ↓ldw10, ↓ldw11, ↓ld100, ↓ld101, ↓ld106, ↓ld107, nle_F, nle_T, nlt_F, nlt_T, neq_F, neq_T, nle0_T, nle0_F, nlt0_F, n0lt_T, n0lt_F, n0le_T, n1_eq0, n0_eq0, n0_eq1, n1_eq1, np1, Bool.false_eq_true, g1s, ldRow, miss_if, rk, z1, mone, e]
            · have z2 := z.resolve_left z1
              have z3 : (0 ≤ M.1 95 k) = True := by
                rcases hR k hk with q | ⟨s, q1, q2, q3, q4⟩
                · exact absurd q.2 z1
                · rw [q3, n0le_T (by omega)]
              simp (disch := first | assumption | omega | decide) only [↓reduceIte, ↓gfI_e, ↓pfI_e, ↓gfJ_e, ↓pfJ_e, ↓ltI_e, ↓ltJ_e, ↓cal_ok, ↓rz0, ↓rz1, ↓g33, ↓g45, ↓wK, ↓wO, ↓wB, ↓wL, ↓wS, ↓wP, ↓wQ, ↓wY, ↓wL0, ↓wL1, ↓wL2, ↓r93_95, ↓r93_96, ↓r93_98, ↓r93_99, ↓r93_100, ↓r93_101, ↓r93_106, ↓r93_107, ↓ldw1, ↓ldw2, ↓ldw3, ↓ldw5, ↓ldw6, ↓ldw7, ↓ldw8, ↓ldw9, ↓ldw10, ↓ldw11, ↓ld100, ↓ld101, ↓ld106, ↓ld107, nle_F, nle_T, nlt_F, nlt_T, neq_F, neq_T, nle0_T, nle0_F, nlt0_F, n0lt_T, n0lt_F, n0le_T, n1_eq0, n0_eq0, n0_eq1, n1_eq1, np1, Bool.false_eq_true, g1s, ldRow, miss_if, rk, rm, z3, z2, mone, e]
          · show fX6_copy 93 (nI k) i (nI m) j n (refuseM M 1) = _
            have r1 : RO (refuseM M 1) := hRO
            have ek : (refuseM M 1).1 95 k = M.1 95 k := rfl
            have em : (refuseM M 1).1 95 m = M.1 95 m := rfl
            rw [c6, if_pos hn]
            unfold bX6_copy_45
            have e := ref6 1 (by decide) 1 rfl
            by_cases z1 : M.1 95 k = -1
            · simp (disch := first | assumption | omega | decide) only [↓reduceIte, ↓gfI_e, ↓pfI_e, ↓gfJ_e, ↓pfJ_e, ↓ltI_e, ↓ltJ_e, ↓cal_ok, ↓rz0, ↓rz1, ↓g33, ↓g45, ↓wK, ↓wO, ↓wB, ↓wL, ↓wS, ↓wP, ↓wQ, ↓wY, ↓wL0, ↓wL1, ↓wL2, ↓r93_95, ↓r93_96, ↓r93_98, ↓r93_99, ↓r93_100, ↓r93_101, ↓r93_106, ↓r93_107, ↓ldw1, ↓ldw2, ↓ldw3, ↓ldw5, ↓ldw6, ↓ldw7, ↓ldw8, ↓ldw9, ↓ldw10, ↓ldw11, ↓ld100, ↓ld101, ↓ld106, ↓ld107, nle_F, nle_T, nlt_F, nlt_T, neq_F, neq_T, nle0_T, nle0_F, nlt0_F, n0lt_T, n0lt_F, n0le_T, n1_eq0, n0_eq0, n0_eq1, n1_eq1, np1, Bool.false_eq_true, ld95, ek, z1, mone2, e]
              rfl
            · have z2 := z.resolve_left z1
              have z3 : (M.1 95 k < 0) = False := by
                rcases hR k hk with q | ⟨s, q1, q2, q3, q4⟩
                · exact absurd q.2 z1
                · rw [q3, nlt0_F (by omega)]
              simp (disch := first | assumption | omega | decide) only [↓reduceIte, ↓gfI_e, ↓pfI_e, ↓gfJ_e, ↓pfJ_e, ↓ltI_e, ↓ltJ_e, ↓cal_ok, ↓rz0, ↓rz1, ↓g33, ↓g45, ↓wK, ↓wO, ↓wB, ↓wL, ↓wS, ↓wP, ↓wQ, ↓wY, ↓wL0, ↓wL1, ↓wL2, ↓r93_95, ↓r93_96, ↓r93_98, ↓r93_99, ↓r93_100, ↓r93_101, ↓r93_106, ↓r93_107, ↓ldw1, ↓ldw2, ↓ldw3, ↓ldw5, ↓ldw6, ↓ldw7, ↓ldw8, ↓ldw9, ↓ldw10, ↓ldw11, ↓ld100, ↓ld101, ↓ld106, ↓ld107, nle_F, nle_T, nlt_F, nlt_T, neq_F, neq_T, nle0_T, nle0_F, nlt0_F, n0lt_T, n0lt_F, n0le_T, n1_eq0, n0_eq0, n0_eq1, n1_eq1, np1, Bool.false_eq_true, ld95, ek, em, z3, z2, mone, e]
              rfl
        · obtain ⟨s, hs, q1, q2, q3⟩ := (hR k hk).resolve_left (fun q => z (Or.inl q.2))
          obtain ⟨s', hs', p1, p2, p3⟩ := (hR m hm).resolve_left (fun q => z (Or.inr q.2))
          have hk1 := hasRun_ok (i := i) q1 hs hn
          have hm1 := hasRun_ok (i := j) p1 hs' hn
          by_cases g : RunOk i n s ∧ RunOk j n s'
          · obtain ⟨g1, g2⟩ := g
            obtain ⟨i', hib0, ei⟩ := i32_lt_nat (v := i) (n := 2 ^ 31 - 1) (by decide) g1.1 (by
              rw [Int32.lt_iff_toInt_lt, nI_toInt (by decide)]
              have := g1.2
              have hn0 : (0 : Int) ≤ n.toInt := by simpa using Int32.le_iff_toInt_le.mp hn
              omega)
            obtain ⟨j', hjb0, ej⟩ := i32_lt_nat (v := j) (n := 2 ^ 31 - 1) (by decide) g2.1 (by
              rw [Int32.lt_iff_toInt_lt, nI_toInt (by decide)]
              have := g2.2
              have hn0 : (0 : Int) ≤ n.toInt := by simpa using Int32.le_iff_toInt_le.mp hn
              omega)
            obtain ⟨en, hnb⟩ := i32_nat hn
            have hn0 : (0 : Int) ≤ n.toInt := by simpa using Int32.le_iff_toInt_le.mp hn
            obtain ⟨n', en, hnb⟩ : ∃ n', n = nI n' ∧ n' < 2 ^ 31 := ⟨_, en, hnb⟩
            have hib : i' < 2 ^ 31 ∧ i' + n' ≤ s := by
              have := g1.2
              rw [ei, en, nI_toInt (by omega), nI_toInt hnb] at this
              omega
            have hjb : j' + n' ≤ s' := by
              have := g2.2
              rw [ej, en, nI_toInt (by omega), nI_toInt hnb] at this
              omega
            have nl1 : ¬ 0 < lg_cmp (i.toInt64 + n.toInt64) (nI s).toInt64 := fun q => (run_le hs).mp (lg_gt.mp q) g1.2
            have nl2 : lg_cmp (j.toInt64 + n.toInt64) (nI s').toInt64 ≤ 0 := lg_le.mpr (fun q => (run_le hs').mp q g2.2)
            have ni : ¬ i < 0 := Int32.not_lt.mpr g1.1
            have nj : ¬ j < 0 := Int32.not_lt.mpr g2.1
            obtain ⟨M1, hM1⟩ : ∃ M1, M1 = wC M (13 + 2 * k + 1) (13 + 2 * m + 1) i' j' n' := ⟨_, rfl⟩
            have r1 : RO M1 := by rw [hM1]; exact hRO
            have o1 : ∀ c, c ≠ 13 + 2 * m + 1 → M1.1 c = M.1 c := fun c hc => by rw [hM1, wC_ne hc]
            have lk := strip_ln.1 k hk
            have lm := strip_ln.1 m hm
            obtain ⟨M2, e2, a2, hO2⟩ := copy6_ok r1 (k := k) (i := i') (m := m) (j := j') (n := n') (s := s) (t := s') hk hm hs hs' hib.2 hjb
            refine ⟨1, M1, M2, ?_, ?_, ?_⟩
            · rw [c5, if_pos hn]
              have ecp : cpA M (13 + 2 * k + 1) i (13 + 2 * m + 1) j n (fun M31 => some ((1 : Int32), M31)) = some (1, M1) := by
                rw [ei, ej, en, cpA_ok (by omega) (by omega) (by omega) (by omega), hM1]
              simp (disch := first | assumption | omega | decide) only [↓reduceIte, ↓gfI_e, ↓pfI_e, ↓gfJ_e, ↓pfJ_e, ↓ltI_e, ↓ltJ_e, ↓cal_ok, ↓rz0, ↓rz1, ↓g33, ↓g45, ↓wK, ↓wO, ↓wB, ↓wL, ↓wS, ↓wP, ↓wQ, ↓wY, ↓wL0, ↓wL1, ↓wL2, ↓r93_95, ↓r93_96, ↓r93_98, ↓r93_99, ↓r93_100, ↓r93_101, ↓r93_106, ↓r93_107, ↓ldw1, ↓ldw2, ↓ldw3, ↓ldw5, ↓ldw6, ↓ldw7, ↓ldw8, ↓ldw9, ↓ldw10, ↓ldw11, ↓ld100, ↓ld101, ↓ld106, ↓ld107, nle_F, nle_T, nlt_F, nlt_T, neq_F, neq_T, nle0_T, nle0_F, nlt0_F, n0lt_T, n0lt_F, n0le_T, n1_eq0, n0_eq0, n0_eq1, n1_eq1, np1, Bool.false_eq_true, g1s, ldRow, miss_if, q1, p1, hk1.1 g1, hm1.1 g2, gStrip, ecp]
            · show fX6_copy 93 (nI k) i (nI m) j n M1 = _
              have ek : M1.1 95 k = nI s := by rw [o1 _ (by omega)]; exact q2
              have em : M1.1 95 m = nI s' := by rw [o1 _ (by omega)]; exact p2
              rw [c6, if_pos hn]
              simp (disch := first | assumption | omega | decide) only [↓reduceIte, ↓gfI_e, ↓pfI_e, ↓gfJ_e, ↓pfJ_e, ↓ltI_e, ↓ltJ_e, ↓cal_ok, ↓rz0, ↓rz1, ↓g33, ↓g45, ↓wK, ↓wO, ↓wB, ↓wL, ↓wS, ↓wP, ↓wQ, ↓wY, ↓wL0, ↓wL1, ↓wL2, ↓r93_95, ↓r93_96, ↓r93_98, ↓r93_99, ↓r93_100, ↓r93_101, ↓r93_106, ↓r93_107, ↓ldw1, ↓ldw2, ↓ldw3, ↓ldw5, ↓ldw6, ↓ldw7, ↓ldw8, ↓ldw9, ↓ldw10, ↓ldw11, ↓ld100, ↓ld101, ↓ld106, ↓ld107, nle_F, nle_T, nlt_F, nlt_T, neq_F, neq_T, nle0_T, nle0_F, nlt0_F, n0lt_T, n0lt_F, n0le_T, n1_eq0, n0_eq0, n0_eq1, n1_eq1, np1, Bool.false_eq_true, ld95, ek, em, ni, nj, nl1, nl2]
              rw [fen_l, ei, ej, en]
              exact e2
            · have o2 : ∀ c y, c ≠ 97 → ¬ (c = 96 ∧ 40 * m + j' ≤ y ∧ y < 40 * m + j' + n') → M2.1 c y = M1.1 c y := fun c y u v => hO2.1 c y (fun w => w.elim u v)
              refine h.row1 hm (hO2.ro r1) (fun c y hi u1 u2 u3 u4 u5 u6 => ?_) ?_ ?_ ?_ (Or.inr ⟨s', hs', ?_, ?_, fun y hy => ?_⟩)
              · rw [o2 _ _ (by unfold imp at hi; omega) (by omega), o1 _ u2]
              · rw [o2 _ _ (by omega) (by omega), o2 _ _ (by omega) (by omega), o1 _ (by omega), o1 _ (by omega)]
                exact hF.2.2.1
              · rw [hO2.2, hM1]; exact hF.2.2.2.1
              · rw [hO2.2, hM1]; exact hF.2.2.2.2
              · rw [o2 _ _ (by omega) (by omega), o1 _ (by omega)]; exact p1
              · rw [o2 _ _ (by omega) (by omega), o1 _ (by omega)]; exact p2
              · rw [o2 _ _ (by omega) (by omega)]
                by_cases w : j' ≤ y ∧ y < j' + n'
                · have := a2 (y - j') (by omega)
                  rw [show 40 * m + j' + (y - j') = 40 * m + y by omega, o1 _ (by omega), Nat.add_assoc] at this
                  rw [this, hM1, wC_at, if_pos ⟨rfl, w.1, w.2⟩, q3 _ (by omega)]
                · rw [o2 _ _ (by omega) (by omega), o1 96 (by omega), hM1, wC_at, if_neg (fun z => w z.2)]
                  exact p3 y hy
          · refine ⟨-3, refuseM M 2, meetsM (refuseM M 2) 2, ?_, ?_, rel_refuse h 2⟩
            · rw [c5, if_pos hn]
              unfold bX5_copy_92
              have e := ref5 2 (by decide) 2 rfl
              by_cases g1 : RunOk i n s
              · have g2 : ¬ RunOk j n s' := fun z => g ⟨g1, z⟩
                simp (disch := first | assumption | omega | decide) only [↓reduceIte, ↓gfI_e, ↓pfI_e, ↓gfJ_e, ↓pfJ_e, ↓ltI_e, ↓ltJ_e, ↓cal_ok, ↓rz0, ↓rz1, ↓g33, ↓g45, ↓wK, ↓wO, ↓wB, ↓wL, ↓wS, ↓wP, ↓wQ, ↓wY, ↓wL0, ↓wL1, ↓wL2, ↓r93_95, ↓r93_96, ↓r93_98, ↓r93_99, ↓r93_100, ↓r93_101, ↓r93_106, ↓r93_107, ↓ldw1, ↓ldw2, ↓ldw3, ↓ldw5, ↓ldw6, ↓ldw7, ↓ldw8, ↓ldw9, ↓ldw10, ↓ldw11, ↓ld100, ↓ld101, ↓ld106, ↓ld107, nle_F, nle_T, nlt_F, nlt_T, neq_F, neq_T, nle0_T, nle0_F, nlt0_F, n0lt_T, n0lt_F, n0le_T, n1_eq0, n0_eq0, n0_eq1, n1_eq1, np1, Bool.false_eq_true, g1s, ldRow, miss_if, q1, p1, hk1.1 g1, hm1.2 g2, e]
              · simp (disch := first | assumption | omega | decide) only [↓reduceIte, ↓gfI_e, ↓pfI_e, ↓gfJ_e, ↓pfJ_e, ↓ltI_e, ↓ltJ_e, ↓cal_ok, ↓rz0, ↓rz1, ↓g33, ↓g45, ↓wK, ↓wO, ↓wB, ↓wL, ↓wS, ↓wP, ↓wQ, ↓wY, ↓wL0, ↓wL1, ↓wL2, ↓r93_95, ↓r93_96, ↓r93_98, ↓r93_99, ↓r93_100, ↓r93_101, ↓r93_106, ↓r93_107, ↓ldw1, ↓ldw2, ↓ldw3, ↓ldw5, ↓ldw6, ↓ldw7, ↓ldw8, ↓ldw9, ↓ldw10, ↓ldw11, ↓ld100, ↓ld101, ↓ld106, ↓ld107, nle_F, nle_T, nlt_F, nlt_T, neq_F, neq_T, nle0_T, nle0_F, nlt0_F, n0lt_T, n0lt_F, n0le_T, n1_eq0, n0_eq0, n0_eq1, n1_eq1, np1, Bool.false_eq_true, g1s, ldRow, miss_if, q1, p1, hk1.2 g1, e]
            · show fX6_copy 93 (nI k) i (nI m) j n (refuseM M 2) = _
              have r1 : RO (refuseM M 2) := hRO
              have ek : (refuseM M 2).1 95 k = nI s := q2
              have em : (refuseM M 2).1 95 m = nI s' := p2
              rw [c6, if_pos hn]
              unfold bX6_copy_95
              have e := ref6 2 (by decide) 2 rfl
              by_cases ni : i < 0
              · simp (disch := first | assumption | omega | decide) only [↓reduceIte, ↓gfI_e, ↓pfI_e, ↓gfJ_e, ↓pfJ_e, ↓ltI_e, ↓ltJ_e, ↓cal_ok, ↓rz0, ↓rz1, ↓g33, ↓g45, ↓wK, ↓wO, ↓wB, ↓wL, ↓wS, ↓wP, ↓wQ, ↓wY, ↓wL0, ↓wL1, ↓wL2, ↓r93_95, ↓r93_96, ↓r93_98, ↓r93_99, ↓r93_100, ↓r93_101, ↓r93_106, ↓r93_107, ↓ldw1, ↓ldw2, ↓ldw3, ↓ldw5, ↓ldw6, ↓ldw7, ↓ldw8, ↓ldw9, ↓ldw10, ↓ldw11, ↓ld100, ↓ld101, ↓ld106, ↓ld107, nle_F, nle_T, nlt_F, nlt_T, neq_F, neq_T, nle0_T, nle0_F, nlt0_F, n0lt_T, n0lt_F, n0le_T, n1_eq0, n0_eq0, n0_eq1, n1_eq1, np1, Bool.false_eq_true, ld95, ek, em, ni, e]
                rfl
              · by_cases nj : j < 0
                · simp (disch := first | assumption | omega | decide) only [↓reduceIte, ↓gfI_e, ↓pfI_e, ↓gfJ_e, ↓pfJ_e, ↓ltI_e, ↓ltJ_e, ↓cal_ok, ↓rz0, ↓rz1, ↓g33, ↓g45, ↓wK, ↓wO, ↓wB, ↓wL, ↓wS, ↓wP, ↓wQ, ↓wY, ↓wL0, ↓wL1, ↓wL2, ↓r93_95, ↓r93_96, ↓r93_98, ↓r93_99, ↓r93_100, ↓r93_101, ↓r93_106, ↓r93_107, ↓ldw1, ↓ldw2, ↓ldw3, ↓ldw5, ↓ldw6, ↓ldw7, ↓ldw8, ↓ldw9, ↓ldw10, ↓ldw11, ↓ld100, ↓ld101, ↓ld106, ↓ld107, nle_F, nle_T, nlt_F, nlt_T, neq_F, neq_T, nle0_T, nle0_F, nlt0_F, n0lt_T, n0lt_F, n0le_T, n1_eq0, n0_eq0, n0_eq1, n1_eq1, np1, Bool.false_eq_true, ld95, ek, em, ni, nj, e]
                  rfl
                · by_cases nl : 0 < lg_cmp (i.toInt64 + n.toInt64) (nI s).toInt64
                  · simp (disch := first | assumption | omega | decide) only [↓reduceIte, ↓gfI_e, ↓pfI_e, ↓gfJ_e, ↓pfJ_e, ↓ltI_e, ↓ltJ_e, ↓cal_ok, ↓rz0, ↓rz1, ↓g33, ↓g45, ↓wK, ↓wO, ↓wB, ↓wL, ↓wS, ↓wP, ↓wQ, ↓wY, ↓wL0, ↓wL1, ↓wL2, ↓r93_95, ↓r93_96, ↓r93_98, ↓r93_99, ↓r93_100, ↓r93_101, ↓r93_106, ↓r93_107, ↓ldw1, ↓ldw2, ↓ldw3, ↓ldw5, ↓ldw6, ↓ldw7, ↓ldw8, ↓ldw9, ↓ldw10, ↓ldw11, ↓ld100, ↓ld101, ↓ld106, ↓ld107, nle_F, nle_T, nlt_F, nlt_T, neq_F, neq_T, nle0_T, nle0_F, nlt0_F, n0lt_T, n0lt_F, n0le_T, n1_eq0, n0_eq0, n0_eq1, n1_eq1, np1, Bool.false_eq_true, ld95, ek, em, ni, nj, nl, e]
                    rfl
                  · by_cases nl2 : lg_cmp (j.toInt64 + n.toInt64) (nI s').toInt64 ≤ 0
                    · refine absurd ⟨⟨Int32.not_lt.mp ni, ?_⟩, ⟨Int32.not_lt.mp nj, ?_⟩⟩ g
                      · exact Classical.byContradiction fun w => nl (lg_gt.mpr ((run_le hs).mpr w))
                      · exact Classical.byContradiction fun w => lg_le.mp nl2 ((run_le hs').mpr w)
                    · simp (disch := first | assumption | omega | decide) only [↓reduceIte, ↓gfI_e, ↓pfI_e, ↓gfJ_e, ↓pfJ_e, ↓ltI_e, ↓ltJ_e, ↓cal_ok, ↓rz0, ↓rz1, ↓g33, ↓g45, ↓wK, ↓wO, ↓wB, ↓wL, ↓wS, ↓wP, ↓wQ, ↓wY, ↓wL0, ↓wL1, ↓wL2, ↓r93_95, ↓r93_96, ↓r93_98, ↓r93_99, ↓r93_100, ↓r93_101, ↓r93_106, ↓r93_107, ↓ldw1, ↓ldw2, ↓ldw3, ↓ldw5, ↓ldw6, ↓ldw7, ↓ldw8, ↓ldw9, ↓ldw10, ↓ldw11, ↓ld100, ↓ld101, ↓ld106, ↓ld107, nle_F, nle_T, nlt_F, nlt_T, neq_F, neq_T, nle0_T, nle0_F, nlt0_F, n0lt_T, n0lt_F, n0le_T, n1_eq0, n0_eq0, n0_eq1, n1_eq1, np1, Bool.false_eq_true, ld95, ek, em, ni, nj, nl, nl2, e]
                      rfl
      · refine ⟨-3, refuseM M 5, meetsM (refuseM M 5) 5, ?_, ?_, rel_refuse h 5⟩
        · rw [c5, if_neg hn, ref5 5 (by decide) 5 rfl, cal_ok]
        · show fX6_copy 93 (nI k) i (nI m) j n (refuseM M 5) = _
          rw [c6, if_neg hn, ref6 5 (by decide) 5 rfl, cal_ok, fen_r]
    · have ht2 : ¬ (0 ≤ t ∧ t ≤ 5) := fun q => ht ((below_in (n := 5) (by decide)).mpr q)
      refine ⟨-1, M, M, ?_, ?_, h⟩
      · unfold fX5_copy bX5_copy_18
        rw [isBelow_ok, cal_ok, if_pos hr, if_neg (by decide), isBelow_ok, cal_ok, if_neg ht, if_pos rfl]
      · show fX6_copy 93 r i t j n M = _
        unfold fX6_copy bX6_copy_0 bX6_copy_14
        rw [isRow_ok, cal_ok, if_pos hr2, if_neg (by decide), isRow_ok, cal_ok, if_neg ht2, if_pos rfl, fen_r]
  · have hr2 : ¬ (0 ≤ r ∧ r ≤ 5) := fun q => hr ((below_in (n := 5) (by decide)).mpr q)
    refine ⟨-1, M, M, ?_, ?_, h⟩
    · unfold fX5_copy bX5_copy_18
      rw [isBelow_ok, cal_ok, if_neg hr, if_pos rfl]
    · show fX6_copy 93 r i t j n M = _
      unfold fX6_copy bX6_copy_0 bX6_copy_14
      rw [isRow_ok, cal_ok, if_neg hr2, if_pos rfl, fen_r]

/-! FAULT, WOOD -/
theorem nar_0 : vp_nar .boolean 0 = 0 := by first | rfl | decide
theorem rel_off {M M1 : Mm} (h : Rel M) (r1 : RO M1) (hs : ∀ c j, c ≠ 4 → ¬ (45 ≤ c ∧ c ≤ 56) → ¬ (c = 93 ∧ 14 ≤ j ∧ j ≤ 23) → ¬ (102 ≤ c ∧ c ≤ 105) → M1.1 c j = M.1 c j) (hL : M1.2.1 = M.2.1) : Rel M1 := by
  obtain ⟨hRO, hF, hR, hX, T, hV, hC, hW, hK⟩ := id h
  refine rel_wood (T := T) (T1 := T) hF hR hX hK r1 ⟨?_, fun c hc => funext fun j => ?_, ?_, ?_, ?_, ?_, ?_⟩ ?_ rfl rfl (fun _ _ => rfl) hV ?_ ?_
  · exact hs _ _ (by omega) (by omega) (by omega) (by omega)
  · exact hs _ _ (by omega) (by omega) (by omega) (by omega)
  · exact hs _ _ (by omega) (by omega) (by omega) (by omega)
  · rw [hL]
  · rw [hL]
  · rw [hL]
  · rw [hL]
  · rw [hs 0 10 (by omega) (by omega) (by omega) (by omega), hs 93 2 (by omega) (by omega) (by omega) (by omega)]; exact hF.2.2.1
  · exact hC.pt (fun c j a b => hs c j (by omega) (by omega) (by omega) (by omega))
  · exact hW.same2 hV (fun c j z => hs c j (by omega) (by omega) (by omega) (by omega))
theorem op_fault (M : Mm) (h : Rel M) (r : Int32) : Good Rel (fX5_fault 0 r M) (fX6_fault 93 r) := by
  obtain ⟨hRO, hF, hR, hX, T, hV, hC, hW, hK⟩ := id h
  by_cases hr : 0 ≤ r ∧ r < 4
  · have hr2 : 0 ≤ r ∧ r ≤ 3 := (below_in (n := 3) (by decide)).mp hr
    obtain ⟨k, hk, rfl⟩ := i32_lt_nat (n := 4) (by decide) hr.1 hr.2
    obtain ⟨s1, s2, s3⟩ := strip_shT k hk
    rcases hX k hk with ⟨z1, z2⟩ | ⟨n, hn, z1, z2, z3⟩
    · refine ⟨-3, refuseM M 1, meetsM (refuseM M 1) 1, ?_, ?_, rel_refuse h 1⟩
      · unfold fX5_fault
        rw [isBelow_ok, cal_ok, if_pos hr, if_neg (by decide), gR hRO 3 0 1 2 (by decide), ldR_ok hRO (25 + 2 * k) (show k < ln 2 from hk) (by decide) rfl s1 (by omega) (by omega), isMissing_ok, cal_ok, z1, if_neg (show ¬ (0 : Int32) ≤ -1 by decide), if_neg (by decide), refuse_ok hRO (v := 1) (f := 1) rfl (by decide), cal_ok]
      · show fX6_fault 93 (nI k) (refuseM M 1) = _
        have z3 : (refuseM M 1).1 98 k = -1 := z2
        unfold fX6_fault
        rw [isText_ok, cal_ok, if_pos hr2, if_neg (by decide), gR (M := refuseM M 1) hRO 0 93 8 98 (by decide), ldI_ok (show k < ln 98 from hk) (by decide), z3, if_neg (by decide), meets_ok (M := refuseM M 1) hRO (v := 1) (f := 1) rfl (by decide), cal_ok]
    · obtain ⟨M1, e1, c1, r1, o1, l1⟩ := read5 hk hRO hn z1
      have hS : SR k n (M.1 (25 + 2 * k + 1)) M1 := ⟨r1, by rw [o1 _ _ (by omega) (by omega)]; exact z2, fun i hi => by rw [o1 _ _ (by omega) (by omega)]; exact (z3 i hi).symm⟩
      obtain ⟨M2, e2, c2, O2⟩ := read6 hk hn hS
      refine ⟨ansR (rdF (M.1 (25 + 2 * k + 1)) n (n + 1) 0 0 0 T0), M1, M2, ?_, ?_, rel_off h (O2.ro r1) (fun c j a b d e => ?_) ?_⟩
      · unfold fX5_fault
        rw [isBelow_ok, cal_ok, if_pos hr, if_neg (by decide), gR hRO 3 0 1 2 (by decide), ldR_ok hRO (25 + 2 * k) (show k < ln 2 from hk) (by decide) rfl s1 (by omega) (by omega), isMissing_ok, cal_ok, z1, if_pos (nI_pos' (by omega)), if_pos rfl, gR hRO 10 0 5 4 (by decide), gR hRO 3 0 1 2 (by decide), ldR_ok hRO (25 + 2 * k) (show k < ln 2 from hk) (by decide) rfl s1 (by omega) (by omega), g45 hRO, e1, cal_ok]
      · show fX6_fault 93 (nI k) M1 = _
        unfold fX6_fault
        rw [isText_ok, cal_ok, if_pos hr2, if_neg (by decide), r93_98 r1, ld_w 4 (show ln 98 = 4 from rfl) hk (by decide), hS.2.1, if_pos (nI_pos' (by omega)), e2, cal_ok]
      · rw [O2.1 c j (fun z => by unfold PR6 at z; omega), o1 c j a b]
      · rw [O2.2, l1]
  · have hr2 : ¬ (0 ≤ r ∧ r ≤ 3) := fun q => hr ((below_in (n := 3) (by decide)).mpr q)
    refine ⟨-1, M, M, ?_, ?_, h⟩
    · unfold fX5_fault
      rw [isBelow_ok, cal_ok, if_neg hr, if_pos rfl]
    · show fX6_fault 93 r M = _
      unfold fX6_fault
      rw [isText_ok, cal_ok, if_neg hr2, if_pos rfl]
section
variable {M : Mm} {T : WT}
theorem wood5_go (h : RO M) (hC : CWd 33 T M) : ∃ M1, fnl gX5_wood (1, 0, 0, M) = some (nI (tn T), M1) ∧ (∀ k, k < 3 → M1.1 (57 + 12 * k) 0 = 0) ∧ Off (fun c j => 57 ≤ c ∧ c < 93 ∧ j = 0) M M1 := by
  obtain ⟨st, e1, M1, rfl, x1, O1⟩ := fnl_go (g := gX5_wood) (fun j st => ∃ M1, st = (1, 0, nI j, M1) ∧ (∀ i, i < j → M1.1 (57 + 12 * i) 0 = 0) ∧ Off (fun c j => 57 ≤ c ∧ c < 93 ∧ j = 0) M M1) 3 (fun j st hj hI => by
    obtain ⟨M1, rfl, x1, O1⟩ := hI
    have r1 := O1.ro h
    refine ⟨(1, 0, nI (j + 1), wI M1 (57 + 12 * j) 0 0), ?_, _, rfl, fun i hi => ?_, O1.wI ⟨by omega, by omega, rfl⟩⟩
    · show bX5_wood_66 0 (nI j) M1 = _
      unfold bX5_wood_66
      rw [show (3 : Int32) = nI 3 from rfl, if_neg (show ¬ nI 3 ≤ nI j by rw [nle_F (by omega) (by decide)]; exact id), g3s r1, ldKp r1 hj, pfI_e, np1]
    · by_cases q : i = j
      · rw [q, wI_at, if_pos ⟨rfl, rfl⟩]
      · rw [wI_at, if_neg (by omega)]; exact x1 i (by omega)) (s := (1, 0, 0, M)) ⟨M, rfl, fun i hi => absurd hi (by omega), Off.rf⟩
  have r1 := O1.ro h
  refine ⟨M1, e1.trans (fnl_out ?_), x1, O1⟩
  show bX5_wood_66 0 (nI 3) M1 = _
  unfold bX5_wood_66
  rw [if_pos (show (3 : Int32) ≤ nI 3 by decide), g33 r1, gfI_e, O1.1 33 0 (by omega), hC.n]
theorem wood6_go (h : RO M) (hX : RX T M) (hQ : ∀ m, m < 3 → M.1 105 m = nI (tq T m)) (hT : PT T) (e10 : M.1 93 10 = nI (tn T)) (e11 : M.1 93 11 = nI (tb T)) : ∃ M1, fnl gX6_wood (1, 93, 0, M) = some (nI (tn T), M1) ∧ RWd T M1 ∧ (∀ k, k < 3 → M1.1 108 k = 0) ∧ Off (fun c j => c = 93 ∧ j = 25 ∨ c = 100 ∨ c = 101 ∨ c = 106 ∨ c = 107 ∨ c = 108) M M1 := by
  obtain ⟨t1, t2, t3, t4, t5, t6, t7, t8, t9, t10, t11, t12⟩ := id hT
  obtain ⟨st, e1, M1, rfl, x1, O1⟩ := fnl_go (g := gX6_wood) (fun j st => ∃ M1, st = (1, 93, nI j, M1) ∧ (∀ i, i < j → M1.1 106 i = 0) ∧ Off (fun c j => c = 106) M M1) 39 (fun j st hj hI => by
    obtain ⟨M1, rfl, x1, O1⟩ := hI
    have r1 := O1.ro h
    have es : fX6_set 93 0 (nI j) 0 0 M1 = some ((), wI M1 106 j 0) := set0_ok r1 j (i := 0) rfl (by omega)
    refine ⟨(1, 93, nI (j + 1), wI M1 106 j 0), ?_, _, rfl, fun i hi => ?_, O1.wI rfl⟩
    · show bX6_wood_55 93 (nI j) M1 = _
      unfold bX6_wood_55
      rw [i39, if_neg (show ¬ nI 39 ≤ nI j by rw [nle_F (by omega) (by decide)]; exact id), es, cal_ok, np1]
    · by_cases q : i = j
      · rw [q, wI_at, if_pos ⟨rfl, rfl⟩]
      · rw [wI_at, if_neg (by omega)]; exact x1 i (by omega)) (s := (1, 93, 0, M)) ⟨M, rfl, fun i hi => absurd hi (by omega), Off.rf⟩
  have r1 := O1.ro h
  have s1 : fnl gX6_wood (1, 93, nI 39, M1) = fnl gX6_wood (2, 93, 0, M1) := by
    refine fnl_in ?_
    show bX6_wood_55 93 (nI 39) M1 = _
    unfold bX6_wood_55
    rw [if_pos (show (39 : Int32) ≤ nI 39 by decide)]
  have n1 : M1.1 93 10 = nI (tn T) := by rw [O1.1 _ _ (by omega)]; exact e10
  have b1 : M1.1 93 11 = nI (tb T) := by rw [O1.1 _ _ (by omega)]; exact e11
  obtain ⟨st, e2, M2, rfl, x2, O2⟩ := fnl_go (g := gX6_wood) (fun j st => ∃ M2, st = (2, 93, nI j, M2) ∧ (∀ i, i < j → M2.1 100 i = M1.1 102 i ∧ M2.1 101 i = M1.1 103 i) ∧ Off (fun c j => c = 100 ∨ c = 101) M1 M2) (tn T) (fun j st hj hI => by
    obtain ⟨M2, rfl, x2, O2⟩ := hI
    have r2 := O2.ro r1
    refine ⟨(2, 93, nI (j + 1), wI (wI M2 100 j (M1.1 102 j)) 101 j (M1.1 103 j)), ?_, _, rfl, fun i hi => ?_, (O2.wI (Or.inl rfl)).wI (Or.inr rfl)⟩
    · show bX6_wood_77 93 (nI j) M2 = _
      unfold bX6_wood_77
      rw [gfI_e, O2.1 93 10 (by omega), n1, if_neg (show ¬ nI (tn T) ≤ nI j by rw [nle_F hj (by omega)]; exact id), r93_100 r2, gR r2 0 93 19 102 (by decide), ld_w 8 (show ln 102 = 8 from rfl) (show j < 8 by omega) (by decide), st_w 8 (show ln 100 = 8 from rfl) (show j < 8 by omega) (by decide), r93_101 (r2.wI _ _ _), gR (r2.wI _ _ _) 0 93 20 103 (by decide), ld_w 8 (show ln 103 = 8 from rfl) (show j < 8 by omega) (by decide), st_w 8 (show ln 101 = 8 from rfl) (show j < 8 by omega) (by decide), wI_at, if_neg (show ¬ (103 = 100 ∧ j = j) by omega), O2.1 102 j (by omega), O2.1 103 j (by omega), np1]
    · by_cases q : i = j
      · rw [q, wI_at, if_neg (by omega), wI_at, if_pos ⟨rfl, rfl⟩, wI_at, if_pos ⟨rfl, rfl⟩]
        exact ⟨rfl, rfl⟩
      · rw [wI_at, if_neg (by omega), wI_at, if_neg (by omega), wI_at, if_neg (by omega), wI_at, if_neg (by omega)]
        exact x2 i (by omega)) (s := (2, 93, 0, M1)) ⟨M1, rfl, fun i hi => absurd hi (by omega), Off.rf⟩
  have r2 := O2.ro r1
  have s2 : fnl gX6_wood (2, 93, nI (tn T), M2) = fnl gX6_wood (3, 93, 0, M2) := by
    refine fnl_in ?_
    show bX6_wood_77 93 (nI (tn T)) M2 = _
    unfold bX6_wood_77
    rw [gfI_e, O2.1 93 10 (by omega), n1, if_pos (nI_le (Nat.le_refl _) (by omega))]
  have b2 : M2.1 93 11 = nI (tb T) := by rw [O2.1 _ _ (by omega)]; exact b1
  obtain ⟨st, e3, M3, rfl, x3, O3⟩ := fnl_go (g := gX6_wood) (fun j st => ∃ M3, st = (3, 93, nI j, M3) ∧ (∀ i, i < j → M3.1 106 (32 + i) = M2.1 104 i) ∧ Off (fun c j => c = 106 ∧ 32 ≤ j ∧ j < 36) M2 M3) (tb T) (fun j st hj hI => by
    obtain ⟨M3, rfl, x3, O3⟩ := hI
    have r3 := O3.ro r2
    have es : fX6_set 93 0 32 (nI j) (M2.1 104 j) M3 = some ((), wI M3 106 (32 + j) (M2.1 104 j)) := set0_ok r3 (w := 32) 32 (i := j) rfl (by omega)
    refine ⟨(3, 93, nI (j + 1), wI M3 106 (32 + j) (M2.1 104 j)), ?_, _, rfl, fun i hi => ?_, O3.wI ⟨rfl, by omega, by omega⟩⟩
    · show bX6_wood_117 93 (nI j) M3 = _
      unfold bX6_wood_117
      rw [gfI_e, O3.1 93 11 (by omega), b2, if_neg (show ¬ nI (tb T) ≤ nI j by rw [nle_F hj (by omega)]; exact id), gR r3 0 93 21 104 (by decide), ld_w 4 (show ln 104 = 4 from rfl) (show j < 4 by omega) (by decide), O3.1 104 j (by omega), es, cal_ok, np1]
    · by_cases q : i = j
      · rw [q, wI_at, if_pos ⟨rfl, rfl⟩]
      · rw [wI_at, if_neg (by omega)]; exact x3 i (by omega)) (s := (3, 93, 0, M2)) ⟨M2, rfl, fun i hi => absurd hi (by omega), Off.rf⟩
  have r3 := O3.ro r2
  have s3 : fnl gX6_wood (3, 93, nI (tb T), M3) = fnl gX6_wood (4, 93, 0, M3) := by
    refine fnl_in ?_
    show bX6_wood_117 93 (nI (tb T)) M3 = _
    unfold bX6_wood_117
    rw [gfI_e, O3.1 93 11 (by omega), b2, if_pos (nI_le (Nat.le_refl _) (by omega))]
  obtain ⟨st, e4, M4, rfl, x4, O4⟩ := fnl_go (g := gX6_wood) (fun j st => ∃ M4, st = (4, 93, nI j, M4) ∧ (∀ i, i < j → M4.1 106 (36 + i) = M3.1 105 i) ∧ Off (fun c j => c = 106 ∧ 36 ≤ j ∧ j < 39) M3 M4) 3 (fun j st hj hI => by
    obtain ⟨M4, rfl, x4, O4⟩ := hI
    have r4 := O4.ro r3
    have es : fX6_set 93 0 36 (nI j) (M3.1 105 j) M4 = some ((), wI M4 106 (36 + j) (M3.1 105 j)) := set0_ok r4 (w := 36) 36 (i := j) rfl (by omega)
    refine ⟨(4, 93, nI (j + 1), wI M4 106 (36 + j) (M3.1 105 j)), ?_, _, rfl, fun i hi => ?_, O4.wI ⟨rfl, by omega, by omega⟩⟩
    · show bX6_wood_147 93 (nI j) M4 = _
      unfold bX6_wood_147
      rw [show (3 : Int32) = nI 3 from rfl, if_neg (show ¬ nI 3 ≤ nI j by rw [nle_F (by omega) (by decide)]; exact id), gR r4 0 93 22 105 (by decide), ld_w 3 (show ln 105 = 3 from rfl) hj (by decide), O4.1 105 j (by omega), es, cal_ok, np1]
    · by_cases q : i = j
      · rw [q, wI_at, if_pos ⟨rfl, rfl⟩]
      · rw [wI_at, if_neg (by omega)]; exact x4 i (by omega)) (s := (4, 93, 0, M3)) ⟨M3, rfl, fun i hi => absurd hi (by omega), Off.rf⟩
  have r4 := O4.ro r3
  obtain ⟨M5, hM5⟩ : ∃ M5, M5 = wI (wI M4 93 25 0) 107 0 0 := ⟨_, rfl⟩
  have r5 : RO M5 := by rw [hM5]; exact r4
  have O5 : Off (fun c j => c = 93 ∧ j = 25 ∨ c = 107) M4 M5 := by rw [hM5]; exact (Off.rf.wI (Or.inl ⟨rfl, rfl⟩)).wI (Or.inr rfl)
  have s4 : fnl gX6_wood (4, 93, nI 3, M4) = fnl gX6_wood (5, 93, 0, M5) := by
    refine fnl_in ?_
    show bX6_wood_147 93 (nI 3) M4 = _
    unfold bX6_wood_147
    rw [if_pos (show (3 : Int32) ≤ nI 3 by decide), pfI_e, r93_107 (r4.wI _ _ _), st_0 31 (show ln 107 = 31 from rfl) (by decide) (by decide), ← hM5]
  obtain ⟨st, e6, M6, rfl, x6, O6⟩ := fnl_go (g := gX6_wood) (fun j st => ∃ M6, st = (5, 93, nI j, M6) ∧ (∀ i, i < j → M6.1 108 i = 0) ∧ Off (fun c j => c = 108) M5 M6) 3 (fun j st hj hI => by
    obtain ⟨M6, rfl, x6, O6⟩ := hI
    have r6 := O6.ro r5
    refine ⟨(5, 93, nI (j + 1), wI M6 108 j 0), ?_, _, rfl, fun i hi => ?_, O6.wI rfl⟩
    · show bX6_wood_186 93 (nI j) M6 = _
      unfold bX6_wood_186
      rw [show (3 : Int32) = nI 3 from rfl, if_neg (show ¬ nI 3 ≤ nI j by rw [nle_F (by omega) (by decide)]; exact id), r93_108 r6, nar_0, st_w 3 (show ln 108 = 3 from rfl) hj (by decide), np1]
    · by_cases q : i = j
      · rw [q, wI_at, if_pos ⟨rfl, rfl⟩]
      · rw [wI_at, if_neg (by omega)]; exact x6 i (by omega)) (s := (5, 93, 0, M5)) ⟨M5, rfl, fun i hi => absurd hi (by omega), Off.rf⟩
  have o6 : ∀ c j, ¬ (c = 93 ∧ j = 25) → c ≠ 100 → c ≠ 101 → c ≠ 106 → c ≠ 107 → c ≠ 108 → M6.1 c j = M.1 c j := fun c j a b d e f g => by
    rw [O6.1 c j g, O5.1 c j (by omega), O4.1 c j (by omega), O3.1 c j (by omega), O2.1 c j (by omega), O1.1 c j e]
  have n6 : M6.1 93 10 = nI (tn T) := by rw [o6 _ _ (by omega) (by omega) (by omega) (by omega) (by omega) (by omega)]; exact e10
  have s5 : fnl gX6_wood (5, 93, nI 3, M6) = some (nI (tn T), M6) := by
    refine fnl_out ?_
    show bX6_wood_186 93 (nI 3) M6 = _
    unfold bX6_wood_186
    rw [if_pos (show (3 : Int32) ≤ nI 3 by decide), gfI_e, n6]
  have o64 : ∀ c j, ¬ (c = 93 ∧ j = 25) → c ≠ 107 → c ≠ 108 → M6.1 c j = M4.1 c j := fun c j a b d => by rw [O6.1 c j d, O5.1 c j (by omega)]
  have z106 : ∀ i, i < 32 → M6.1 106 i = 0 := fun i hi => by rw [o64 _ _ (by omega) (by omega) (by omega), O4.1 _ _ (by omega), O3.1 _ _ (by omega), O2.1 _ _ (by omega), x1 i (by omega)]
  refine ⟨M6, e1.trans (s1.trans (e2.trans (s2.trans (e3.trans (s3.trans (e4.trans (s4.trans (e6.trans s5)))))))), ⟨n6, ?_, ?_, fun x hx => ?_, fun x hx => ?_, fun m x hm hx => ?_, fun x hx => ?_, fun i hi => ?_, fun m hm => ?_, fun i hi => ?_⟩, x6, fun c j q => o6 c j (by omega) (by omega) (by omega) (by omega) (by omega) (by omega), ?_⟩
  · rw [o6 _ _ (by omega) (by omega) (by omega) (by omega) (by omega) (by omega)]; exact e11
  · rw [O6.1 _ _ (by omega), hM5, wI_at, if_neg (by omega), wI_at, if_pos ⟨rfl, rfl⟩, t3]; rfl
  · rw [o64 _ _ (by omega) (by omega) (by omega), O4.1 _ _ (by omega), O3.1 _ _ (by omega), (x2 x hx).1, O1.1 _ _ (by omega)]; exact hX.2.2.1 x hx
  · rw [o64 _ _ (by omega) (by omega) (by omega), O4.1 _ _ (by omega), O3.1 _ _ (by omega), (x2 x hx).2, O1.1 _ _ (by omega)]; exact hX.2.2.2.1 x hx
  · rw [z106 _ (by omega), t8 m x hm hx]; rfl
  · rw [z106 _ (by omega), t9 x hx]
  · rw [o64 _ _ (by omega) (by omega) (by omega), O4.1 _ _ (by omega), x3 i hi, O2.1 _ _ (by omega), O1.1 _ _ (by omega)]; exact hX.2.2.2.2 i hi
  · rw [o64 _ _ (by omega) (by omega) (by omega), x4 m hm, O3.1 _ _ (by omega), O2.1 _ _ (by omega), O1.1 _ _ (by omega)]; exact hQ m hm
  · rw [t3] at hi
    rw [show i = 0 by omega, O6.1 _ _ (by omega), hM5, wI_at, if_pos ⟨rfl, rfl⟩, t12]; rfl
  · rw [O6.2, O5.2, O4.2, O3.2, O2.2, O1.2]
end
theorem op_wood (M : Mm) (h : Rel M) (r : Int32) : Good Rel (fX5_wood 0 r M) (fX6_wood 93 r) := by
  obtain ⟨hRO, hF, hR, hX, T, hV, hC, hW, hK⟩ := id h
  by_cases hr : 0 ≤ r ∧ r < 4
  · have hr2 : 0 ≤ r ∧ r ≤ 3 := (below_in (n := 3) (by decide)).mp hr
    obtain ⟨k, hk, rfl⟩ := i32_lt_nat (n := 4) (by decide) hr.1 hr.2
    obtain ⟨s1, s2, s3⟩ := strip_shT k hk
    rcases hX k hk with ⟨z1, z2⟩ | ⟨n, hn, z1, z2, z3⟩
    · refine ⟨-3, refuseM M 1, meetsM (refuseM M 1) 1, ?_, ?_, rel_refuse h 1⟩
      · unfold fX5_wood bX5_wood_0
        rw [isBelow_ok, cal_ok, if_pos hr, if_neg (by decide), gR hRO 3 0 1 2 (by decide), ldR_ok hRO (25 + 2 * k) (show k < ln 2 from hk) (by decide) rfl s1 (by omega) (by omega), isMissing_ok, cal_ok, z1, if_neg (show ¬ (0 : Int32) ≤ -1 by decide), if_neg (by decide), refuse_ok hRO (v := 1) (f := 1) rfl (by decide), cal_ok, fen_r]
      · show fX6_wood 93 (nI k) (refuseM M 1) = _
        have z3 : (refuseM M 1).1 98 k = -1 := z2
        unfold fX6_wood bX6_wood_0
        rw [isText_ok, cal_ok, if_pos hr2, if_neg (by decide), gR (M := refuseM M 1) hRO 0 93 8 98 (by decide), ldI_ok (show k < ln 98 from hk) (by decide), z3, if_neg (by decide), meets_ok (M := refuseM M 1) hRO (v := 1) (f := 1) rfl (by decide), cal_ok, fen_r]
    · obtain ⟨M1, e1, c1, r1, o1, l1⟩ := read5 hk hRO hn z1
      have hok := rd_ok (b := M.1 (25 + 2 * k + 1)) (n + 1) 0 0 0 T0 (JS.z n)
      have h9 := ans_9 hn hok.1
      cases hrd : rdF (M.1 (25 + 2 * k + 1)) n (n + 1) 0 0 0 T0 with
      | inl q =>
        have hS : SR k n (M.1 (25 + 2 * k + 1)) M1 := ⟨r1, by rw [o1 _ _ (by omega) (by omega)]; exact z2, fun i hi => by rw [o1 _ _ (by omega) (by omega)]; exact (z3 i hi).symm⟩
        obtain ⟨M2, e2, c2, O2⟩ := read6 hk hn hS
        rw [hrd] at e1 e2 h9
        have hne : ¬ ansR (.inl q) = -9 := fun z => by
          obtain ⟨T1, e⟩ := h9.mp z
          cases e
        refine ⟨-4, M1, M2, ?_, ?_, rel_off h (O2.ro r1) (fun c j a b d e => ?_) ?_⟩
        · unfold fX5_wood bX5_wood_0
          rw [isBelow_ok, cal_ok, if_pos hr, if_neg (by decide), gR hRO 3 0 1 2 (by decide), ldR_ok hRO (25 + 2 * k) (show k < ln 2 from hk) (by decide) rfl s1 (by omega) (by omega), isMissing_ok, cal_ok, z1, if_pos (nI_pos' (by omega)), if_pos rfl, gR hRO 10 0 5 4 (by decide), gR hRO 3 0 1 2 (by decide), ldR_ok hRO (25 + 2 * k) (show k < ln 2 from hk) (by decide) rfl s1 (by omega) (by omega), g45 hRO, e1, cal_ok, if_neg hne, fen_r]
        · show fX6_wood 93 (nI k) M1 = _
          unfold fX6_wood bX6_wood_0
          rw [isText_ok, cal_ok, if_pos hr2, if_neg (by decide), r93_98 r1, ld_w 4 (show ln 98 = 4 from rfl) hk (by decide), hS.2.1, if_pos (nI_pos' (by omega)), e2, cal_ok, if_neg hne, fen_r]
        · rw [O2.1 c j (fun z => by unfold PR6 at z; omega), o1 c j a b]
        · rw [O2.2, l1]
      | inr T1 =>
        obtain ⟨hT1, h2⟩ := hok.2 T1 hrd
        have hV1 := hT1.vt h2
        obtain ⟨Mb, eb, hCb, Ob⟩ := become_ok r1 w33 w45 (by decide) (c1 T1 hrd) hV1
        have rb := Ob.ro r1
        obtain ⟨Mc, ec, xc, Oc⟩ := wood5_go rb hCb
        have rc := Oc.ro rb
        have oc : ∀ c j, c ≠ 4 → ¬ (33 ≤ c ∧ c ≤ 56) → ¬ (57 ≤ c ∧ c < 93 ∧ j = 0) → Mc.1 c j = M.1 c j := fun c j a b d => by rw [Oc.1 c j d, Ob.1 c j (by omega), o1 c j a (by omega)]
        have hS : SR k n (M.1 (25 + 2 * k + 1)) Mc := ⟨rc, by rw [oc _ _ (by omega) (by omega) (by omega)]; exact z2, fun i hi => by rw [oc _ _ (by omega) (by omega) (by omega)]; exact (z3 i hi).symm⟩
        obtain ⟨Md, ed, cd, Od⟩ := read6 hk hn hS
        obtain ⟨hXd, hQd⟩ := cd T1 hrd
        rw [hrd] at e1 ed
        have e1 : fX0_read 4 (25 + 2 * k) 45 M = some (-9, M1) := e1
        have ed : fX6_faultOf 93 (nI k) Mc = some (-9, Md) := ed
        have rd := Od.ro rc
        obtain ⟨Me, hMe⟩ : ∃ Me, Me = wI (wI Md 93 10 (nI (tn T1))) 93 11 (nI (tb T1)) := ⟨_, rfl⟩
        have re : RO Me := by rw [hMe]; exact rd
        have oe : ∀ c j, ¬ (c = 93 ∧ (j = 10 ∨ j = 11)) → Me.1 c j = Md.1 c j := fun c j a => by rw [hMe, wI_at, if_neg (by omega), wI_at, if_neg (by omega)]
        obtain ⟨Mf, ef, hWf, xf, Of⟩ := wood6_go re (hXd.pt (fun c j z => oe c j (by omega))) (fun m hm => by rw [oe _ _ (by omega)]; exact hQd m hm) hT1 (by rw [hMe, wI_at, if_neg (by omega), wI_at, if_pos ⟨rfl, rfl⟩]) (by rw [hMe, wI_at, if_pos ⟨rfl, rfl⟩])
        have rf := Of.ro re
        have of : ∀ c j, c ≠ 4 → ¬ (33 ≤ c ∧ c ≤ 56) → ¬ (57 ≤ c ∧ c < 93 ∧ j = 0) → ¬ (c = 93 ∧ (j = 10 ∨ j = 11 ∨ 14 ≤ j ∧ j ≤ 25)) → ¬ (100 ≤ c ∧ c ≤ 108) → Mf.1 c j = M.1 c j := fun c j a b d e g => by
          rw [Of.1 c j (by omega), oe c j (by omega), Od.1 c j (fun z => by unfold PR6 at z; omega), oc c j a b d]
        have ofc : ∀ c j, c < 93 → Mf.1 c j = Mc.1 c j := fun c j a => by
          rw [Of.1 c j (by omega), oe c j (by omega), Od.1 c j (fun z => by unfold PR6 at z; omega)]
        have Lf : Mf.2.1 = M.2.1 := by
          rw [Of.2, hMe]
          show Md.2.1 = _
          rw [Od.2, Oc.2, Ob.2, l1]
        refine ⟨nI (tn T1), Mc, Mf, ?_, ?_, rf, ⟨?_, fun f hf => ?_, ?_, ?_, ?_⟩, fun i hi => ?_, fun i hi => ?_, T1, hV1, ?_, hWf, fun i hi => Or.inl ⟨xf i hi, ?_⟩⟩
        · unfold fX5_wood bX5_wood_0
          rw [isBelow_ok, cal_ok, if_pos hr, if_neg (by decide), gR hRO 3 0 1 2 (by decide), ldR_ok hRO (25 + 2 * k) (show k < ln 2 from hk) (by decide) rfl s1 (by omega) (by omega), isMissing_ok, cal_ok, z1, if_pos (nI_pos' (by omega)), if_pos rfl, gR hRO 10 0 5 4 (by decide), gR hRO 3 0 1 2 (by decide), ldR_ok hRO (25 + 2 * k) (show k < ln 2 from hk) (by decide) rfl s1 (by omega) (by omega), g45 hRO, e1, cal_ok, if_pos rfl, g33 r1, g45 r1, eb, cal_ok, fen_l]
          exact ec
        · show fX6_wood 93 (nI k) Mc = _
          unfold fX6_wood bX6_wood_0
          rw [isText_ok, cal_ok, if_pos hr2, if_neg (by decide), r93_98 rc, ld_w 4 (show ln 98 = 4 from rfl) hk (by decide), hS.2.1, if_pos (nI_pos' (by omega)), ed, cal_ok, if_pos rfl, gfI_e, hXd.1, pfI_e, gfI_e, wI_at, if_neg (show ¬ (93 = 93 ∧ 17 = 10) by omega), hXd.2.1, pfI_e, ← hMe, fen_l]
          exact ef
        · rw [of _ _ (by omega) (by omega) (by omega) (by omega) (by omega), of _ _ (by omega) (by omega) (by omega) (by omega) (by omega)]; exact hF.1
        · rw [of _ _ (by omega) (by omega) (by omega) (by omega) (by omega), of _ _ (by omega) (by omega) (by omega) (by omega) (by omega)]; exact hF.2.1 f hf
        · rw [of _ _ (by omega) (by omega) (by omega) (by omega) (by omega), of _ _ (by omega) (by omega) (by omega) (by omega) (by omega)]; exact hF.2.2.1
        · rw [Lf]; exact hF.2.2.2.1
        · rw [Lf]; exact hF.2.2.2.2
        · have s : ∀ c j, (13 ≤ c ∧ c ≤ 32 ∨ c = 95 ∨ c = 96) → Mf.1 c j = M.1 c j := fun c j z => of c j (by omega) (by omega) (by omega) (by omega) (by omega)
          exact (hR i hi).same (s _ _ (by omega)) (s _ _ (by omega)) (funext fun j => s _ _ (by omega)) (fun j _ => s _ _ (by omega))
        · have s : ∀ c j, (13 ≤ c ∧ c ≤ 32 ∨ c = 98 ∨ c = 99) → Mf.1 c j = M.1 c j := fun c j z => of c j (by omega) (by omega) (by omega) (by omega) (by omega)
          exact (hX i hi).same (s _ _ (by omega)) (s _ _ (by omega)) (funext fun j => s _ _ (by omega)) (fun j _ => s _ _ (by omega))
        · exact hCb.pt (fun c j a b => by rw [ofc c j (by omega), Oc.1 c j (by omega)])
        · rw [ofc _ _ (by omega)]; exact xc i hi
  · have hr2 : ¬ (0 ≤ r ∧ r ≤ 3) := fun q => hr ((below_in (n := 3) (by decide)).mpr q)
    refine ⟨-1, M, M, ?_, ?_, h⟩
    · unfold fX5_wood bX5_wood_0
      rw [isBelow_ok, cal_ok, if_neg hr, if_pos rfl, fen_r]
    · show fX6_wood 93 r M = _
      unfold fX6_wood bX6_wood_0
      rw [isText_ok, cal_ok, if_neg hr2, if_pos rfl, fen_r]

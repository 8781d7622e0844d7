/-! KEEP, ON -/
theorem r93_110 {α : Type} {M : Mm} {K : Nat → Option α} (h : RO M) : gfR M 0 93 29 K = K 110 := gR h 0 93 29 110 (by decide)
theorem r93_111 {α : Type} {M : Mm} {K : Nat → Option α} (h : RO M) : gfR M 0 93 30 K = K 111 := gR h 0 93 30 111 (by decide)
theorem r93_112 {α : Type} {M : Mm} {K : Nat → Option α} (h : RO M) : gfR M 0 93 31 K = K 112 := gR h 0 93 31 112 (by decide)
theorem nar_1 : vp_nar .boolean 1 = 1 := by first | rfl | decide
def PKw (k c j : Nat) : Prop := c = 110 ∧ 39 * k ≤ j ∧ j < 39 * k + 39 ∨ c = 111 ∧ 8 * k ≤ j ∧ j < 8 * k + 8 ∨ c = 112 ∧ 31 * k ≤ j ∧ j < 31 * k + 31
theorem i39 : (39 : Int32) = nI 39 := rfl
theorem i31 : (31 : Int32) = nI 31 := rfl
theorem Kp1.pt {T : WT} {k : Nat} {M M1 : Mm} (h1 : ∀ c j, 57 + 12 * k ≤ c → c ≤ 57 + 12 * k + 11 → M1.1 c j = M.1 c j) (h2 : M1.1 108 k = M.1 108 k) (h3 : M1.1 109 k = M.1 109 k) (h4 : ∀ c j, PKw k c j → M1.1 c j = M.1 c j) (hC : Kp1 T M k) : Kp1 T M1 k := by
  unfold Kp1 at hC ⊢
  rw [h2, h1 (57 + 12 * k) 0 (by omega) (by omega)]
  rcases hC with hC | ⟨hC, T2, q1, q2, q3, q4, q5, q6, q7⟩
  · exact Or.inl hC
  · refine Or.inr ⟨hC, T2, q1, q2, q3, q4, q5, q6.pt h1, ?_⟩
    have hn8 := q1.n8
    have hb4 := q1.b4
    have hs := q1.s30
    obtain ⟨w0, w1, w2, w3, w4, w5, w6⟩ := q7
    exact ⟨by rw [h3]; exact w0, fun x hx => by rw [h4 _ _ (by unfold PKw; omega)]; exact w1 x hx, fun m x hm hx => by rw [h4 _ _ (by unfold PKw; omega)]; exact w2 m x hm hx, fun x hx => by rw [h4 _ _ (by unfold PKw; omega)]; exact w3 x hx, fun x hx => by rw [h4 _ _ (by unfold PKw; omega)]; exact w4 x hx, fun x hx => by rw [h4 _ _ (by unfold PKw; omega)]; exact w5 x hx, fun x hx => by rw [h4 _ _ (by unfold PKw; omega)]; exact w6 x hx⟩
section
variable {M : Mm} {T : WT}
theorem keep6_go (h : RO M) {k s : Nat} (hk : k < 3) (hs : s ≤ 30) (h25 : M.1 93 25 = nI s) : ∃ M1, fnl gX6_keep (1, 93, nI k, 0, M) = some (nI s, M1) ∧ (∀ i, i < 39 → M1.1 110 (39 * k + i) = M.1 106 i) ∧ (∀ i, i < 8 → M1.1 111 (8 * k + i) = M.1 101 i) ∧ (∀ i, i ≤ s → M1.1 112 (31 * k + i) = M.1 107 i) ∧ Off (PKw k) M M1 := by
  obtain ⟨st, e1, M1, rfl, x1, O1⟩ := fnl_go (g := gX6_keep) (fun j st => ∃ M1, st = (1, 93, nI k, nI j, M1) ∧ (∀ i, i < j → M1.1 110 (39 * k + i) = M.1 106 i) ∧ Off (fun c j => c = 110 ∧ 39 * k ≤ j ∧ j < 39 * k + 39) M M1) 39 (fun j st hj hI => by
    obtain ⟨M1, rfl, x1, O1⟩ := hI
    have r1 := O1.ro h
    have ev : fX6_v 93 0 (nI j) 0 M1 = some (M1.1 106 j, M1) := v0_ok r1 j (i := 0) rfl (by omega)
    refine ⟨(1, 93, nI k, nI (j + 1), wI M1 110 (39 * k + j) (M.1 106 j)), ?_, _, rfl, fun i hi => ?_, O1.wI (by omega)⟩
    · show bX6_keep_40 93 (nI k) (nI j) M1 = _
      unfold bX6_keep_40
      rw [i39, if_neg (show ¬ nI 39 ≤ nI j by rw [nle_F (by omega) (by omega)]; exact id), r93_110 r1, ev, cal_ok, O1.1 106 j (by omega), nI_mul, nI_pl, st_w 117 (show ln 110 = 117 from rfl) (show 39 * k + j < 117 by omega) (by decide), np1]
    · by_cases q : i = j
      · rw [q, wI_at, if_pos ⟨rfl, rfl⟩]
      · rw [wI_at, if_neg (by omega)]; exact x1 i (by omega)) (s := (1, 93, nI k, 0, M)) ⟨M, rfl, fun i hi => absurd hi (by omega), Off.rf⟩
  have r1 := O1.ro h
  have s1 : fnl gX6_keep (1, 93, nI k, nI 39, M1) = fnl gX6_keep (2, 93, nI k, 0, M1) := by
    refine fnl_in ?_
    show bX6_keep_40 93 (nI k) (nI 39) M1 = _
    unfold bX6_keep_40
    rw [if_pos (show (39 : Int32) ≤ nI 39 by decide)]
  obtain ⟨st, e2, M2, rfl, x2, O2⟩ := fnl_go (g := gX6_keep) (fun j st => ∃ M2, st = (2, 93, nI k, nI j, M2) ∧ (∀ i, i < j → M2.1 111 (8 * k + i) = M1.1 101 i) ∧ Off (fun c j => c = 111 ∧ 8 * k ≤ j ∧ j < 8 * k + 8) M1 M2) 8 (fun j st hj hI => by
    obtain ⟨M2, rfl, x2, O2⟩ := hI
    have r2 := O2.ro r1
    refine ⟨(2, 93, nI k, nI (j + 1), wI M2 111 (8 * k + j) (M1.1 101 j)), ?_, _, rfl, fun i hi => ?_, O2.wI (by omega)⟩
    · show bX6_keep_72 93 (nI k) (nI j) M2 = _
      unfold bX6_keep_72
      rw [L8, if_neg (show ¬ nI 8 ≤ nI j by rw [nle_F (by omega) (by omega)]; exact id), r93_111 r2, r93_101 r2, ld101 (by omega), O2.1 101 j (by omega), nI_mul, nI_pl, st_w 24 (show ln 111 = 24 from rfl) (show 8 * k + j < 24 by omega) (by decide), np1]
    · by_cases q : i = j
      · rw [q, wI_at, if_pos ⟨rfl, rfl⟩]
      · rw [wI_at, if_neg (by omega)]; exact x2 i (by omega)) (s := (2, 93, nI k, 0, M1)) ⟨M1, rfl, fun i hi => absurd hi (by omega), Off.rf⟩
  have r2 := O2.ro r1
  have s2 : fnl gX6_keep (2, 93, nI k, nI 8, M2) = fnl gX6_keep (3, 93, nI k, 0, M2) := by
    refine fnl_in ?_
    show bX6_keep_72 93 (nI k) (nI 8) M2 = _
    unfold bX6_keep_72
    rw [if_pos (show (8 : Int32) ≤ nI 8 by decide)]
  have z2 : M2.1 93 25 = nI s := by rw [O2.1 93 25 (by omega), O1.1 93 25 (by omega)]; exact h25
  obtain ⟨st, e3, M3, rfl, x3, O3⟩ := fnl_go (g := gX6_keep) (fun j st => ∃ M3, st = (3, 93, nI k, nI j, M3) ∧ (∀ i, i < j → M3.1 112 (31 * k + i) = M2.1 107 i) ∧ Off (fun c j => c = 112 ∧ 31 * k ≤ j ∧ j < 31 * k + 31) M2 M3) (s + 1) (fun j st hj hI => by
    obtain ⟨M3, rfl, x3, O3⟩ := hI
    have r3 := O3.ro r2
    have z3 : M3.1 93 25 = nI s := by rw [O3.1 93 25 (by omega)]; exact z2
    refine ⟨(3, 93, nI k, nI (j + 1), wI M3 112 (31 * k + j) (M2.1 107 j)), ?_, _, rfl, fun i hi => ?_, O3.wI (by omega)⟩
    · show bX6_keep_103 93 (nI k) (nI j) M3 = _
      unfold bX6_keep_103
      rw [gfI_e, z3, if_neg (show ¬ nI s < nI j by rw [nlt_F (by omega) (by omega)]; exact id), r93_112 r3, r93_107 r3, ld107 (by omega), O3.1 107 j (by omega), i31, nI_mul, nI_pl, st_w 93 (show ln 112 = 93 from rfl) (show 31 * k + j < 93 by omega) (by decide), np1]
    · by_cases q : i = j
      · rw [q, wI_at, if_pos ⟨rfl, rfl⟩]
      · rw [wI_at, if_neg (by omega)]; exact x3 i (by omega)) (s := (3, 93, nI k, 0, M2)) ⟨M2, rfl, fun i hi => absurd hi (by omega), Off.rf⟩
  have z3 : M3.1 93 25 = nI s := by rw [O3.1 93 25 (by omega)]; exact z2
  refine ⟨M3, (e1.trans (s1.trans (e2.trans (s2.trans e3)))).trans (fnl_out ?_), fun i hi => ?_, fun i hi => ?_, fun i hi => ?_, ((O1.mo (fun c j z => by unfold PKw; omega)).tr (O2.mo (fun c j z => by unfold PKw; omega))).tr (O3.mo (fun c j z => by unfold PKw; omega))⟩
  · show bX6_keep_103 93 (nI k) (nI (s + 1)) M3 = _
    unfold bX6_keep_103
    rw [gfI_e, z3, if_pos (show nI s < nI (s + 1) by rw [nlt_T (by omega) (by omega)]; trivial), gfI_e, z3]
  · rw [O3.1 _ _ (by omega), O2.1 _ _ (by omega)]; exact x1 i hi
  · rw [O3.1 _ _ (by omega), x2 i hi, O1.1 _ _ (by omega)]
  · rw [x3 i (by omega), O2.1 _ _ (by omega), O1.1 _ _ (by omega)]
theorem on6_go (h : RO M) {k s : Nat} (hk : k < 3) (hs : s ≤ 30) (h25 : M.1 93 25 = nI s) : ∃ M1, fnl gX6_on (1, 93, nI k, 0, M) = some (nI s, M1) ∧ (∀ i, i < 39 → M1.1 106 i = M.1 110 (39 * k + i)) ∧ (∀ i, i < 8 → M1.1 101 i = M.1 111 (8 * k + i)) ∧ (∀ i, i ≤ s → M1.1 107 i = M.1 112 (31 * k + i)) ∧ Off (fun c _ => c = 101 ∨ c = 106 ∨ c = 107) M M1 := by
  obtain ⟨st, e1, M1, rfl, x1, O1⟩ := fnl_go (g := gX6_on) (fun j st => ∃ M1, st = (1, 93, nI k, nI j, M1) ∧ (∀ i, i < j → M1.1 106 i = M.1 110 (39 * k + i)) ∧ Off (fun c j => c = 106) M M1) 39 (fun j st hj hI => by
    obtain ⟨M1, rfl, x1, O1⟩ := hI
    have r1 := O1.ro h
    have es : fX6_set 93 0 (nI j) 0 (M.1 110 (39 * k + j)) M1 = some ((), wI M1 106 j (M.1 110 (39 * k + j))) := set0_ok r1 j (i := 0) rfl (by omega)
    refine ⟨(1, 93, nI k, nI (j + 1), wI M1 106 j (M.1 110 (39 * k + j))), ?_, _, rfl, fun i hi => ?_, O1.wI rfl⟩
    · show bX6_on_38 93 (nI k) (nI j) M1 = _
      unfold bX6_on_38
      rw [i39, if_neg (show ¬ nI 39 ≤ nI j by rw [nle_F (by omega) (by omega)]; exact id), r93_110 r1, nI_mul, nI_pl, ld_w 117 (show ln 110 = 117 from rfl) (show 39 * k + j < 117 by omega) (by decide), O1.1 110 _ (by omega), es, cal_ok, np1]
    · by_cases q : i = j
      · rw [q, wI_at, if_pos ⟨rfl, rfl⟩]
      · rw [wI_at, if_neg (by omega)]; exact x1 i (by omega)) (s := (1, 93, nI k, 0, M)) ⟨M, rfl, fun i hi => absurd hi (by omega), Off.rf⟩
  have r1 := O1.ro h
  have s1 : fnl gX6_on (1, 93, nI k, nI 39, M1) = fnl gX6_on (2, 93, nI k, 0, M1) := by
    refine fnl_in ?_
    show bX6_on_38 93 (nI k) (nI 39) M1 = _
    unfold bX6_on_38
    rw [if_pos (show (39 : Int32) ≤ nI 39 by decide)]
  obtain ⟨st, e2, M2, rfl, x2, O2⟩ := fnl_go (g := gX6_on) (fun j st => ∃ M2, st = (2, 93, nI k, nI j, M2) ∧ (∀ i, i < j → M2.1 101 i = M1.1 111 (8 * k + i)) ∧ Off (fun c j => c = 101) M1 M2) 8 (fun j st hj hI => by
    obtain ⟨M2, rfl, x2, O2⟩ := hI
    have r2 := O2.ro r1
    refine ⟨(2, 93, nI k, nI (j + 1), wI M2 101 j (M1.1 111 (8 * k + j))), ?_, _, rfl, fun i hi => ?_, O2.wI rfl⟩
    · show bX6_on_70 93 (nI k) (nI j) M2 = _
      unfold bX6_on_70
      rw [L8, if_neg (show ¬ nI 8 ≤ nI j by rw [nle_F (by omega) (by omega)]; exact id), r93_101 r2, r93_111 r2, nI_mul, nI_pl, ld_w 24 (show ln 111 = 24 from rfl) (show 8 * k + j < 24 by omega) (by decide), O2.1 111 _ (by omega), st_w 8 (show ln 101 = 8 from rfl) hj (by decide), np1]
    · by_cases q : i = j
      · rw [q, wI_at, if_pos ⟨rfl, rfl⟩]
      · rw [wI_at, if_neg (by omega)]; exact x2 i (by omega)) (s := (2, 93, nI k, 0, M1)) ⟨M1, rfl, fun i hi => absurd hi (by omega), Off.rf⟩
  have r2 := O2.ro r1
  have s2 : fnl gX6_on (2, 93, nI k, nI 8, M2) = fnl gX6_on (3, 93, nI k, 0, M2) := by
    refine fnl_in ?_
    show bX6_on_70 93 (nI k) (nI 8) M2 = _
    unfold bX6_on_70
    rw [if_pos (show (8 : Int32) ≤ nI 8 by decide)]
  have z2 : M2.1 93 25 = nI s := by rw [O2.1 93 25 (by omega), O1.1 93 25 (by omega)]; exact h25
  obtain ⟨st, e3, M3, rfl, x3, O3⟩ := fnl_go (g := gX6_on) (fun j st => ∃ M3, st = (3, 93, nI k, nI j, M3) ∧ (∀ i, i < j → M3.1 107 i = M2.1 112 (31 * k + i)) ∧ Off (fun c j => c = 107) M2 M3) (s + 1) (fun j st hj hI => by
    obtain ⟨M3, rfl, x3, O3⟩ := hI
    have r3 := O3.ro r2
    have z3 : M3.1 93 25 = nI s := by rw [O3.1 93 25 (by omega)]; exact z2
    refine ⟨(3, 93, nI k, nI (j + 1), wI M3 107 j (M2.1 112 (31 * k + j))), ?_, _, rfl, fun i hi => ?_, O3.wI rfl⟩
    · show bX6_on_101 93 (nI k) (nI j) M3 = _
      unfold bX6_on_101
      rw [gfI_e, z3, if_neg (show ¬ nI s < nI j by rw [nlt_F (by omega) (by omega)]; exact id), r93_107 r3, r93_112 r3, i31, nI_mul, nI_pl, ld_w 93 (show ln 112 = 93 from rfl) (show 31 * k + j < 93 by omega) (by decide), O3.1 112 _ (by omega), st_w 31 (show ln 107 = 31 from rfl) (show j < 31 by omega) (by decide), np1]
    · by_cases q : i = j
      · rw [q, wI_at, if_pos ⟨rfl, rfl⟩]
      · rw [wI_at, if_neg (by omega)]; exact x3 i (by omega)) (s := (3, 93, nI k, 0, M2)) ⟨M2, rfl, fun i hi => absurd hi (by omega), Off.rf⟩
  have z3 : M3.1 93 25 = nI s := by rw [O3.1 93 25 (by omega)]; exact z2
  refine ⟨M3, (e1.trans (s1.trans (e2.trans (s2.trans e3)))).trans (fnl_out ?_), fun i hi => ?_, fun i hi => ?_, fun i hi => ?_, ((O1.mo (fun c j z => by omega)).tr (O2.mo (fun c j z => by omega))).tr (O3.mo (fun c j z => by omega))⟩
  · show bX6_on_101 93 (nI k) (nI (s + 1)) M3 = _
    unfold bX6_on_101
    rw [gfI_e, z3, if_pos (show nI s < nI (s + 1) by rw [nlt_T (by omega) (by omega)]; trivial), gfI_e, z3]
  · rw [O3.1 _ _ (by omega), O2.1 _ _ (by omega)]; exact x1 i hi
  · rw [O3.1 _ _ (by omega), x2 i hi, O1.1 _ _ (by omega)]
  · rw [x3 i (by omega), O2.1 _ _ (by omega), O1.1 _ _ (by omega)]
end
theorem op_keep (M : Mm) (h : Rel M) (r : Int32) : Good Rel (fX5_keep 0 r M) (fX6_keep 93 r) := by
  obtain ⟨hRO, hF, hR, hX, T, hV, hC, hW, hK⟩ := id h
  have hn8 := hV.n8
  have hb4 := hV.b4
  by_cases hr : 0 ≤ r ∧ r < 3
  · have hr2 : 0 ≤ r ∧ r ≤ 2 := (below_in (n := 2) (by decide)).mp hr
    obtain ⟨k, hk, rfl⟩ := i32_lt_nat (n := 3) (by decide) hr.1 hr.2
    by_cases h0 : tn T = 0
    · refine ⟨-4, M, M, ?_, ?_, h⟩
      · unfold fX5_keep
        rw [isBelow_ok, cal_ok, if_pos hr, if_neg (by decide), g33 hRO, emp1 hC hV h0, cal_ok, if_neg (by decide)]
      · show fX6_keep 93 (nI k) M = _
        unfold fX6_keep bX6_keep_0
        rw [in_ok, cal_ok, if_pos hr2, if_neg (by decide), gfI_e, hW.1, h0, if_pos nI_0, fen_r]
    · have hne : ¬ nI (tn T) = 0 := nI_ne0 (by omega) (by omega)
      obtain ⟨M1, e1, hC1, O1⟩ := become_ok hRO (kp_W hk) w33 (by omega) hC hV
      have r1 := O1.ro hRO
      have o1 : ∀ c j, c < 57 + 12 * k ∨ 57 + 12 * k + 11 < c → M1.1 c j = M.1 c j := fun c j q => O1.1 c j (by omega)
      have hC33 : CWd 33 T M1 := hC.pt (fun c j a b => o1 c j (by omega))
      have hW1 : RWd T M1 := hW.same2 hV (fun c j q => o1 c j (by omega))
      obtain ⟨M2, hM2⟩ : ∃ M2, M2 = wI (wI M1 108 k 1) 109 k (nI (ts T)) := ⟨_, rfl⟩
      have r2 : RO M2 := by rw [hM2]; exact r1
      have o2 : ∀ c j, ¬ (c = 108 ∧ j = k) → ¬ (c = 109 ∧ j = k) → M2.1 c j = M1.1 c j := fun c j a b => by rw [hM2, wI_at, if_neg b, wI_at, if_neg a]
      obtain ⟨M3, e3, x3, y3, z3, O3⟩ := keep6_go r2 (k := k) (s := ts T) hk hV.s30 (by rw [o2 _ _ (by omega) (by omega)]; exact hW1.2.2.1)
      have o3 : ∀ c j, ¬ PKw k c j → ¬ (c = 108 ∧ j = k) → ¬ (c = 109 ∧ j = k) → M3.1 c j = M1.1 c j := fun c j a b d => by rw [O3.1 c j a, o2 c j b d]
      have r3 := O3.ro r2
      have b8 : M3.1 108 k = 1 := by rw [O3.1 _ _ (fun z => by unfold PKw at z; omega), hM2, wI_at, if_neg (by omega), wI_at, if_pos ⟨rfl, rfl⟩]
      have b9 : M3.1 109 k = nI (ts T) := by rw [O3.1 _ _ (fun z => by unfold PKw at z; omega), hM2, wI_at, if_pos ⟨rfl, rfl⟩]
      have q106 : ∀ i, M2.1 106 i = M.1 106 i := fun i => by rw [o2 _ _ (by omega) (by omega), o1 _ _ (by omega)]
      have q101 : ∀ i, M2.1 101 i = M.1 101 i := fun i => by rw [o2 _ _ (by omega) (by omega), o1 _ _ (by omega)]
      have q107 : ∀ i, M2.1 107 i = M.1 107 i := fun i => by rw [o2 _ _ (by omega) (by omega), o1 _ _ (by omega)]
      have L3 : M3.2.1 = M.2.1 := by rw [O3.2, hM2]; show M1.2.1 = _; rw [O1.2]
      refine ⟨nI (ts T), M1, M3, ?_, ?_, ⟨r3, ⟨?_, fun f hf => ?_, ?_, ?_, ?_⟩, fun i hi => ?_, fun i hi => ?_, T, hV, ?_, ?_, fun i hi => ?_⟩⟩
      · unfold fX5_keep
        rw [isBelow_ok, cal_ok, if_pos hr, if_neg (by decide), g33 hRO, emp0 hC hV h0, cal_ok, if_pos rfl, g3s hRO, ldKp hRO hk, g33 hRO, e1, cal_ok, g33 r1, gfI_e, hC33.s]
      · show fX6_keep 93 (nI k) M1 = _
        unfold fX6_keep bX6_keep_0
        have r1b : RO (wI M1 108 k 1) := r1
        rw [in_ok, cal_ok, if_pos hr2, if_neg (by decide), gfI_e, hW1.1, if_neg hne, r93_108 r1, nar_1, st_w 3 (show ln 108 = 3 from rfl) hk (by decide), r93_109 r1b, gfI_e, show (wI M1 108 k 1).1 93 25 = nI (ts T) by rw [wI_at, if_neg (by omega)]; exact hW1.2.2.1, st_w 3 (show ln 109 = 3 from rfl) hk (by decide), ← hM2, fen_l]
        exact e3
      · rw [o3 _ _ (fun z => by unfold PKw at z; omega) (by omega) (by omega), o3 _ _ (fun z => by unfold PKw at z; omega) (by omega) (by omega), o1 _ _ (by omega), o1 _ _ (by omega)]; exact hF.1
      · rw [o3 _ _ (fun z => by unfold PKw at z; omega) (by omega) (by omega), o3 _ _ (fun z => by unfold PKw at z; omega) (by omega) (by omega), o1 _ _ (by omega), o1 _ _ (by omega)]; exact hF.2.1 f hf
      · rw [o3 _ _ (fun z => by unfold PKw at z; omega) (by omega) (by omega), o3 _ _ (fun z => by unfold PKw at z; omega) (by omega) (by omega), o1 _ _ (by omega), o1 _ _ (by omega)]; exact hF.2.2.1
      · rw [L3]; exact hF.2.2.2.1
      · rw [L3]; exact hF.2.2.2.2
      · have s : ∀ c j, (13 ≤ c ∧ c ≤ 32 ∨ c = 95 ∨ c = 96) → M3.1 c j = M.1 c j := fun c j z => by rw [o3 _ _ (fun w => by unfold PKw at w; omega) (by omega) (by omega), o1 _ _ (by omega)]
        exact (hR i hi).same (s _ _ (by omega)) (s _ _ (by omega)) (funext fun j => s _ _ (by omega)) (fun j _ => s _ _ (by omega))
      · have s : ∀ c j, (13 ≤ c ∧ c ≤ 32 ∨ c = 98 ∨ c = 99) → M3.1 c j = M.1 c j := fun c j z => by rw [o3 _ _ (fun w => by unfold PKw at w; omega) (by omega) (by omega), o1 _ _ (by omega)]
        exact (hX i hi).same (s _ _ (by omega)) (s _ _ (by omega)) (funext fun j => s _ _ (by omega)) (fun j _ => s _ _ (by omega))
      · exact hC33.pt (fun c j a b => o3 c j (fun w => by unfold PKw at w; omega) (by omega) (by omega))
      · exact hW1.same2 hV (fun c j z => o3 c j (fun w => by unfold PKw at w; omega) (by omega) (by omega))
      · by_cases q : i = k
        · subst q
          refine Or.inr ⟨b8, T, hV, rfl, rfl, fun _ _ => rfl, (hV.pos h0).1, hC1.pt (fun c j a b => o3 c j (fun w => by unfold PKw at w; omega) (by omega) (by omega)), b9, fun x hx => ?_, fun m x hm hx => ?_, fun x hx => ?_, fun x hx => ?_, fun x hx => ?_, fun x hx => ?_⟩
          · rw [y3 x (by omega), q101]; exact hW.2.2.2.2.1 x hx
          · rw [x3 (8 * m + x) (by omega), q106]; exact hW.2.2.2.2.2.1 m x hm hx
          · rw [x3 (24 + x) (by omega), q106]; exact hW.2.2.2.2.2.2.1 x hx
          · rw [x3 (32 + x) (by omega), q106]; exact hW.2.2.2.2.2.2.2.1 x hx
          · rw [x3 (36 + x) (by omega), q106]; exact hW.2.2.2.2.2.2.2.2.1 x hx
          · rw [z3 x hx, q107]; exact hW.2.2.2.2.2.2.2.2.2 x hx
        · refine (hK i hi).pt (fun c j a b => ?_) ?_ ?_ (fun c j z => ?_)
          · rw [o3 c j (fun w => by unfold PKw at w; omega) (by omega) (by omega), o1 c j (by omega)]
          · rw [o3 _ _ (fun w => by unfold PKw at w; omega) (by omega) (by omega), o1 _ _ (by omega)]
          · rw [o3 _ _ (fun w => by unfold PKw at w; omega) (by omega) (by omega), o1 _ _ (by omega)]
          · unfold PKw at z
            rw [o3 c j (fun w => by unfold PKw at w; omega) (by omega) (by omega), o1 c j (by omega)]
  · have hr2 : ¬ (0 ≤ r ∧ r ≤ 2) := fun q => hr ((below_in (n := 2) (by decide)).mpr q)
    refine ⟨-1, M, M, ?_, ?_, h⟩
    · unfold fX5_keep
      rw [isBelow_ok, cal_ok, if_neg hr, if_pos rfl]
    · show fX6_keep 93 r M = _
      unfold fX6_keep bX6_keep_0
      rw [in_ok, cal_ok, if_neg hr2, if_pos rfl, fen_r]
theorem op_on (M : Mm) (h : Rel M) (r : Int32) : Good Rel (fX5_on 0 r M) (fX6_on 93 r) := by
  obtain ⟨hRO, hF, hR, hX, T, hV, hC, hW, hK⟩ := id h
  have hn8 := hV.n8
  have hb4 := hV.b4
  by_cases hr : 0 ≤ r ∧ r < 3
  · have hr2 : 0 ≤ r ∧ r ≤ 2 := (below_in (n := 2) (by decide)).mp hr
    obtain ⟨k, hk, rfl⟩ := i32_lt_nat (n := 3) (by decide) hr.1 hr.2
    rcases hK k hk with ⟨z1, z2⟩ | ⟨z1, T2, q1, q2, q3, q4, q5, q6, q7⟩
    · have er := refuse_ok hRO (v := 1) (f := 1) rfl (by decide)
      have rM : RO (refuseM M 1) := hRO
      have em := meets_ok (M := refuseM M 1) rM (v := 1) (f := 1) rfl (by decide)
      refine ⟨-3, refuseM M 1, meetsM (refuseM M 1) 1, ?_, ?_, rel_refuse h 1⟩
      · unfold fX5_on
        rw [isBelow_ok, cal_ok, if_pos hr, if_neg (by decide), g3s hRO, ldKp hRO hk, isE_ok, cal_ok, z2, if_pos rfl, if_neg (by decide), er, cal_ok]
      · show fX6_on 93 (nI k) (refuseM M 1) = _
        unfold fX6_on bX6_on_0
        rw [in_ok, cal_ok, if_pos hr2, if_neg (by decide), r93_108 rM, ld108 hk, show (refuseM M 1).1 108 k = 0 from z1, if_pos rfl, em, cal_ok, fen_r]
    · have hs2 := q1.s30
      have ht2 : tn T2 ≠ 0 := by omega
      obtain ⟨M1, e1, hC1, O1⟩ := become_ok hRO w33 (kp_W hk) (by omega) q6 q1
      have r1 := O1.ro hRO
      have o1 : ∀ c j, c < 33 ∨ 44 < c → M1.1 c j = M.1 c j := fun c j q => O1.1 c j (by omega)
      have z9 : M1.1 109 k = nI (ts T2) := by rw [o1 _ _ (by omega)]; exact q7.1
      obtain ⟨M2, hM2⟩ : ∃ M2, M2 = wI M1 93 25 (nI (ts T2)) := ⟨_, rfl⟩
      have r2 : RO M2 := by rw [hM2]; exact r1
      have o2 : ∀ c j, ¬ (c = 93 ∧ j = 25) → M2.1 c j = M1.1 c j := fun c j a => by rw [hM2, wI_at, if_neg a]
      obtain ⟨M3, e3, x3, y3, w3, O3⟩ := on6_go r2 (k := k) (s := ts T2) hk hs2 (by rw [hM2, wI_at, if_pos ⟨rfl, rfl⟩])
      have r3 := O3.ro r2
      have o3 : ∀ c j, c ≠ 101 → c ≠ 106 → c ≠ 107 → ¬ (c = 93 ∧ j = 25) → M3.1 c j = M1.1 c j := fun c j a b d e => by rw [O3.1 c j (by omega), o2 c j e]
      have o3b : ∀ c j, c ≠ 101 → c ≠ 106 → c ≠ 107 → ¬ (c = 93 ∧ j = 25) → (c < 33 ∨ 44 < c) → M3.1 c j = M.1 c j := fun c j a b d e f => by rw [o3 c j a b d e, o1 c j f]
      have p110 : ∀ i, M2.1 110 i = M.1 110 i := fun i => by rw [o2 _ _ (by omega), o1 _ _ (by omega)]
      have p111 : ∀ i, M2.1 111 i = M.1 111 i := fun i => by rw [o2 _ _ (by omega), o1 _ _ (by omega)]
      have p112 : ∀ i, M2.1 112 i = M.1 112 i := fun i => by rw [o2 _ _ (by omega), o1 _ _ (by omega)]
      have L3 : M3.2.1 = M.2.1 := by rw [O3.2, hM2]; show M1.2.1 = _; rw [O1.2]
      have hCe : fX4_isEmpty (57 + 12 * k) M = some (0, M) := emp0 q6 q1 ht2
      refine ⟨nI (ts T2), M1, M3, ?_, ?_, ?_⟩
      · unfold fX5_on
        rw [isBelow_ok, cal_ok, if_pos hr, if_neg (by decide), g3s hRO, ldKp hRO hk, hCe, cal_ok, if_pos rfl, g33 hRO, g3s hRO, ldKp hRO hk, e1, cal_ok, g33 r1, gfI_e, hC1.s]
      · show fX6_on 93 (nI k) M1 = _
        unfold fX6_on bX6_on_0
        rw [in_ok, cal_ok, if_pos hr2, if_neg (by decide), r93_108 r1, ld108 hk, o1 108 k (by omega), z1, if_neg (by decide), r93_109 r1, ld109 hk, z9, pfI_e, ← hM2, fen_l]
        exact e3
      · refine rel_wood (T1 := T2) hF hR hX hK r3 ⟨?_, fun c hc => funext fun j => ?_, ?_, ?_, ?_, ?_, ?_⟩ ?_ q2 q3 q4 q1 ?_ ?_
        · exact o3b _ _ (by omega) (by omega) (by omega) (by omega) (by omega)
        · exact o3b _ _ (by omega) (by omega) (by omega) (by omega) (by omega)
        · exact o3b _ _ (by omega) (by omega) (by omega) (by omega) (by omega)
        · rw [L3]
        · rw [L3]
        · rw [L3]
        · rw [L3]
        · rw [o3b _ _ (by omega) (by omega) (by omega) (by omega) (by omega), o3b _ _ (by omega) (by omega) (by omega) (by omega) (by omega)]; exact hF.2.2.1
        · exact hC1.pt (fun c j a b => o3 c j (by omega) (by omega) (by omega) (by omega))
        · obtain ⟨u0, u1, u2, u3, u4, u5, u6⟩ := q7
          refine ⟨?_, ?_, ?_, fun x hx => ?_, fun x hx => ?_, fun m x hm hx => ?_, fun x hx => ?_, fun x hx => ?_, fun x hx => ?_, fun x hx => ?_⟩
          · rw [o3b _ _ (by omega) (by omega) (by omega) (by omega) (by omega), q2]; exact hW.1
          · rw [o3b _ _ (by omega) (by omega) (by omega) (by omega) (by omega), q3]; exact hW.2.1
          · rw [O3.1 _ _ (by omega), hM2, wI_at, if_pos ⟨rfl, rfl⟩]
          · rw [o3b _ _ (by omega) (by omega) (by omega) (by omega) (by omega), q4 x (by omega)]; exact hW.2.2.2.1 x (by omega)
          · rw [y3 x (by omega), p111]; exact u1 x hx
          · rw [x3 (8 * m + x) (by omega), p110]; exact u2 m x hm hx
          · rw [x3 (24 + x) (by omega), p110]; exact u3 x hx
          · rw [x3 (32 + x) (by omega), p110]; exact u4 x hx
          · rw [x3 (36 + x) (by omega), p110]; exact u5 x hx
          · rw [w3 x hx, p112]; exact u6 x hx
  · have hr2 : ¬ (0 ≤ r ∧ r ≤ 2) := fun q => hr ((below_in (n := 2) (by decide)).mpr q)
    refine ⟨-1, M, M, ?_, ?_, h⟩
    · unfold fX5_on
      rw [isBelow_ok, cal_ok, if_neg hr, if_pos rfl]
    · show fX6_on 93 r M = _
      unfold fX6_on bX6_on_0
      rw [in_ok, cal_ok, if_neg hr2, if_pos rfl, fen_r]


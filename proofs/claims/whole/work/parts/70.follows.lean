/-! FOLLOWING HOME, the reference -/
def fwT (T : WT) : FoW := (te T, stS T, knS T, crS T)
section
variable {M : Mm} {T : WT}
theorem ls_eq {C x : Nat} (hC : C < 256) (hx : x < 8) (h1 : C.testBit x = true) (h2 : ∀ y, y < x → C.testBit y = false) : C ≠ 0 ∧ lsN C 0 = x := by
  have h0 : C ≠ 0 := fun z => by rw [z, Nat.zero_testBit] at h1; exact absurd h1 (by decide)
  obtain ⟨l1, l2, l3, -⟩ := ls_all C hC h0
  refine ⟨h0, ?_⟩
  have a := l3 x hx h1
  by_cases q : lsN C 0 < x
  · rw [h2 _ q] at l1
    exact absurd l1 (by decide)
  · omega
theorem near_go (h : RO M) {f : Nat} (hf : f < 4) (hW : RVd f T M) (hV : VW T) {p D S : Nat} (hp : p < tn T) (hD : D < 256) (sg b : Int32) (hb : ∀ x, x < tn T → decide (seenI T x &&& b = 0) = !S.testBit x) : ∀ d x, x + d = tn T → (∀ y, y < x → (difN (te T p) D &&& S).testBit y = false) → fnl gX6_nextHome (2, 93, nI f, nI p, nI D, sg, b, nI x, M) = if difN (te T p) D &&& S = 0 then fnl gX6_nextHome (1, 93, nI f, nI p, nI D, sg + (-1), 0, 0, M) else some (nI (lsN (difN (te T p) D &&& S) 0), M) := by
  have hn8 := hV.1
  have he := hV.2.2.1 p hp
  have he8 : te T p < 256 := pow_lt8 hn8 he
  have hA : difN (te T p) D < 2 ^ tn T := dif_lt he
  have hAS : difN (te T p) D &&& S < 2 ^ tn T := Nat.lt_of_le_of_lt Nat.and_le_left hA
  intro d
  induction d with
  | zero =>
    intro x hx hy
    have hx : x = tn T := hx
    subst hx
    have z : difN (te T p) D &&& S = 0 := set_ext (n := tn T) hAS (Nat.two_pow_pos _) (fun y q => by rw [hy y q, Nat.zero_testBit])
    rw [if_pos z]
    refine fnl_in ?_
    show bX6_nextHome_49 93 (nI f) (nI p) (nI D) sg b (nI (tn T)) M = _
    unfold bX6_nextHome_49
    simp (disch := first | assumption | omega | decide) only [↓reduceIte, ↓gfI_e, ↓pfI_e, ↓gfJ_e, ↓pfJ_e, ↓ltI_e, ↓ltJ_e, ↓cal_ok, ↓rz0, ↓rz1, ↓g33, ↓g45, ↓wK, ↓wO, ↓wB, ↓wL, ↓wS, ↓wP, ↓wQ, ↓wY, ↓wL0, ↓wL1, ↓wL2, ↓r93_95, ↓r93_96, ↓r93_98, ↓r93_99, ↓r93_100, ↓r93_101, ↓r93_106, ↓r93_107, ↓ldw1, ↓ldw2, ↓ldw3, ↓ldw5, ↓ldw6, ↓ldw7, ↓ldw8, ↓ldw9, ↓ldw10, ↓ldw11, ↓ld100, ↓ld101, ↓ld106, ↓ld107, nle_F, nle_T, nlt_F, nlt_T, neq_F, neq_T, nle0_T, nle0_F, nlt0_F, n0lt_T, n0lt_F, n0le_T, n1_eq0, n0_eq0, n0_eq1, n1_eq1, np1, Bool.false_eq_true, hW.n]
  | succ d ih =>
    intro x hx hy
    have hxn : x < tn T := by omega
    have e1 := has_ok (M := M) he8 (show x < 8 by omega)
    have e2 := has_ok (M := M) hD (show x < 8 by omega)
    have es := seen6_ok h hf hW hV hxn
    have hbx := hb x hxn
    have bx : (difN (te T p) D &&& S).testBit x = ((te T p).testBit x && !D.testBit x && S.testBit x) := by rw [Nat.testBit_and, dif_bit (by omega)]
    have on : (difN (te T p) D &&& S).testBit x = false → fnl gX6_nextHome (2, 93, nI f, nI p, nI D, sg, b, nI (x + 1), M) = if difN (te T p) D &&& S = 0 then fnl gX6_nextHome (1, 93, nI f, nI p, nI D, sg + (-1), 0, 0, M) else some (nI (lsN (difN (te T p) D &&& S) 0), M) := fun z => ih (x + 1) (by omega) (fun y q => by
      by_cases r : y = x
      · rw [r]; exact z
      · exact hy y (by omega))
    by_cases q1 : (te T p).testBit x = true
    · rw [q1] at e1
      by_cases q2 : D.testBit x = true
      · rw [q2] at e2
        refine (fnl_in ?_).trans (on (by rw [bx, q2]; simp))
        show bX6_nextHome_49 93 (nI f) (nI p) (nI D) sg b (nI x) M = _
        unfold bX6_nextHome_49 bX6_nextHome_97
        simp (disch := first | assumption | omega | decide) only [↓reduceIte, ↓gfI_e, ↓pfI_e, ↓gfJ_e, ↓pfJ_e, ↓ltI_e, ↓ltJ_e, ↓cal_ok, ↓rz0, ↓rz1, ↓g33, ↓g45, ↓wK, ↓wO, ↓wB, ↓wL, ↓wS, ↓wP, ↓wQ, ↓wY, ↓wL0, ↓wL1, ↓wL2, ↓r93_95, ↓r93_96, ↓r93_98, ↓r93_99, ↓r93_100, ↓r93_101, ↓r93_106, ↓r93_107, ↓ldw1, ↓ldw2, ↓ldw3, ↓ldw5, ↓ldw6, ↓ldw7, ↓ldw8, ↓ldw9, ↓ldw10, ↓ldw11, ↓ld100, ↓ld101, ↓ld106, ↓ld107, nle_F, nle_T, nlt_F, nlt_T, neq_F, neq_T, nle0_T, nle0_F, nlt0_F, n0lt_T, n0lt_F, n0le_T, n1_eq0, n0_eq0, n0_eq1, n1_eq1, np1, Bool.false_eq_true, hW.n, hW.e, e1, e2]
      · rw [show D.testBit x = false by simpa using q2] at e2
        by_cases q3 : S.testBit x = true
        · obtain ⟨z1, z2⟩ := ls_eq (pow_lt8 hn8 hAS) (show x < 8 by omega) (by rw [bx, q1, q3]; simp [q2]) hy
          rw [if_neg z1, z2]
          refine fnl_out ?_
          rw [q3] at hbx
          have hz : ¬ (seenI T x &&& b = 0) := by simpa using hbx
          show bX6_nextHome_49 93 (nI f) (nI p) (nI D) sg b (nI x) M = _
          unfold bX6_nextHome_49
          simp (disch := first | assumption | omega | decide) only [↓reduceIte, ↓gfI_e, ↓pfI_e, ↓gfJ_e, ↓pfJ_e, ↓ltI_e, ↓ltJ_e, ↓cal_ok, ↓rz0, ↓rz1, ↓g33, ↓g45, ↓wK, ↓wO, ↓wB, ↓wL, ↓wS, ↓wP, ↓wQ, ↓wY, ↓wL0, ↓wL1, ↓wL2, ↓r93_95, ↓r93_96, ↓r93_98, ↓r93_99, ↓r93_100, ↓r93_101, ↓r93_106, ↓r93_107, ↓ldw1, ↓ldw2, ↓ldw3, ↓ldw5, ↓ldw6, ↓ldw7, ↓ldw8, ↓ldw9, ↓ldw10, ↓ldw11, ↓ld100, ↓ld101, ↓ld106, ↓ld107, nle_F, nle_T, nlt_F, nlt_T, neq_F, neq_T, nle0_T, nle0_F, nlt0_F, n0lt_T, n0lt_F, n0le_T, n1_eq0, n0_eq0, n0_eq1, n1_eq1, np1, Bool.false_eq_true, hW.n, hW.e, e1, e2, es, hz]
        · refine (fnl_in ?_).trans (on (by rw [bx]; simp [q3]))
          rw [show S.testBit x = false by simpa using q3] at hbx
          have hz : seenI T x &&& b = 0 := by simpa using hbx
          show bX6_nextHome_49 93 (nI f) (nI p) (nI D) sg b (nI x) M = _
          unfold bX6_nextHome_49 bX6_nextHome_97
          simp (disch := first | assumption | omega | decide) only [↓reduceIte, ↓gfI_e, ↓pfI_e, ↓gfJ_e, ↓pfJ_e, ↓ltI_e, ↓ltJ_e, ↓cal_ok, ↓rz0, ↓rz1, ↓g33, ↓g45, ↓wK, ↓wO, ↓wB, ↓wL, ↓wS, ↓wP, ↓wQ, ↓wY, ↓wL0, ↓wL1, ↓wL2, ↓r93_95, ↓r93_96, ↓r93_98, ↓r93_99, ↓r93_100, ↓r93_101, ↓r93_106, ↓r93_107, ↓ldw1, ↓ldw2, ↓ldw3, ↓ldw5, ↓ldw6, ↓ldw7, ↓ldw8, ↓ldw9, ↓ldw10, ↓ldw11, ↓ld100, ↓ld101, ↓ld106, ↓ld107, nle_F, nle_T, nlt_F, nlt_T, neq_F, neq_T, nle0_T, nle0_F, nlt0_F, n0lt_T, n0lt_F, n0le_T, n1_eq0, n0_eq0, n0_eq1, n1_eq1, np1, Bool.false_eq_true, hW.n, hW.e, e1, e2, es, hz]
    · rw [show (te T p).testBit x = false by simpa using q1] at e1
      refine (fnl_in ?_).trans (on (by rw [bx]; simp [q1]))
      show bX6_nextHome_49 93 (nI f) (nI p) (nI D) sg b (nI x) M = _
      unfold bX6_nextHome_49 bX6_nextHome_97
      simp (disch := first | assumption | omega | decide) only [↓reduceIte, ↓gfI_e, ↓pfI_e, ↓gfJ_e, ↓pfJ_e, ↓ltI_e, ↓ltJ_e, ↓cal_ok, ↓rz0, ↓rz1, ↓g33, ↓g45, ↓wK, ↓wO, ↓wB, ↓wL, ↓wS, ↓wP, ↓wQ, ↓wY, ↓wL0, ↓wL1, ↓wL2, ↓r93_95, ↓r93_96, ↓r93_98, ↓r93_99, ↓r93_100, ↓r93_101, ↓r93_106, ↓r93_107, ↓ldw1, ↓ldw2, ↓ldw3, ↓ldw5, ↓ldw6, ↓ldw7, ↓ldw8, ↓ldw9, ↓ldw10, ↓ldw11, ↓ld100, ↓ld101, ↓ld106, ↓ld107, nle_F, nle_T, nlt_F, nlt_T, neq_F, neq_T, nle0_T, nle0_F, nlt0_F, n0lt_T, n0lt_F, n0le_T, n1_eq0, n0_eq0, n0_eq1, n1_eq1, np1, Bool.false_eq_true, hW.n, hW.e, e1]
theorem and1_bit : ∀ A, A < 256 → (A &&& 1 = if A.testBit 0 then 1 else 0) := by decide +kernel
theorem near_ok (h : RO M) {f : Nat} (hf : f < 4) (hW : RVd f T M) (hV : VW T) {p D : Nat} (hp : p < tn T) (hD : D < 256) (hD0 : D.testBit 0 = false) : fX6_nextHome 93 (nI f) (nI p) (nI D) M = some (if nxN (fwT T) D p = 9 then -9 else nI (nxN (fwT T) D p), M) := by
  have hn8 := hV.1
  have he := hV.2.2.1 p hp
  have he8 : te T p < 256 := pow_lt8 hn8 he
  have hA8 : difN (te T p) D < 256 := dif_lt (n := 8) he8
  have e0 := has_ok (M := M) he8 (show 0 < 8 by omega)
  rw [show nI 0 = (0 : Int32) from rfl] at e0
  have a1 := and1_bit _ hA8
  rw [dif_bit (by decide), hD0, Bool.not_false, Bool.and_true] at a1
  unfold fX6_nextHome bX6_nextHome_0
  rw [r93_101 h, ld101 (by omega), hW.e hp, e0, cal_ok]
  unfold nxN
  by_cases q : (te T p).testBit 0 = true
  · rw [q] at a1
    have a1 : difN (te T p) D &&& 1 = 1 := a1
    have ec : chN (difN ((fwT T).1 p) D) (fwT T) = 1 := by
      show chN (difN (te T p) D) (fwT T) = 1
      unfold chN
      rw [if_pos (by omega), a1]
    rw [ec, q, if_neg (by decide), fen_r]
    rfl
  · rw [show (te T p).testBit 0 = false by simpa using q] at a1 ⊢
    have a1 : difN (te T p) D &&& 1 = 0 := a1
    rw [if_pos (show (if false = true then (1 : Int32) else 0) = 0 from rfl), fen_l]
    have sb := fun x => sn_bit (crB T x) (stB T x) (knB T x)
    have hs : ∀ x, x < tn T → decide (seenI T x &&& 2 = 0) = !(stS T).testBit x := fun x hx => by
      rw [seen_num]
      unfold stS seenN
      rw [setN_bit, (sb x).2.1]
      simp [hx]
    have hk : ∀ x, x < tn T → decide (seenI T x &&& 4 = 0) = !(knS T).testBit x := fun x hx => by
      rw [seen_num]
      unfold knS seenN
      rw [setN_bit, (sb x).2.2]
      simp [hx]
    have hc : ∀ x, x < tn T → decide (seenI T x &&& 1 = 0) = !(crS T).testBit x := fun x hx => by
      rw [seen_num]
      unfold crS seenN
      rw [setN_bit, (sb x).1]
      simp [hx]
    have i1 : fnl gX6_nextHome (1, 93, nI f, nI p, nI D, 1, 0, 0, M) = fnl gX6_nextHome (2, 93, nI f, nI p, nI D, 1, 2, nI 0, M) := fnl_in rfl
    have i2 : fnl gX6_nextHome (1, 93, nI f, nI p, nI D, 1 + (-1), 0, 0, M) = fnl gX6_nextHome (2, 93, nI f, nI p, nI D, 0, 4, nI 0, M) := fnl_in rfl
    have i3 : fnl gX6_nextHome (1, 93, nI f, nI p, nI D, 0 + (-1), 0, 0, M) = fnl gX6_nextHome (2, 93, nI f, nI p, nI D, -1, 1, nI 0, M) := fnl_in rfl
    have i4 : fnl gX6_nextHome (1, 93, nI f, nI p, nI D, -1 + (-1), 0, 0, M) = some (-9, M) := fnl_out rfl
    have n9 : ∀ C, C < 256 → C ≠ 0 → (if lsN C 0 = 9 then (-9 : Int32) else nI (lsN C 0)) = nI (lsN C 0) := fun C h1 h2 => if_neg (by have := (ls_all C h1 h2).2.1; omega)
    rw [i1, near_go h hf hW hV hp hD 1 2 hs (tn T) 0 (by omega) (fun y hy => absurd hy (by omega))]
    show _ = some (if (if chN (difN (te T p) D) (fwT T) = 0 then 9 else lsN (chN (difN (te T p) D) (fwT T)) 0) = 9 then -9 else nI (if chN (difN (te T p) D) (fwT T) = 0 then 9 else lsN (chN (difN (te T p) D) (fwT T)) 0), M)
    have ec : chN (difN (te T p) D) (fwT T) = if difN (te T p) D &&& stS T ≠ 0 then difN (te T p) D &&& stS T else if difN (te T p) D &&& knS T ≠ 0 then difN (te T p) D &&& knS T else difN (te T p) D &&& crS T := by
      unfold chN
      rw [if_neg (fun z => z a1)]
      rfl
    rw [ec]
    by_cases c1 : difN (te T p) D &&& stS T = 0
    · rw [if_pos c1, if_neg (show ¬ (difN (te T p) D &&& stS T ≠ 0) from fun z => z c1), i2, near_go h hf hW hV hp hD 0 4 hk (tn T) 0 (by omega) (fun y hy => absurd hy (by omega))]
      by_cases c2 : difN (te T p) D &&& knS T = 0
      · rw [if_pos c2, if_neg (show ¬ (difN (te T p) D &&& knS T ≠ 0) from fun z => z c2), i3, near_go h hf hW hV hp hD (-1) 1 hc (tn T) 0 (by omega) (fun y hy => absurd hy (by omega))]
        by_cases c3 : difN (te T p) D &&& crS T = 0
        · rw [if_pos c3, if_pos c3, if_pos rfl, i4]
        · rw [if_neg c3, if_neg c3, n9 _ (and_lt8 hA8) c3]
      · rw [if_neg c2, if_pos c2, if_neg c2, n9 _ (and_lt8 hA8) c2]
    · rw [if_neg c1, if_pos c1, if_neg c1, n9 _ (and_lt8 hA8) c1]
theorem follows_go {f : Nat} (hf : f < 4) (hV : VW T) : ∀ fu D p m (M : Mm), cntN D + fu = 8 → (p = 0 ∨ D.testBit 0 = false) → p < tn T → D < 256 → RO M → RVd f T M → M.1 93 32 = nI m → 1 ≤ m → m + fu ≤ 8 → ∃ M1, fnl gX6_follows (1, 93, nI f, nI D, nI p, M) = some (if (fL (fwT T) fu D p).2 then 1 else 0, M1) ∧ M1.1 93 32 = nI (m + (fL (fwT T) fu D p).1) ∧ (∀ j, 1 ≤ j → j ≤ (fL (fwT T) fu D p).1 → M1.1 113 (m - 1 + j) = nI (fP (fwT T) j D p)) ∧ Off (fun c j => c = 113 ∧ m ≤ j ∨ c = 93 ∧ j = 32) M M1 := by
  have hn8 := hV.1
  have out0 : ∀ D (M : Mm), fnl gX6_follows (1, 93, nI f, nI D, nI 0, M) = some (1, M) := fun D M => fnl_out rfl
  intro fu
  induction fu with
  | zero =>
    intro D p m M h8 h0 hp hD hRO hW hm h1 hm8
    have hp0 : p = 0 := by
      rcases h0 with z | z
      · exact z
      · rw [cnt_8 D hD (by omega)] at z
        exact absurd z (by decide)
    subst hp0
    refine ⟨M, out0 D M, hm, fun j q1 q2 => ?_, Off.rf⟩
    have q2 : j ≤ 0 := q2
    omega
  | succ fu ih =>
    intro D p m M h8 h0 hp hD hRO hW hm h1 hm8
    by_cases hp0 : p = 0
    · subst hp0
      have e : fL (fwT T) (fu + 1) D 0 = (0, true) := by
        unfold fL
        rw [if_pos rfl]
      rw [e]
      refine ⟨M, out0 D M, hm, fun j q1 q2 => ?_, Off.rf⟩
      have q2 : j ≤ 0 := q2
      omega
    · have hD0 := h0.resolve_left hp0
      have en := near_ok hRO hf hW hV hp hD hD0
      have hpz : ¬ nI p = 0 := nI_ne0 (by omega) (by omega)
      have hp9 : ¬ nI p = -9 := by
        have : ∀ p, p < 8 → ¬ nI p = -9 := by decide
        exact this p (by omega)
      by_cases h9 : nxN (fwT T) D p = 9
      · have e : fL (fwT T) (fu + 1) D p = (0, false) := by
          unfold fL
          rw [if_neg hp0, if_pos h9]
        rw [e]
        rw [if_pos h9] at en
        refine ⟨M, (fnl_in (y := (1, 93, nI f, nI D, -9, M)) ?_).trans (fnl_out rfl), hm, fun j q1 q2 => ?_, Off.rf⟩
        · show bX6_follows_19 93 (nI f) (nI D) (nI p) M = _
          unfold bX6_follows_19
          rw [if_neg hpz, if_neg hp9, en, cal_ok, if_pos rfl]
        · have q2 : j ≤ 0 := q2
          omega
      · obtain ⟨hqn, hqD, -⟩ := nx_in (W := fwT T) hn8 (hV.2.2.1 p hp) h9
        have eL : fL (fwT T) (fu + 1) D p = ((fL (fwT T) fu (D ||| 2 ^ nxN (fwT T) D p) (nxN (fwT T) D p)).1 + 1, (fL (fwT T) fu (D ||| 2 ^ nxN (fwT T) D p) (nxN (fwT T) D p)).2) := by
          show (if p = 0 then _ else _) = _
          rw [if_neg hp0, if_neg h9]
        rw [if_neg h9] at en
        generalize hgq : nxN (fwT T) D p = q at *
        have hq9 : ¬ nI q = -9 := by
          have : ∀ p, p < 8 → ¬ nI p = -9 := by decide
          exact this q (by omega)
        obtain ⟨M2, hM2⟩ : ∃ M2, M2 = wI (wI M 113 m (nI q)) 93 32 (nI (m + 1)) := ⟨_, rfl⟩
        have step : fnl gX6_follows (1, 93, nI f, nI D, nI p, M) = fnl gX6_follows (1, 93, nI f, nI (D ||| 2 ^ q), nI q, M2) := by
          refine fnl_in ?_
          show bX6_follows_19 93 (nI f) (nI D) (nI p) M = _
          unfold bX6_follows_19
          rw [if_neg hpz, if_neg hp9, en, cal_ok, if_neg hq9, shl1 q (by omega), nI_or, ltI_e, gR hRO 0 93 33 113 (by decide), gfI_e, hm, st_w 9 (show ln 113 = 9 from rfl) (show m < 9 by omega) (by decide), gfI_e, wI_at, if_neg (by omega), hm, np1, pfI_e, ← hM2]
        have o2 : ∀ c j, ¬ (c = 113) → ¬ (c = 93 ∧ j = 32) → M2.1 c j = M.1 c j := fun c j z1 z2 => by rw [hM2, wI_at, if_neg (by omega), wI_at, if_neg (by omega)]
        have hW2 : RVd f T M2 := by
          obtain ⟨w0, w1, w3, w4, w5, w6, w7, w8⟩ := hW
          exact ⟨by rw [o2 _ _ (by omega) (by omega)]; exact w0, by rw [o2 _ _ (by omega) (by omega)]; exact w1, fun x hx => by rw [o2 _ _ (by omega) (by omega)]; exact w3 x hx, fun x hx => by rw [o2 _ _ (by omega) (by omega)]; exact w4 x hx, fun m x hm hx => by rw [o2 _ _ (by omega) (by omega)]; exact w5 m x hm hx, fun x hx => by rw [o2 _ _ (by omega) (by omega)]; exact w6 x hx, fun x hx => by rw [o2 _ _ (by omega) (by omega)]; exact w7 x hx, fun x hx => by rw [o2 _ _ (by omega) (by omega)]; exact w8 x hx⟩
        have hc := cnt_or D hD q (by omega) hqD
        obtain ⟨M3, e3, f1, f2, hO⟩ := ih (D ||| 2 ^ q) q (m + 1) M2 (by omega) (by
          by_cases z : q = 0
          · exact Or.inl z
          · refine Or.inr ?_
            rw [Nat.testBit_or, hD0, Nat.testBit_two_pow]
            simp [z]) hqn (Nat.or_lt_two_pow (n := 8) hD (pow_lt (by omega))) (by rw [hM2]; exact hRO) hW2 (by rw [hM2, wI_at, if_pos ⟨rfl, rfl⟩]) (by omega) (by omega)
        rw [eL]
        refine ⟨M3, step.trans e3, ?_, fun j q1 q2 => ?_, ?_⟩
        · rw [f1]
          show nI (m + 1 + (fL (fwT T) fu (D ||| 2 ^ q) q).1) = nI (m + ((fL (fwT T) fu (D ||| 2 ^ q) q).1 + 1))
          rw [show m + 1 + (fL (fwT T) fu (D ||| 2 ^ q) q).1 = m + ((fL (fwT T) fu (D ||| 2 ^ q) q).1 + 1) by omega]
        · have q2 : j ≤ (fL (fwT T) fu (D ||| 2 ^ q) q).1 + 1 := q2
          obtain ⟨j', rfl⟩ : ∃ j', j = j' + 1 := ⟨j - 1, by omega⟩
          show _ = nI (fP (fwT T) j' (D ||| 2 ^ nxN (fwT T) D p) (nxN (fwT T) D p))
          rw [hgq]
          by_cases hj : j' = 0
          · subst hj
            rw [show m - 1 + (0 + 1) = m by omega, hO.1 113 m (by omega), hM2, wI_at, if_neg (by omega), wI_at, if_pos ⟨rfl, rfl⟩]
            rfl
          · have := f2 j' (by omega) (by omega)
            rw [show m + 1 - 1 + j' = m - 1 + (j' + 1) by omega] at this
            exact this
        · refine ((Off.rf.wI (Or.inl ⟨rfl, Nat.le_refl _⟩)).wI (Or.inr ⟨rfl, rfl⟩) : Off (fun c j => c = 113 ∧ m ≤ j ∨ c = 93 ∧ j = 32) M (wI (wI M 113 m (nI q)) 93 32 (nI (m + 1)))).tr ?_
          rw [← hM2]
          exact hO.mo (fun c j z => by omega)
theorem RVd.off {f : Nat} {P : Nat → Nat → Prop} {M1 : Mm} (hW : RVd f T M) (hn : tn T ≤ 8) (hb : tb T ≤ 4) (hO : ∀ c j, ¬ P c j → M1.1 c j = M.1 c j) (hP : ∀ c j, (c = 93 ∧ (j = 10 ∨ j = 11) ∨ c = 100 ∨ c = 101 ∨ c = 106 ∧ 39 * f ≤ j ∧ j < 39 * f + 39) → ¬ P c j) : RVd f T M1 := by
  obtain ⟨w0, w1, w3, w4, w5, w6, w7, w8⟩ := hW
  exact ⟨by rw [hO _ _ (hP _ _ (by omega))]; exact w0, by rw [hO _ _ (hP _ _ (by omega))]; exact w1, fun x hx => by rw [hO _ _ (hP _ _ (by omega))]; exact w3 x hx, fun x hx => by rw [hO _ _ (hP _ _ (by omega))]; exact w4 x hx, fun m x hm hx => by rw [hO _ _ (hP _ _ (by omega))]; exact w5 m x hm hx, fun x hx => by rw [hO _ _ (hP _ _ (by omega))]; exact w6 x hx, fun x hx => by rw [hO _ _ (hP _ _ (by omega))]; exact w7 x hx, fun x hx => by rw [hO _ _ (hP _ _ (by omega))]; exact w8 x hx⟩
theorem follows_ok (h : RO M) {f : Nat} (hf : f < 4) (hW : RVd f T M) (hV : VW T) (hb : tb T ≤ 4) {p : Nat} (hp : p < tn T) : ∃ M1, fX6_follows 93 (nI f) (nI p) M = some (if (foL (fwT T) p).2 then 1 else 0, M1) ∧ M1.1 93 32 = nI ((foL (fwT T) p).1 + 1) ∧ (∀ j, j ≤ (foL (fwT T) p).1 → M1.1 113 j = nI (foP (fwT T) p j)) ∧ Off (fun c j => c = 113 ∨ c = 93 ∧ j = 32) M M1 := by
  have hn8 := hV.1
  obtain ⟨M2, hM2⟩ : ∃ M2, M2 = wI (wI M 93 32 1) 113 0 (nI p) := ⟨_, rfl⟩
  have r1 : RO (wI M 93 32 1) := h
  have e0 : fX6_follows 93 (nI f) (nI p) M = fnl gX6_follows (1, 93, nI f, nI (2 ^ p), nI p, M2) := by
    unfold fX6_follows bX6_follows_0
    rw [shl1 p (by omega), ltI_e, pfI_e, gR r1 0 93 33 113 (by decide), show stI (wI M 93 32 1) 113 0 (nI p) _ = stI (wI M 93 32 1) 113 (nI 0) (nI p) _ from rfl, st_w 9 (show ln 113 = 9 from rfl) (by decide) (by decide), fen_l, ← hM2]
  have hW2 : RVd f T M2 := hW.off hn8 hb (P := fun c j => c = 113 ∨ c = 93 ∧ j = 32) (fun c j z => by rw [hM2, wI_at, if_neg (by omega), wI_at, if_neg (by omega)]) (fun c j z => by omega)
  obtain ⟨M3, e3, f1, f2, hO⟩ := follows_go hf hV 7 (2 ^ p) p 1 M2 (by rw [cnt_p p (by omega)]) (by
    by_cases z : p = 0
    · exact Or.inl z
    · refine Or.inr ?_
      rw [Nat.testBit_two_pow]
      simp [z]) hp (pow_lt (n := 8) (by omega)) (by rw [hM2]; exact h) hW2 (by rw [hM2, wI_at, if_neg (by omega), wI_at, if_pos ⟨rfl, rfl⟩]; rfl) (Nat.le_refl _) (by omega)
  refine ⟨M3, e0.trans e3, by rw [f1, Nat.add_comm]; rfl, fun j hj => ?_, ?_⟩
  · by_cases q : j = 0
    · subst q
      rw [hO.1 113 0 (by omega), hM2, wI_at, if_pos ⟨rfl, rfl⟩]
      rfl
    · have := f2 j (by omega) hj
      rw [show 1 - 1 + j = j by omega] at this
      exact this
  · refine ((Off.rf.wI (Or.inr ⟨rfl, rfl⟩)).wI (Or.inl rfl) : Off (fun c j => c = 113 ∨ c = 93 ∧ j = 32) M (wI (wI M 93 32 1) 113 0 (nI p))).tr ?_
    rw [← hM2]
    exact hO.mo (fun c j z => by omega)
end

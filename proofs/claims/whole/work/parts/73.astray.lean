/-! BARE, ASTRAY, HELPS -/
theorem sumN_le {f : Nat → Nat} {B : Nat} : ∀ {n : Nat}, (∀ i, i < n → f i ≤ B) → sumN f n ≤ n * B
  | 0, _ => by show 0 ≤ _; omega
  | n + 1, h => by
    have h1 := sumN_le (n := n) (fun i hi => h i (by omega))
    have h2 := h n (by omega)
    show sumN f n + f n ≤ _
    rw [Nat.add_mul]
    omega
theorem sumN_congr {f g : Nat → Nat} : ∀ {n : Nat}, (∀ i, i < n → f i = g i) → sumN f n = sumN g n
  | 0, _ => rfl
  | n + 1, h => by
    show sumN f n + f n = sumN g n + g n
    rw [sumN_congr (fun i hi => h i (by omega)), h n (by omega)]
theorem all_set : ∀ n, n ≤ 8 → ((1 : Int32) <<< (nI n &&& 31)) - 1 = nI (2 ^ n - 1) ∧ 2 ^ n - 1 < 256 := by decide
section
variable {M : Mm} {a b : Nat} {T : WT}
theorem cr_all : ∀ k, k ≤ tn T → crN T (2 ^ tn T - 1) k = sumN (tm T 0) k := by
  intro k
  induction k with
  | zero => intro _; rfl
  | succ k ih =>
    intro hk
    show crN T (2 ^ tn T - 1) k + _ = sumN (tm T 0) k + tm T 0 k
    rw [ih (by omega), Nat.testBit_two_pow_sub_one, if_pos (decide_eq_true (show k < tn T by omega))]
def crumbsN (T : WT) : Nat := sumN (tm T 0) (tn T)
theorem crumbs_lt (hV : VT T) : crumbsN T < 2 ^ 31 := by
  have := sumN_le (f := tm T 0) (B := 29) (n := tn T) (fun i hi => by have := hV.mk (m := 0) (by decide) hi; omega)
  have := hV.n8
  unfold crumbsN
  have : tn T * 29 ≤ 8 * 29 := Nat.mul_le_mul_right _ hV.n8
  omega
def brB (T : WT) (i : Nat) : Bool := decide (crumbsN (hsT T i) ≠ 0)
theorem bare5_go (hV : VT T) : ∀ d k (M : Mm), k + d = 61 → RO M → CWd 45 (hsT T k) M → ∃ M1, fnl gX5_bare (1, 0, nI k, M) = some (frst (brB T) d k, M1) ∧ Of2 PA M M1 := by
  intro d
  induction d with
  | zero =>
    intro k M hk r hC
    refine ⟨M, fnl_out ?_, Of2.rf r⟩
    show bX5_bare_26 0 (nI k) M = _
    unfold bX5_bare_26
    rw [if_pos (show (60 : Int32) < nI k by rw [show k = 61 by omega]; decide)]
    rfl
  | succ d ih =>
    intro k M hk r hC
    have hVk := hV.hs k
    have e1 : fX4_totalOf 45 0 M = some (nI (crumbsN (hsT T k)), M) := totalOf_ok r w45 hC hVk (m := 0) (by decide)
    have hl := crumbs_lt hVk
    have hlt : ¬ (60 : Int32) < nI k := by rw [show (60 : Int32) = nI 60 from rfl, nlt_F (by omega) (by omega)]; exact id
    by_cases q : crumbsN (hsT T k) = 0
    · have q2 : ¬ brB T k = true := by unfold brB; simpa using q
      refine ⟨M, ?_, Of2.rf r⟩
      rw [show frst (brB T) (d + 1) k = nI k from if_neg q2]
      refine fnl_out ?_
      show bX5_bare_26 0 (nI k) M = _
      unfold bX5_bare_26
      rw [if_neg hlt, g45 r, e1, cal_ok, q, if_pos nI_0]
    · have q2 : brB T k = true := by unfold brB; simpa using q
      obtain ⟨M2, e2, hC2, O2⟩ := pass_ok r w45 hC hVk (n := 1) (by decide)
      rw [hs_1] at hC2
      have e2 : fX4_passHours 45 1 M = some (nI (hsE (hsT T k) 1), M2) := e2
      have r2 := O2.ro r
      obtain ⟨M3, e3, O3⟩ := ih (k + 1) M2 (by omega) r2 hC2
      refine ⟨M3, ?_, ?_⟩
      · rw [show frst (brB T) (d + 1) k = frst (brB T) d (k + 1) from if_pos q2]
        refine (fnl_in ?_).trans e3
        show bX5_bare_26 0 (nI k) M = _
        unfold bX5_bare_26
        rw [if_neg hlt, g45 r, e1, cal_ok, if_neg (nI_ne0 (by omega) (by omega)), g45 r, e2, cal_ok, np1]
      · exact ((O2.of2 r).mo (fun c j z => by unfold PA; omega)).tr O3
theorem bare6_go (hV : VT T) : ∀ d k (M : Mm), k + d = 61 → RO M → RVd 1 (hsT T k) M → ∃ M1, fnl gX6_bare (1, 93, nI k, M) = some (frst (brB T) d k, M1) ∧ Off PB M M1 := by
  intro d
  induction d with
  | zero =>
    intro k M hk r hC
    refine ⟨M, fnl_out ?_, Off.rf⟩
    show bX6_bare_18 93 (nI k) M = _
    unfold bX6_bare_18
    rw [if_pos (show (60 : Int32) < nI k by rw [show k = 61 by omega]; decide)]
    rfl
  | succ d ih =>
    intro k M hk r hC
    have hVk := hV.hs k
    have hs := all_set _ hVk.n8
    have e1 : fX6_crumbsOn 93 1 (nI (2 ^ tn (hsT T k) - 1)) M = some (nI (crumbsN (hsT T k)), M) := by
      have e := crumbs6_ok r (f := 1) (by decide) hC hVk hs.2
      rw [cr_all _ (Nat.le_refl _)] at e
      exact e
    have hl := crumbs_lt hVk
    have hlt : ¬ (60 : Int32) < nI k := by rw [show (60 : Int32) = nI 60 from rfl, nlt_F (by omega) (by omega)]; exact id
    by_cases q : crumbsN (hsT T k) = 0
    · have q2 : ¬ brB T k = true := by unfold brB; simpa using q
      refine ⟨M, ?_, Off.rf⟩
      rw [show frst (brB T) (d + 1) k = nI k from if_neg q2]
      refine fnl_out ?_
      show bX6_bare_18 93 (nI k) M = _
      unfold bX6_bare_18
      rw [if_neg hlt, gfI_e, hC.n, hs.1, e1, cal_ok, q, if_pos nI_0]
    · have q2 : brB T k = true := by unfold brB; simpa using q
      obtain ⟨M2, e2, hC2, O2⟩ := hour6_ok r (f := 1) (by decide) hC hVk
      rw [show hbT (hsT T k) (tb (hsT T k)) = hsT T (k + 1) from hs_1 k] at hC2
      have e2 : fX6_hourOf 93 1 M = some (nI (hbE (hsT T k) (tb (hsT T k))), M2) := e2
      have r2 := O2.ro r
      obtain ⟨M3, e3, O3⟩ := ih (k + 1) M2 (by omega) r2 hC2
      refine ⟨M3, ?_, ?_⟩
      · rw [show frst (brB T) (d + 1) k = frst (brB T) d (k + 1) from if_pos q2]
        refine (fnl_in ?_).trans e3
        show bX6_bare_18 93 (nI k) M = _
        unfold bX6_bare_18
        rw [if_neg hlt, gfI_e, hC.n, hs.1, e1, cal_ok, if_neg (nI_ne0 (by omega) (by omega)), e2, cal_ok, np1]
      · exact (O2.mo (fun c j z => by unfold Pf at z; unfold PB; omega)).tr O3
end
theorem op_bare (M : Mm) (h : Rel M) : Good Rel (fX5_bare 0 M) (fX6_bare 93) := by
  obtain ⟨hRO, hF, hR, hX, T, hV, hC, hW, hK⟩ := id h
  have hn8 := hV.n8
  by_cases h0 : tn T = 0
  · refine ⟨-4, M, M, ?_, ?_, h⟩
    · unfold fX5_bare bX5_bare_0
      rw [g33 hRO, emp1 hC hV h0, cal_ok, if_neg (by decide), fen_r]
    · show fX6_bare 93 M = _
      unfold fX6_bare bX6_bare_0
      rw [gfI_e, hW.1, h0, if_pos nI_0, fen_r]
  · have hne : ¬ nI (tn T) = 0 := nI_ne0 (by omega) (by omega)
    obtain ⟨M1, e1, hC1, O1⟩ := become_ok hRO w45 w33 (by decide) hC hV
    have r1 := O1.ro hRO
    obtain ⟨M2, e2, O2⟩ := bare5_go hV 61 0 M1 rfl r1 hC1
    have r2 := O2.2.2
    have O12 : Of2 PA M M2 := ((O1.of2 hRO).mo (fun c j z => by unfold PA; omega)).tr O2
    have hW2 : RWd T M2 := hW.same2 hV (fun c j q => O12.1 c j (fun z => by unfold PA at z; omega))
    obtain ⟨M3, e3, c3, O3⟩ := copyTo_ok r2 (f := 0) (g := 1) (by decide) (by decide) (by decide)
    have r3 := O3.ro r2
    obtain ⟨M4, e4, O4⟩ := bare6_go hV 61 0 M3 rfl r3 (hW2.v.cp hV c3 O3)
    have e3 : fX6_copyTo 93 0 1 M2 = some ((), M3) := e3
    refine ⟨frst (brB T) 61 0, M2, M4, ?_, ?_, ?_⟩
    · unfold fX5_bare bX5_bare_0
      rw [g33 hRO, emp0 hC hV h0, cal_ok, if_pos rfl, g45 hRO, g33 hRO, e1, cal_ok, fen_l]
      exact e2
    · show fX6_bare 93 M2 = _
      unfold fX6_bare bX6_bare_0
      rw [gfI_e, hW2.1, if_neg hne, e3, cal_ok, fen_l]
      exact e4
    · refine h.ab O12 (O4.ro r3) (fun c j q1 q2 => ?_) (by rw [O4.2, O3.2])
      rw [O4.1 c j q1, O3.1 c j (fun z => q1 (by unfold Pf at z; unfold PB; omega))]
/-! a stone more -/
def wsT (T : WT) (S : Nat) : FoW := (te T, stS T ||| difN S (ofK T 5), knS T, crS T)
def wsB (T : WT) (x : Nat) : Bool := (foL (wsT T (2 ^ x)) (hereN T)).2
section
variable {M : Mm} {a b : Nat} {T : WT}
theorem st_more (hV : VT T) {x : Nat} (hx : x < tn T) : fwT (setm T 1 x (tm T 1 x + 1)) = wsT T (2 ^ x) := by
  have hn8 := hV.n8
  have e1 : stS (setm T 1 x (tm T 1 x + 1)) = stS T ||| difN (2 ^ x) (ofK T 5) := by
    refine set_ext (n := tn T) (setN_lt _ _) (Nat.or_lt_two_pow (setN_lt _ _) (dif_lt (pow_lt hx))) (fun y hy => ?_)
    unfold stS ofK
    rw [Nat.testBit_or, dif_bit (by omega), setN_bit, setN_bit, setN_bit, Nat.testBit_two_pow, (isK_all _ (hV.k5 hy)).1]
    show (decide (y < tn T) && decide (tk T y ≠ 5 ∧ (if (1 = 1 ∧ y = x) then tm T 1 x + 1 else tm T 1 y) ≠ 0)) = _
    unfold stB
    by_cases q : y = x
    · subst q
      by_cases r : tk T y = 5
      · simp [r, hy]
      · simp [r, hy]
    · simp [q, hy, show ¬ x = y from fun z => q z.symm]
  have e2 : knS (setm T 1 x (tm T 1 x + 1)) = knS T := by
    unfold knS
    refine congrArg (fun p => setN p (tn T)) (funext fun y => ?_)
    show decide (tk T y ≠ 5 ∧ tk T y ≠ 2 ∧ ((if (2 = 1 ∧ y = x) then tm T 1 x + 1 else tm T 2 y) ≠ 0 ∨ tk T y = 4)) = _
    rw [if_neg (by omega)]
    rfl
  have e3 : crS (setm T 1 x (tm T 1 x + 1)) = crS T := by
    unfold crS
    refine congrArg (fun p => setN p (tn T)) (funext fun y => ?_)
    show decide (tk T y ≠ 5 ∧ tk T y ≠ 2 ∧ (if (0 = 1 ∧ y = x) then tm T 1 x + 1 else tm T 0 y) ≠ 0) = _
    rw [if_neg (by omega)]
    rfl
  unfold fwT wsT
  rw [e1, e2, e3]
  rfl
theorem vt_vws (hV : VT T) {x v : Nat} (hv : v < 2 ^ 31) : VW (setm T 1 x v) := by
  obtain ⟨h1, h2, h3, h4⟩ := hV.vw
  refine ⟨h1, h2, h3, fun m y hm hy => ?_⟩
  show (if m = 1 ∧ y = x then v else tm T m y) < 2 ^ 31
  by_cases q : m = 1 ∧ y = x
  · rw [if_pos q]; exact hv
  · rw [if_neg q]; exact h4 m y hm hy
theorem stonesWith_ok (hG : SG a T M) {S : Nat} (hS : S < 256) : fX1_stonesWith 6 (nI S) M = some (nI (stS T ||| difN S (ofK T 5)), M) := by
  unfold fX1_stonesWith
  rw [gfI_e, hG.2.2.2.2.2.1, gfI_e, hG.2.2.1, nI_dif hS, nI_or]
theorem hws_ok (h : RO M) (hw : isW a) (hC : CWd a T M) (hV : VT T) (hn : tn T ≠ 0) : ∃ M1, fX1_homeWithStone 6 a M = some (nI (setN (wsB T) (tn T)), M1) ∧ Of2 PA M M1 := by
  have haw := isW_lt hw
  have hn8 := hV.n8
  obtain ⟨M1, e1, g1, O1⟩ := look_ok h hw hC hV
  unfold fX1_homeWithStone bX1_homeWithStone_0
  rw [e1, cal_ok, fen_l]
  have key : ∃ r, fnl gX1_homeWithStone (1, 6, a, 0, 0, M1) = some r ∧ (r.1 = nI (setN (wsB T) (tn T)) ∧ Of2 PA M r.2) := by
    refine fnl_inv (g := gX1_homeWithStone) (fun k s => ∃ M2, s = (1, 6, a, nI (setN (wsB T) k), nI k, M2) ∧ SG a T M2 ∧ CWd a T M2 ∧ Of2 PA M M2) (tn T) _ (fun k s hk hI => ?_) (fun s hI => ?_) 0 (Nat.zero_le _) _ ⟨M1, rfl, g1, hC.pt (fun c j q1 q2 => O1.1 c j (by omega)), O1.mo (fun c j z => by unfold PA; omega)⟩
    · obtain ⟨M2, rfl, g2, hC2, O2⟩ := hI
      left
      have r2 := O2.2.2
      obtain ⟨M3, e3, f1, f2, O3⟩ := follow5_ok (W := wsT T (2 ^ k)) hw hV.n8 (fun x hx => hV.en hx) (here_lt hV hn) r2 g2.1 (fun x hx => hC2.e hx)
      have e3 : fX1_follow 6 (nI (tz T (ts T))) (nI (stS T ||| difN (2 ^ k) (ofK T 5))) (nI (knS T)) (nI (crS T)) M2 = some (if wsB T k then 1 else 0, M3) := e3
      refine ⟨(1, 6, a, nI (setN (wsB T) (k + 1)), nI (k + 1), M3), ?_, _, rfl, g2.off O3, hC2.pt (fun c j q1 q2 => O3.1 c j (by omega)), O2.tr ((O3.of2 r2).mo (fun c j z => by unfold PA; omega))⟩
      show bX1_homeWithStone_9 6 a (nI (setN (wsB T) k)) (nI k) M2 = _
      unfold bX1_homeWithStone_9 bX1_homeWithStone_49
      rw [gfI_e, g2.2.1, if_neg (show ¬ nI (tn T) ≤ nI k by rw [nle_F (by omega) (by omega)]; exact id), standing_ok r2 hw hC2 hV.s30, cal_ok, shl1 k (by omega), stonesWith_ok g2 (pow_lt (n := 8) (by omega)), cal_ok, gfI_e, g2.2.2.2.2.2.2, gfI_e, g2.2.2.2.2.1, e3, cal_ok, setN_or, np1, ltI_e, nI_or]
      by_cases q : wsB T k = true
      · rw [if_pos q, if_neg (by decide), if_pos q]
      · rw [if_neg q, if_pos rfl, if_neg q, Nat.or_zero]
    · obtain ⟨M2, rfl, g2, hC2, O2⟩ := hI
      refine ⟨(nI (setN (wsB T) (tn T)), M2), ?_, rfl, O2⟩
      show bX1_homeWithStone_9 6 a (nI (setN (wsB T) (tn T))) (nI (tn T)) M2 = _
      unfold bX1_homeWithStone_9
      rw [gfI_e, g2.2.1, if_pos (nI_le (Nat.le_refl _) (by omega))]
  obtain ⟨r, e, h1, h2⟩ := key
  exact ⟨r.2, e.trans (by rw [← h1]), h2⟩
/-- a stone more on a tried wood -/
theorem drops1_ok (h : RO M) (hW : RVd 1 T M) (hV : VT T) {x : Nat} (hx : x < tn T) : fX6_drops 93 1 1 (nI x) M = some ((), wI M 106 (39 * 1 + 8 * 1 + x) (nI (tm T 1 x + 1))) := by
  have hn8 := hV.n8
  unfold fX6_drops bX6_drops_35
  have e1 : fX6_marks 93 1 1 (nI x) M = some (M.1 106 (39 * 1 + 8 * 1 + x), M) := marks_ok h (f := 1) (m := 1) (by omega)
  have e2 : ∀ v : Int32, fX6_setMarks 93 1 1 (nI x) v M = some ((), wI M 106 (39 * 1 + 8 * 1 + x) v) := fun v => setMarks_ok h (f := 1) (m := 1) (v := v) (by omega)
  rw [if_neg (by decide), e1, cal_ok, hW.m (by decide) hx, e2, cal_ok, nI_succ]
/-- whether a stone more changes it -/
theorem chg_ok (h : RO M) (hW : RWd T M) (hV : VT T) (hn : tn T ≠ 0) (now : Bool) : ∃ M1, fX6_changedBy 93 (if now then 1 else 0) M = some (if (fo T).2 = now then nI (setN (fun x => wsB T x != now) (tn T)) else 0, M1) ∧ Off PB M M1 := by
  have hn8 := hV.n8
  obtain ⟨M1, e1, p1, p2, O1⟩ := follows_ok h (f := 0) (by decide) hW.v hV.vw hV.b4 (here_lt hV hn)
  have e1 : fX6_follows 93 0 (nI (hereN T)) M = some (if (fo T).2 then 1 else 0, M1) := e1
  have r1 := O1.ro h
  have bi : ∀ b c : Bool, ((if b = true then (1 : Int32) else 0) = (if c = true then 1 else 0)) ↔ b = c := by decide
  unfold fX6_changedBy bX6_changedBy_0
  rw [hereNow2 h hW hV, cal_ok, e1, cal_ok]
  by_cases q : (fo T).2 = now
  · rw [if_pos ((bi _ _).mpr q), if_pos q, fen_l]
    have key : ∃ r, fnl gX6_changedBy (1, 93, (if now then 1 else 0), 0, 0, M1) = some r ∧ (r.1 = nI (setN (fun x => wsB T x != now) (tn T)) ∧ Off PB M r.2) := by
      refine fnl_inv (g := gX6_changedBy) (fun k s => ∃ M2, s = (1, 93, (if now then 1 else 0), nI (setN (fun x => wsB T x != now) k), nI k, M2) ∧ RWd T M2 ∧ Off PB M M2) (tn T) _ (fun k s hk hI => ?_) (fun s hI => ?_) 0 (Nat.zero_le _) _ ⟨M1, rfl, hW.same2 hV (fun c j q => O1.1 c j (by omega)), O1.mo (fun c j z => by unfold PB; omega)⟩
      · obtain ⟨M2, rfl, hW2, O2⟩ := hI
        left
        have r2 := O2.ro h
        obtain ⟨M3, e3, c3, O3⟩ := copyTo_ok r2 (f := 0) (g := 1) (by decide) (by decide) (by decide)
        have e3 : fX6_copyTo 93 0 1 M2 = some ((), M3) := e3
        have r3 := O3.ro r2
        have hV3 := hW2.v.cp hV c3 O3
        have hW3 : RWd T M3 := hW2.same2 hV (fun c j q => O3.1 c j (fun z => by unfold Pf at z; omega))
        have e4 := drops1_ok r3 hV3 hV hk
        obtain ⟨M4, hM4⟩ : ∃ M4, M4 = wI M3 106 (39 * 1 + 8 * 1 + k) (nI (tm T 1 k + 1)) := ⟨_, rfl⟩
        rw [← hM4] at e4
        have r4 : RO M4 := by rw [hM4]; exact r3
        have hV4 : RVd 1 (setm T 1 k (tm T 1 k + 1)) M4 := by rw [hM4]; exact hV3.setm hV (by decide) (by omega)
        have O4 : Off PB M3 M4 := by rw [hM4]; exact Off.rf.wI (by unfold PB; omega)
        have hW4 : RWd T M4 := hW3.same2 hV (fun c j q => O4.1 c j (fun z => by unfold PB at z; omega))
        have hmk := hV.mk (m := 1) (by decide) hk
        obtain ⟨M5, e5, -, -, O5⟩ := follows_ok r4 (f := 1) (by decide) hV4 (vt_vws hV (x := k) (v := tm T 1 k + 1) (by omega)) hV.b4 (p := hereN T) (here_lt hV hn)
        rw [st_more hV hk] at e5
        have e5 : fX6_follows 93 1 (nI (hereN T)) M4 = some (if wsB T k then 1 else 0, M5) := e5
        have O5b : Off PB M M5 := (O2.tr (O3.mo (fun c j z => by unfold Pf at z; unfold PB; omega))).tr (O4.tr (O5.mo (fun c j z => by unfold PB; omega)))
        refine ⟨(1, 93, (if now then 1 else 0), nI (setN (fun x => wsB T x != now) (k + 1)), nI (k + 1), M5), ?_, _, rfl, hW.same2 hV (fun c j q => O5b.1 c j (fun z => by unfold PB at z; omega)), O5b⟩
        show bX6_changedBy_19 93 (if now then 1 else 0) (nI (setN (fun x => wsB T x != now) k)) (nI k) M2 = _
        unfold bX6_changedBy_19 bX6_changedBy_61
        rw [gfI_e, hW2.1, if_neg (show ¬ nI (tn T) ≤ nI k by rw [nle_F (by omega) (by omega)]; exact id), e3, cal_ok, e4, cal_ok, hereNow2 r4 hW4 hV, cal_ok, e5, cal_ok, shl1 k (by omega), ltI_e, ltI_e, np1, setN_or, nI_or]
        by_cases z : wsB T k = now
        · rw [if_pos ((bi _ _).mpr z), if_neg (show ¬ (wsB T k != now) = true by simp [z])]
          rw [show nI (setN (fun x => wsB T x != now) k) ||| 0 = nI (setN (fun x => wsB T x != now) k) from Int32.or_zero, Nat.or_zero]
        · rw [if_neg (fun w => z ((bi _ _).mp w)), if_pos (show (wsB T k != now) = true by simp [z])]
      · obtain ⟨M2, rfl, hW2, O2⟩ := hI
        refine ⟨(nI (setN (fun x => wsB T x != now) (tn T)), M2), ?_, rfl, O2⟩
        show bX6_changedBy_19 93 (if now then 1 else 0) (nI (setN (fun x => wsB T x != now) (tn T))) (nI (tn T)) M2 = _
        unfold bX6_changedBy_19
        rw [gfI_e, hW2.1, if_pos (nI_le (Nat.le_refl _) (by omega))]
    obtain ⟨r, e, h1, h2⟩ := key
    exact ⟨r.2, e.trans (by rw [← h1]), h2⟩
  · rw [if_neg (fun w => q ((bi _ _).mp w)), if_neg q, fen_r]
    exact ⟨M1, rfl, O1.mo (fun c j z => by unfold PB; omega)⟩
end
theorem op_astray (M : Mm) (h : Rel M) : Good Rel (fX5_astray 0 M) (fX6_astray 93) := by
  obtain ⟨hRO, hF, hR, hX, T, hV, hC, hW, hK⟩ := id h
  have hn8 := hV.n8
  by_cases h0 : tn T = 0
  · refine ⟨-4, M, M, ?_, ?_, h⟩
    · unfold fX5_astray
      rw [g33 hRO, emp1 hC hV h0, cal_ok, if_neg (by decide)]
    · show fX6_astray 93 M = _
      unfold fX6_astray
      rw [gfI_e, hW.1, h0, if_pos nI_0]
  · have hne : ¬ nI (tn T) = 0 := nI_ne0 (by omega) (by omega)
    have hw := w33
    obtain ⟨M1, e1, -, -, g1, O1⟩ := findsHome_ok hRO w33 hC hV h0
    have r1 := O1.2.2
    have hC1 : CWd 33 T M1 := hC.pt (fun c j q1 q2 => O1.1 c j (by omega))
    obtain ⟨M2, e2, O2⟩ := hws_ok r1 w33 hC1 hV h0
    have O1' : Of2 PA M M1 := O1.mo (fun c j z => by unfold PA; omega)
    have fin : ∀ M2 : Mm, Of2 PA M M2 → ∃ M3, fX6_changedBy 93 1 M2 = some (if (fo T).2 = true then nI (setN (fun x => wsB T x != true) (tn T)) else 0, M3) ∧ M2.1 93 10 = nI (tn T) ∧ Rel M3 := by
      intro M2 O12
      have hW2 : RWd T M2 := hW.same2 hV (fun c j q => O12.1 c j (fun z => by unfold PA at z; omega))
      obtain ⟨M3, e3, O3⟩ := chg_ok O12.2.2 hW2 hV h0 true
      exact ⟨M3, e3, hW2.1, h.ab O12 (O3.ro O12.2.2) (fun c j q1 _ => O3.1 c j q1) (by rw [O3.2])⟩
    by_cases q : (fo T).2 = true
    · rw [if_pos q] at e1
      obtain ⟨M3, e3, e4, hr⟩ := fin M2 (O1'.tr O2)
      rw [if_pos q] at e3
      refine ⟨nI (difN (ofK T 0) (setN (wsB T) (tn T))), M2, M3, ?_, ?_, hr⟩
      · unfold fX5_astray fX4_all
        rw [g33 hRO, emp0 hC hV h0, cal_ok, if_pos rfl, g6s hRO, g33 hRO, e1, cal_ok, if_neg (by decide), g33 r1, wO r1 hw, show ldI M1 (33 + 2) 0 _ = ldI M1 (33 + 2) (nI 0) _ from rfl, ldw2 hw (by decide), hC1.o (by decide), cal_ok, g6s r1, g33 r1, e2, cal_ok, nI_dif (S := ofK T 0) (pow_lt8 hn8 (setN_lt _ _))]
      · show fX6_astray 93 M2 = _
        unfold fX6_astray
        rw [gfI_e, e4, if_neg hne, e3, cal_ok]
        refine congrArg (fun v => some (nI v, M3)) ?_
        refine set_ext (n := tn T) (setN_lt _ _) (dif_lt (setN_lt _ _)) (fun y hy => ?_)
        unfold ofK
        rw [setN_bit, dif_bit (by omega), setN_bit, setN_bit]
        simp [hy, isK]
    · rw [if_neg q] at e1
      obtain ⟨M3, e3, e4, hr⟩ := fin M1 O1'
      rw [if_neg q] at e3
      refine ⟨0, M1, M3, ?_, ?_, hr⟩
      · unfold fX5_astray
        rw [g33 hRO, emp0 hC hV h0, cal_ok, if_pos rfl, g6s hRO, g33 hRO, e1, cal_ok, if_pos rfl]
      · show fX6_astray 93 M1 = _
        unfold fX6_astray
        rw [gfI_e, e4, if_neg hne, e3, cal_ok]
theorem op_helps (M : Mm) (h : Rel M) : Good Rel (fX5_helps 0 M) (fX6_helps 93) := by
  obtain ⟨hRO, hF, hR, hX, T, hV, hC, hW, hK⟩ := id h
  have hn8 := hV.n8
  by_cases h0 : tn T = 0
  · refine ⟨-4, M, M, ?_, ?_, h⟩
    · unfold fX5_helps
      rw [g33 hRO, emp1 hC hV h0, cal_ok, if_neg (by decide)]
    · show fX6_helps 93 M = _
      unfold fX6_helps
      rw [gfI_e, hW.1, h0, if_pos nI_0]
  · have hne : ¬ nI (tn T) = 0 := nI_ne0 (by omega) (by omega)
    have hw := w33
    obtain ⟨M1, e1, -, -, g1, O1⟩ := findsHome_ok hRO w33 hC hV h0
    have r1 := O1.2.2
    have hC1 : CWd 33 T M1 := hC.pt (fun c j q1 q2 => O1.1 c j (by omega))
    obtain ⟨M2, e2, O2⟩ := hws_ok r1 w33 hC1 hV h0
    have O1' : Of2 PA M M1 := O1.mo (fun c j z => by unfold PA; omega)
    have fin : ∀ M2 : Mm, Of2 PA M M2 → ∃ M3, fX6_changedBy 93 0 M2 = some (if (fo T).2 = false then nI (setN (fun x => wsB T x != false) (tn T)) else 0, M3) ∧ M2.1 93 10 = nI (tn T) ∧ Rel M3 := by
      intro M2 O12
      have hW2 : RWd T M2 := hW.same2 hV (fun c j q => O12.1 c j (fun z => by unfold PA at z; omega))
      obtain ⟨M3, e3, O3⟩ := chg_ok O12.2.2 hW2 hV h0 false
      exact ⟨M3, e3, hW2.1, h.ab O12 (O3.ro O12.2.2) (fun c j q1 _ => O3.1 c j q1) (by rw [O3.2])⟩
    by_cases q : (fo T).2 = true
    · rw [if_pos q] at e1
      obtain ⟨M3, e3, e4, hr⟩ := fin M1 O1'
      rw [if_neg (by rw [q]; decide)] at e3
      refine ⟨0, M1, M3, ?_, ?_, hr⟩
      · unfold fX5_helps
        rw [g33 hRO, emp0 hC hV h0, cal_ok, if_pos rfl, g6s hRO, g33 hRO, e1, cal_ok, if_neg (by decide)]
      · show fX6_helps 93 M1 = _
        unfold fX6_helps
        rw [gfI_e, e4, if_neg hne, e3, cal_ok]
    · rw [if_neg q] at e1
      obtain ⟨M3, e3, e4, hr⟩ := fin M2 (O1'.tr O2)
      rw [if_pos (by simpa using q)] at e3
      refine ⟨nI (setN (wsB T) (tn T)), M2, M3, ?_, ?_, hr⟩
      · unfold fX5_helps
        rw [g33 hRO, emp0 hC hV h0, cal_ok, if_pos rfl, g6s hRO, g33 hRO, e1, cal_ok, if_pos rfl, g6s r1, g33 r1, e2, cal_ok]
      · show fX6_helps 93 M2 = _
        unfold fX6_helps
        rw [gfI_e, e4, if_neg hne, e3, cal_ok]
        refine congrArg (fun v => some (nI v, M3)) ?_
        refine congrArg (fun p => setN p (tn T)) (funext fun y => ?_)
        cases wsB T y <;> rfl

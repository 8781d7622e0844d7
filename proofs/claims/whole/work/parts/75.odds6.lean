/-! CHANCES, the reference; odds, best -/
def PC (c j : Nat) : Prop := c = 113 ∨ c = 93 ∧ j = 32 ∨ c = 106 ∧ 78 ≤ j
def hwB (T : WT) (p S : Nat) : Bool := (foL (te T, stS T, knS T, difN (crS T) S) p).2
section
variable {M : Mm} {T T0 : WT}
theorem fw_clr (hn : tn T ≤ 8) (S : Nat) : fwT (clrT T S (tn T)) = (te T, stS T, knS T, difN (crS T) S) := by
  have e3 : crS (clrT T S (tn T)) = difN (crS T) S := by
    refine set_ext (n := tn T) (setN_lt _ _) (dif_lt (setN_lt _ _)) (fun y hy => ?_)
    unfold crS
    rw [dif_bit (by omega), setN_bit, setN_bit]
    show (decide (y < tn T) && decide (tk T y ≠ 5 ∧ tk T y ≠ 2 ∧ (if 0 = 0 ∧ y < tn T ∧ S.testBit y then 0 else tm T 0 y) ≠ 0)) = _
    unfold crB
    by_cases q : S.testBit y = true
    · simp [q, hy]
    · simp [q, hy]
  have e1 : stS (clrT T S (tn T)) = stS T := by
    unfold stS
    refine congrArg (fun p => setN p (tn T)) (funext fun y => ?_)
    show decide (tk T y ≠ 5 ∧ (if 1 = 0 ∧ y < tn T ∧ S.testBit y then 0 else tm T 1 y) ≠ 0) = _
    rw [if_neg (by omega)]
    rfl
  have e2 : knS (clrT T S (tn T)) = knS T := by
    unfold knS
    refine congrArg (fun p => setN p (tn T)) (funext fun y => ?_)
    show decide (tk T y ≠ 5 ∧ tk T y ≠ 2 ∧ ((if 2 = 0 ∧ y < tn T ∧ S.testBit y then 0 else tm T 2 y) ≠ 0 ∨ tk T y = 4)) = _
    rw [if_neg (by omega)]
    rfl
  unfold fwT
  rw [e1, e2, e3]
  rfl
theorem VW.clr (hV : VW T) {S k : Nat} : VW (clrT T S k) := by
  obtain ⟨h1, h2, h3, h4⟩ := hV
  refine ⟨h1, h2, h3, fun m y hm hy => ?_⟩
  show (if m = 0 ∧ y < k ∧ S.testBit y then 0 else tm T m y) < 2 ^ 31
  by_cases q : m = 0 ∧ y < k ∧ S.testBit y = true
  · rw [if_pos q]; decide
  · rw [if_neg q]; exact h4 m y hm hy
theorem rv_setm2 {f : Nat} (hW : RVd f T M) (hn : tn T ≤ 8) (hb : tb T ≤ 4) {m x v : Nat} (hm : m < 3) (hx : x < 8) : RVd f (setm T m x v) (wI M 106 (39 * f + 8 * m + x) (nI v)) := by
  obtain ⟨h0, h1, h3, h4, h5, h6, h7, h8⟩ := hW
  refine ⟨h0, h1, h3, h4, fun m1 y hm1 hy => ?_, fun y hy => by rw [wI_at, if_neg (by have : y < tn T := hy; omega)]; exact h6 y hy, fun i hi => by rw [wI_at, if_neg (by omega)]; exact h7 i hi, fun i hi => by rw [wI_at, if_neg (by omega)]; exact h8 i hi⟩
  have hy2 : y < tn T := hy
  show _ = nI (if m1 = m ∧ y = x then v else tm T m1 y)
  by_cases q : m1 = m ∧ y = x
  · rw [if_pos q, wI_at, if_pos (by omega)]
  · rw [if_neg q, wI_at, if_neg (by omega)]
    exact h5 m1 y hm1 hy
theorem RVd.cp2 {M1 : Mm} {f g : Nat} (hW : RVd f T M) (hn8 : tn T ≤ 8) (hb4 : tb T ≤ 4) (e : ∀ i, i < 39 → M1.1 106 (39 * g + i) = M.1 106 (39 * f + i)) (hO : Off (Pf g) M M1) : RVd g T M1 := by
  obtain ⟨w0, w1, w3, w4, w5, w6, w7, w8⟩ := hW
  have o : ∀ c j, c ≠ 106 → M1.1 c j = M.1 c j := fun c j q => hO.1 c j (fun z => q z.1)
  refine ⟨by rw [o _ _ (by omega)]; exact w0, by rw [o _ _ (by omega)]; exact w1, fun x hx => by rw [o _ _ (by omega)]; exact w3 x hx, fun x hx => by rw [o _ _ (by omega)]; exact w4 x hx, fun m x hm hx => ?_, fun x hx => ?_, fun x hx => ?_, fun x hx => ?_⟩
  · have := e (8 * m + x) (by omega)
    rw [← Nat.add_assoc, ← Nat.add_assoc] at this
    exact this.trans (w5 m x hm hx)
  · have := e (24 + x) (by omega)
    rw [← Nat.add_assoc, ← Nat.add_assoc] at this
    exact this.trans (w6 x hx)
  · have := e (32 + x) (by omega)
    rw [← Nat.add_assoc, ← Nat.add_assoc] at this
    exact this.trans (w7 x hx)
  · have := e (36 + x) (by omega)
    rw [← Nat.add_assoc, ← Nat.add_assoc] at this
    exact this.trans (w8 x hx)
theorem hw_step (h : RO M) (hW : RWd T0 M) (hV0 : VT T0) {f : Nat} (hf : f < 2) (hWf : RVd f T M) (hV : VW T) (hb : tb T ≤ 4) (hp : hereN T0 < tn T) {c S : Nat} (hS : S < 2 ^ tn T) : ∃ M1, fnl gX6_homeWays (1, 93, nI f, nI c, nI S, 0, M) = fnl gX6_homeWays (1, 93, nI f, nI (c + if hwB T (hereN T0) S then 1 else 0), nI (S + 1), 0, M1) ∧ Off PC M M1 := by
  have hn8 := hV.1
  have hS8 := pow_lt8 hn8 hS
  obtain ⟨M1, e1, c1, O1⟩ := copyTo_ok h (f := f) (g := 2) (by omega) (by decide) (by omega)
  have e1 : fX6_copyTo 93 (nI f) 2 M = some ((), M1) := e1
  have r1 := O1.ro h
  have O1c : Off PC M M1 := O1.mo (fun c j z => by unfold Pf at z; unfold PC; omega)
  have s1 : fnl gX6_homeWays (1, 93, nI f, nI c, nI S, 0, M) = fnl gX6_homeWays (2, 93, nI f, nI c, nI S, 0, M1) := by
    refine fnl_in ?_
    show bX6_homeWays_4 93 (nI f) (nI c) (nI S) M = _
    unfold bX6_homeWays_4
    rw [gfI_e, hWf.n, shl8 _ hn8, if_neg (show ¬ nI (2 ^ tn T) ≤ nI S by rw [nle_F hS (by have := Nat.pow_le_pow_right (n := 2) (by decide) hn8; omega)]; exact id), e1, cal_ok]
  have i0 : RVd 2 (clrT T S 0) M1 := by rw [clrT_0]; exact hWf.cp2 hn8 hb c1 O1
  obtain ⟨s, e2, M2, rfl, hV2, O2⟩ := fnl_go (g := gX6_homeWays) (fun k s => ∃ M2, s = (2, 93, nI f, nI c, nI S, nI k, M2) ∧ RVd 2 (clrT T S k) M2 ∧ Off PC M M2) (tn T) (fun k s hk hI => by
    obtain ⟨M2, rfl, hV2, O2⟩ := hI
    have r2 := O2.ro h
    have eh := has_ok (M := M2) hS8 (show k < 8 by omega)
    have es : ∀ v : Int32, fX6_setMarks 93 2 0 (nI k) v M2 = some ((), wI M2 106 (39 * 2 + 8 * 0 + k) v) := fun v => setMarks_ok r2 (f := 2) (m := 0) (v := v) (by omega)
    have em : fX6_marks 93 2 0 (nI k) M2 = some (nI (tm (clrT T S k) 0 k), M2) := by
      rw [← hV2.m (m := 0) (by decide) hk]
      exact marks_ok r2 (f := 2) (m := 0) (by omega)
    by_cases q : S.testBit k = true
    · rw [q] at eh
      refine ⟨(2, 93, nI f, nI c, nI S, nI (k + 1), wI M2 106 (39 * 2 + 8 * 0 + k) (nI 0)), ?_, _, rfl, ?_, O2.wI (by unfold PC; omega)⟩
      · show bX6_homeWays_23 93 (nI f) (nI c) (nI S) (nI k) M2 = _
        unfold bX6_homeWays_23 bX6_homeWays_58
        rw [gfI_e, show M2.1 93 10 = nI (tn T) from hV2.n, if_neg (show ¬ nI (tn T) ≤ nI k by rw [nle_F hk (by omega)]; exact id), eh, cal_ok, if_neg (by decide), es, cal_ok, np1]
        rfl
      · rw [clrT_s, if_pos q]
        exact rv_setm2 hV2 hn8 hb (m := 0) (x := k) (v := 0) (by decide) (by omega)
    · rw [show S.testBit k = false by simpa using q] at eh
      refine ⟨(2, 93, nI f, nI c, nI S, nI (k + 1), wI M2 106 (39 * 2 + 8 * 0 + k) (nI (tm (clrT T S k) 0 k))), ?_, _, rfl, ?_, O2.wI (by unfold PC; omega)⟩
      · show bX6_homeWays_23 93 (nI f) (nI c) (nI S) (nI k) M2 = _
        unfold bX6_homeWays_23 bX6_homeWays_58
        rw [gfI_e, show M2.1 93 10 = nI (tn T) from hV2.n, if_neg (show ¬ nI (tn T) ≤ nI k by rw [nle_F hk (by omega)]; exact id), eh, cal_ok, if_pos (show (if false = true then (1 : Int32) else 0) = 0 from rfl), em, cal_ok, es, cal_ok, np1]
      · rw [clrT_s, if_neg q]
        have := rv_setm2 hV2 hn8 hb (m := 0) (x := k) (v := tm (clrT T S k) 0 k) (by decide) (by omega)
        rw [setm_id] at this
        exact this) (s := (2, 93, nI f, nI c, nI S, 0, M1)) ⟨M1, rfl, i0, O1c⟩
  have r2 := O2.ro h
  have hW2 : RWd T0 M2 := hW.same2 hV0 (fun c j q => O2.1 c j (fun z => by unfold PC at z; omega))
  obtain ⟨M3, e3, -, -, O3⟩ := follows_ok r2 (f := 2) (by decide) hV2 hV.clr hb (p := hereN T0) hp
  rw [fw_clr hn8] at e3
  have e3 : fX6_follows 93 2 (nI (hereN T0)) M2 = some (if hwB T (hereN T0) S then 1 else 0, M3) := e3
  refine ⟨M3, (s1.trans e2).trans (fnl_in ?_), O2.tr (O3.mo (fun c j z => by unfold PC; omega))⟩
  show bX6_homeWays_23 93 (nI f) (nI c) (nI S) (nI (tn T)) M2 = _
  unfold bX6_homeWays_23 bX6_homeWays_85
  rw [gfI_e, hV2.n, if_pos (show nI (tn (clrT T S (tn T))) ≤ nI (tn T) from nI_le (Nat.le_refl _) (by omega)), hereNow2 r2 hW2 hV0, cal_ok, e3, cal_ok, ltI_e, ltI_e, np1]
  by_cases q : hwB T (hereN T0) S = true
  · rw [if_pos q, if_neg (by decide), if_pos q]
    rw [np1]
  · rw [if_neg q, if_pos rfl, if_neg q, show nI c + 0 = nI c from Int32.add_zero _]
    try rfl
def hwN (T : WT) (p : Nat) : Nat := sumB (hwB T p) (2 ^ tn T)
theorem hw_ok (h : RO M) (hW : RWd T0 M) (hV0 : VT T0) {f : Nat} (hf : f < 2) (hWf : RVd f T M) (hV : VW T) (hb : tb T ≤ 4) (hp : hereN T0 < tn T) : ∃ M1, fX6_homeWays 93 (nI f) M = some (nI (hwN T (hereN T0)), M1) ∧ Off PC M M1 := by
  have hn8 := hV.1
  have hp8 := Nat.pow_le_pow_right (n := 2) (by decide) hn8
  unfold fX6_homeWays bX6_homeWays_0
  rw [fen_l]
  have key : ∀ k, k ≤ 2 ^ tn T → ∃ M1, fnl gX6_homeWays (1, 93, nI f, 0, 0, 0, M) = fnl gX6_homeWays (1, 93, nI f, nI (sumB (hwB T (hereN T0)) k), nI k, 0, M1) ∧ Off PC M M1 := by
    intro k
    induction k with
    | zero => intro _; exact ⟨M, rfl, Off.rf⟩
    | succ k ih =>
      intro hk
      obtain ⟨M1, e1, O1⟩ := ih (by omega)
      have r1 := O1.ro h
      have hW1 : RWd T0 M1 := hW.same2 hV0 (fun c j q => O1.1 c j (fun z => by unfold PC at z; omega))
      have hWf1 : RVd f T M1 := hWf.off hn8 hb O1.1 (fun c j q z => by unfold PC at z; omega)
      obtain ⟨M2, e2, O2⟩ := hw_step r1 hW1 hV0 hf hWf1 hV hb hp (c := sumB (hwB T (hereN T0)) k) (S := k) (by omega)
      exact ⟨M2, e1.trans e2, O1.tr O2⟩
  obtain ⟨M1, e1, O1⟩ := key _ (Nat.le_refl _)
  have hWf1 : RVd f T M1 := hWf.off hn8 hb O1.1 (fun c j q z => by unfold PC at z; omega)
  refine ⟨M1, e1.trans (fnl_out ?_), O1⟩
  show bX6_homeWays_4 93 (nI f) (nI (hwN T (hereN T0))) (nI (2 ^ tn T)) M1 = _
  unfold bX6_homeWays_4
  rw [gfI_e, hWf1.n, shl8 _ hn8, if_pos (nI_le (Nat.le_refl _) (by omega))]
theorem dif_0 (K : Nat) : difN 0 K = 0 := by
  unfold difN
  exact Nat.zero_and _
theorem hw_lk0 (hV : VT T) : hwN T (hereN T) = 2 ^ (tn T - cntN (crS T)) * lkN T 0 ∧ cntN (crS T) ≤ tn T := by
  obtain ⟨h1, h2⟩ := H_L (tn T) hV.n8 (lkB T 0) (crS T) (cr_lt T)
  refine ⟨?_, h1⟩
  unfold hwN lkN
  rw [← h2]
  refine sumB_congr (fun S _ => ?_)
  unfold hwB lkB
  rw [dif_0, Nat.or_zero]
theorem hw_lk1 (hV : VT T) {x : Nat} (hx : x < tn T) : hwN (setm T 1 x (tm T 1 x + 1)) (hereN T) = 2 ^ (tn T - cntN (crS T)) * lkN T (2 ^ x) := by
  obtain ⟨h1, h2⟩ := H_L (tn T) hV.n8 (lkB T (2 ^ x)) (crS T) (cr_lt T)
  unfold hwN lkN
  rw [← h2]
  refine sumB_congr (fun S _ => ?_)
  have e := st_more hV hx
  unfold fwT wsT at e
  have e1 : stS (setm T 1 x (tm T 1 x + 1)) = stS T ||| difN (2 ^ x) (ofK T 5) := congrArg (fun q => q.2.1) e
  have e2 : knS (setm T 1 x (tm T 1 x + 1)) = knS T := congrArg (fun q => q.2.2.1) e
  have e3 : crS (setm T 1 x (tm T 1 x + 1)) = crS T := congrArg (fun q => q.2.2.2) e
  unfold hwB lkB
  rw [e1, e2, e3]
  rfl
theorem lk_le (T : WT) (S : Nat) : lkN T S ≤ 2 ^ cntN (crS T) := sumB_le _
end
theorem op_odds (M : Mm) (h : Rel M) : Good Rel (fX5_odds 0 M) (fX6_odds 93) := by
  obtain ⟨hRO, hF, hR, hX, T, hV, hC, hW, hK⟩ := id h
  have hn8 := hV.n8
  by_cases h0 : tn T = 0
  · refine ⟨-4, M, M, ?_, ?_, h⟩
    · unfold fX5_odds
      rw [g33 hRO, emp1 hC hV h0, cal_ok, if_neg (by decide)]
    · show fX6_odds 93 M = _
      unfold fX6_odds
      rw [gfI_e, hW.1, h0, if_pos nI_0]
  · have hne : ¬ nI (tn T) = 0 := nI_ne0 (by omega) (by omega)
    have hw := w33
    obtain ⟨M1, e1, g1, O1⟩ := look_ok hRO w33 hC hV
    have r1 := O1.2.2
    have hC1 : CWd 33 T M1 := hC.pt (fun c j q1 q2 => O1.1 c j (by omega))
    obtain ⟨M2, e2, g2, O2⟩ := lucky_ok r1 w33 hC1 hV h0 g1 (S := 0) (by decide)
    have e2 : fX1_luckyCases 6 (nI (hereN T)) 0 M1 = some (nI (lkN T 0), M2) := e2
    have r2 := O2.ro r1
    have e3 := cases_ok g2 hn8
    have e4 := tell_ok M2 (nI (lkN T 0)) (nI (2 ^ cntN (crS T)))
    obtain ⟨u, hu⟩ : ∃ u, u = (tcJ 8 (jN (lkN T 0)) (jN (2 ^ cntN (crS T)))).1 := ⟨_, rfl⟩
    obtain ⟨l, hl⟩ : ∃ l, l = (tcJ 8 (jN (lkN T 0)) (jN (2 ^ cntN (crS T)))).2 := ⟨_, rfl⟩
    have e4 : fX5_tellChances 0 (nI (lkN T 0)) (nI (2 ^ cntN (crS T))) M2 = some ((), tcM M2 u l) := by rw [hu, hl]; exact e4
    have o2 : ∀ c j, c ≠ 6 → c ≠ 8 → M2.1 c j = M.1 c j := fun c j q1 q2 => by rw [O2.1 c j (by omega)]; exact O1.1 c j (by omega)
    have r4 : RO (tcM M2 u l) := r2
    have hW4 : RWd T (tcM M2 u l) := hW.same2 hV (fun c j q => o2 c j (by omega) (by omega))
    obtain ⟨M5, e5, O5⟩ := hw_ok r4 hW4 hV (f := 0) (by decide) hW4.v hV.vw hV.b4 (here_lt hV h0)
    obtain ⟨w1, w2⟩ := hw_lk0 hV
    rw [w1] at e5
    have e5 : fX6_homeWays 93 0 (tcM M2 u l) = some (nI (2 ^ (tn T - cntN (crS T)) * lkN T 0), M5) := e5
    have hW5 : M5.1 93 10 = nI (tn T) := by rw [O5.1 _ _ (fun z => by unfold PC at z; omega)]; exact hW4.1
    have e6 := part_ok M5 hn8 w2 (lk_le T 0)
    rw [← hu, ← hl] at e6
    refine ⟨1, tcM M2 u l, ptM M5 u l, ?_, ?_, ?_⟩
    · unfold fX5_odds
      rw [g33 hRO, emp0 hC hV h0, cal_ok, if_pos rfl, g6s hRO, g33 hRO, e1, cal_ok, g6s r1, g33 r1, standing_ok r1 hw hC1 hV.s30, cal_ok, show nI (tz T (ts T)) = nI (hereN T) from rfl, e2, cal_ok, g6s r2, e3, cal_ok, e4, cal_ok]
    · show fX6_odds 93 (tcM M2 u l) = _
      unfold fX6_odds
      rw [gfI_e, hW4.1, if_neg hne, e5, cal_ok, gfI_e, hW5]
      show cal (fX6_part 93 (jN (2 ^ (tn T - cntN (crS T)) * lkN T 0)) (pwJ (tn T)) M5) _ = _
      rw [e6, cal_ok]
    · refine h.odds (O5.ro r4 : RO M5) (fun c j hi => ?_) u l ⟨?_, ?_, ?_, ?_⟩
      · unfold imp at hi
        show M5.1 c j = M.1 c j
        rw [O5.1 c j (fun z => by unfold PC at z; omega)]
        exact o2 c j (by omega) (by omega)
      · show (wJ (wJ M5 93 3 u) 93 4 l).2.1 0 11 = u
        rw [wJ_at, if_neg (by omega), wJ_at, if_neg (by omega), O5.2]; exact tcM_11
      · show (wJ (wJ M5 93 3 u) 93 4 l).2.1 0 12 = l
        rw [wJ_at, if_neg (by omega), wJ_at, if_neg (by omega), O5.2]; exact tcM_12
      · show (wJ (wJ M5 93 3 u) 93 4 l).2.1 93 3 = u
        rw [wJ_at, if_neg (by omega), wJ_at, if_pos ⟨rfl, rfl⟩]
      · show (wJ (wJ M5 93 3 u) 93 4 l).2.1 93 4 = l
        rw [wJ_at, if_pos ⟨rfl, rfl⟩]
/-! the best place: the greatest so far, one more (0: none yet), and where -/
def bsG (v : Nat → Nat) : Nat → Nat
  | 0 => 0
  | k + 1 => if v k + 1 ≤ bsG v k then bsG v k else v k + 1
def bsC (v : Nat → Nat) : Nat → Nat
  | 0 => 0
  | k + 1 => if v k + 1 ≤ bsG v k then bsC v k else k
def gsN (s : Nat) : Nat → Nat
  | 0 => 0
  | m + 1 => s * m + 1
theorem gs_le {s v m : Nat} (hs : 0 < s) : (s * v + 1 ≤ gsN s m) ↔ (v + 1 ≤ m) := by
  cases m with
  | zero => show s * v + 1 ≤ 0 ↔ v + 1 ≤ 0; omega
  | succ m =>
    show s * v + 1 ≤ s * m + 1 ↔ v + 1 ≤ m + 1
    rw [Nat.add_le_add_iff_right, Nat.add_le_add_iff_right]
    exact Nat.mul_le_mul_left_iff hs
theorem bsG_le {v : Nat → Nat} {B : Nat} (h : ∀ i, v i ≤ B) : ∀ k, bsG v k ≤ B + 1
  | 0 => Nat.zero_le _
  | k + 1 => by
    have h1 := bsG_le h k
    have h2 := h k
    show (if v k + 1 ≤ bsG v k then bsG v k else v k + 1) ≤ B + 1
    by_cases q : v k + 1 ≤ bsG v k
    · rw [if_pos q]; exact h1
    · rw [if_neg q]; omega
theorem bsG_pos {v : Nat → Nat} (k : Nat) : 0 < bsG v (k + 1) := by
  show 0 < (if v k + 1 ≤ bsG v k then bsG v k else v k + 1)
  by_cases q : v k + 1 ≤ bsG v k
  · rw [if_pos q]; omega
  · rw [if_neg q]; omega
theorem pr_le {v m : Nat} (hv : v < 2 ^ 30) (hm : m < 2 ^ 30) : (nI v ≤ nI m - 1) ↔ (v + 1 ≤ m) := by
  cases m with
  | zero =>
    have : nI 0 - 1 = -1 := by decide
    rw [this, Int32.le_iff_toInt_le, nI_toInt (by omega)]
    have : (-1 : Int32).toInt = -1 := by decide
    rw [this]
    omega
  | succ m =>
    rw [show nI (m + 1) - 1 = nI m from nsub (b := 1) (Nat.add_comm _ _), Int32.le_iff_toInt_le, nI_toInt (by omega), nI_toInt (by omega)]
    omega
section
variable {M : Mm} {T : WT}
theorem best5_go (hV : VT T) (hn : tn T ≠ 0) (h : RO M) (hC : CWd 33 T M) (hG : SG 33 T M) : ∃ M1, fnl gX5_best (1, 0, 0, -1, 0, M) = some (nI (bsC (fun x => lkN T (2 ^ x)) (tn T)), tcM M1 (tcJ 8 (jN (bsG (fun x => lkN T (2 ^ x)) (tn T) - 1)) (jN (2 ^ cntN (crS T)))).1 (tcJ 8 (jN (bsG (fun x => lkN T (2 ^ x)) (tn T) - 1)) (jN (2 ^ cntN (crS T)))).2) ∧ Off (fun c j => c = 8 ∨ c = 6 ∧ j = 8) M M1 := by
  have hn8 := hV.n8
  have hw := w33
  have hc := cn_le _ (pow_lt8 hn8 (cr_lt T))
  have hc2 : 2 ^ cntN (crS T) ≤ 256 := Nat.pow_le_pow_right (n := 2) (j := 8) (by decide) hc
  have vb : ∀ i, (fun x => lkN T (2 ^ x)) i ≤ 256 := fun i => by have := lk_le T (2 ^ i); show lkN T (2 ^ i) ≤ 256; omega
  have gb := bsG_le vb
  obtain ⟨s, e1, M1, rfl, g1, O1⟩ := fnl_go (g := gX5_best) (fun k s => ∃ M1, s = (1, 0, nI (bsC (fun x => lkN T (2 ^ x)) k), nI (bsG (fun x => lkN T (2 ^ x)) k) - 1, nI k, M1) ∧ SG 33 T M1 ∧ Off (fun c j => c = 8 ∨ c = 6 ∧ j = 8) M M1) (tn T) (fun k s hk hI => by
    obtain ⟨M1, rfl, g1, O1⟩ := hI
    have r1 := O1.ro h
    have hC1 : CWd 33 T M1 := hC.pt (fun c j q1 q2 => O1.1 c j (by omega))
    obtain ⟨M2, e2, g2, O2⟩ := lucky_ok r1 w33 hC1 hV hn g1 (S := 2 ^ k) (pow_lt (n := 8) (by omega))
    have hvk := vb k
    have hvk : lkN T (2 ^ k) ≤ 256 := hvk
    have hgk := gb k
    refine ⟨(1, 0, nI (bsC (fun x => lkN T (2 ^ x)) (k + 1)), nI (bsG (fun x => lkN T (2 ^ x)) (k + 1)) - 1, nI (k + 1), M2), ?_, _, rfl, g2, O1.tr O2⟩
    show bX5_best_30 0 (nI (bsC (fun x => lkN T (2 ^ x)) k)) (nI (bsG (fun x => lkN T (2 ^ x)) k) - 1) (nI k) M1 = _
    unfold bX5_best_30 bX5_best_71
    rw [g33 r1, gfI_e, hC1.n, if_neg (show ¬ nI (tn T) ≤ nI k by rw [nle_F (by omega) (by omega)]; exact id), g6s r1, g33 r1, standing_ok r1 hw hC1 hV.s30, cal_ok, show nI (tz T (ts T)) = nI (hereN T) from rfl, shl1 k (by omega), e2, cal_ok, np1]
    show _ = some (Sum.inl (1, 0, nI (if lkN T (2 ^ k) + 1 ≤ bsG (fun x => lkN T (2 ^ x)) k then bsC (fun x => lkN T (2 ^ x)) k else k), nI (if lkN T (2 ^ k) + 1 ≤ bsG (fun x => lkN T (2 ^ x)) k then bsG (fun x => lkN T (2 ^ x)) k else lkN T (2 ^ k) + 1) - 1, nI (k + 1), M2))
    by_cases q : lkN T (2 ^ k) + 1 ≤ bsG (fun x => lkN T (2 ^ x)) k
    · rw [if_pos ((pr_le (by omega) (by omega)).mpr q), if_pos q, if_pos q]
    · rw [if_neg (fun z => q ((pr_le (by omega) (by omega)).mp z)), if_neg q, if_neg q, show nI (lkN T (2 ^ k) + 1) - 1 = nI (lkN T (2 ^ k)) from nsub (b := 1) (Nat.add_comm _ _)]) (s := (1, 0, 0, -1, 0, M)) ⟨M, rfl, hG, Off.rf⟩
  have r1 := O1.ro h
  have hC1 : CWd 33 T M1 := hC.pt (fun c j q1 q2 => O1.1 c j (by omega))
  have hg0 : 0 < bsG (fun x => lkN T (2 ^ x)) (tn T) := by
    obtain ⟨k, hk⟩ : ∃ k, tn T = k + 1 := ⟨tn T - 1, by omega⟩
    rw [hk]; exact bsG_pos k
  refine ⟨M1, e1.trans (fnl_out ?_), O1⟩
  show bX5_best_30 0 (nI (bsC (fun x => lkN T (2 ^ x)) (tn T))) (nI (bsG (fun x => lkN T (2 ^ x)) (tn T)) - 1) (nI (tn T)) M1 = _
  unfold bX5_best_30
  rw [g33 r1, gfI_e, hC1.n, if_pos (nI_le (Nat.le_refl _) (by omega)), g6s r1, cases_ok g1 hn8, cal_ok, tell_ok, cal_ok, show nI (bsG (fun x => lkN T (2 ^ x)) (tn T)) - 1 = nI (bsG (fun x => lkN T (2 ^ x)) (tn T) - 1) from nsub (b := 1) (by omega)]
  rfl
theorem best6_go (hV : VT T) (hn : tn T ≠ 0) (h : RO M) (hW : RWd T M) : ∃ M1, fnl gX6_best (1, 93, 0, -1, 0, M) = some (nI (bsC (fun x => lkN T (2 ^ x)) (tn T)), ptM M1 (tcJ 8 (jN (bsG (fun x => lkN T (2 ^ x)) (tn T) - 1)) (jN (2 ^ cntN (crS T)))).1 (tcJ 8 (jN (bsG (fun x => lkN T (2 ^ x)) (tn T) - 1)) (jN (2 ^ cntN (crS T)))).2) ∧ Off PB M M1 := by
  have hn8 := hV.n8
  have hc := cn_le _ (pow_lt8 hn8 (cr_lt T))
  have hc2 : 2 ^ cntN (crS T) ≤ 256 := Nat.pow_le_pow_right (n := 2) (j := 8) (by decide) hc
  have vb : ∀ i, (fun x => lkN T (2 ^ x)) i ≤ 2 ^ cntN (crS T) := fun i => lk_le T (2 ^ i)
  have gb := bsG_le vb
  obtain ⟨sc, hsc⟩ : ∃ sc, sc = 2 ^ (tn T - cntN (crS T)) := ⟨_, rfl⟩
  have sc0 : 0 < sc := by rw [hsc]; exact Nat.two_pow_pos _
  have scb : sc * 2 ^ cntN (crS T) ≤ 256 := by
    rw [hsc, ← Nat.pow_add]
    exact Nat.pow_le_pow_right (n := 2) (j := 8) (by decide) (by have := (hw_lk0 hV).2; omega)
  have svb : ∀ v, v ≤ 2 ^ cntN (crS T) → sc * v ≤ 256 := fun v hv => Nat.le_trans (Nat.mul_le_mul_left sc hv) scb
  have gsb : ∀ m, m ≤ 2 ^ cntN (crS T) + 1 → gsN sc m ≤ 257 := fun m hm => by
    cases m with
    | zero => show 0 ≤ 257; omega
    | succ m => have := svb m (by omega); show sc * m + 1 ≤ 257; omega
  obtain ⟨s, e1, M1, rfl, hW1, O1⟩ := fnl_go (g := gX6_best) (fun k s => ∃ M1, s = (1, 93, nI (bsC (fun x => lkN T (2 ^ x)) k), nI (gsN sc (bsG (fun x => lkN T (2 ^ x)) k)) - 1, nI k, M1) ∧ RWd T M1 ∧ Off PB M M1) (tn T) (fun k s hk hI => by
    obtain ⟨M2, rfl, hW2, O2⟩ := hI
    have r2 := O2.ro h
    obtain ⟨M3, e3, c3, O3⟩ := copyTo_ok r2 (f := 0) (g := 1) (by decide) (by decide) (by decide)
    have e3 : fX6_copyTo 93 0 1 M2 = some ((), M3) := e3
    have r3 := O3.ro r2
    have hV3 := hW2.v.cp hV c3 O3
    have hW3 : RWd T M3 := hW2.same2 hV (fun c j q => O3.1 c j (fun z => by unfold Pf at z; omega))
    have e4 := drops1_ok r3 hV3 hV hk
    obtain ⟨M4, hM4⟩ : ∃ M4, M4 = wI M3 106 (39 * 1 + 8 * 1 + k) (nI (tm T 1 k + 1)) := ⟨_, rfl⟩
    rw [← hM4] at e4
    have r4 : RO M4 := by rw [hM4]; exact r3
    have hV4 : RVd 1 (setm T 1 k (tm T 1 k + 1)) M4 := by rw [hM4]; exact hV3.setm hV (by decide) (by omega)
    have O4 : Off PB M3 M4 := by rw [hM4]; exact Off.rf.wI (by unfold PB; omega)
    have hW4 : RWd T M4 := hW3.same2 hV (fun c j q => O4.1 c j (fun z => by unfold PB at z; omega))
    have hmk := hV.mk (m := 1) (by decide) hk
    obtain ⟨M5, e5, O5⟩ := hw_ok r4 hW4 hV (f := 1) (by decide) hV4 (vt_vws hV (x := k) (v := tm T 1 k + 1) (by omega)) hV.b4 (here_lt hV hn)
    rw [hw_lk1 hV hk, ← hsc] at e5
    have e5 : fX6_homeWays 93 1 M4 = some (nI (sc * lkN T (2 ^ k)), M5) := e5
    have O5b : Off PB M M5 := (O2.tr (O3.mo (fun c j z => by unfold Pf at z; unfold PB; omega))).tr (O4.tr (O5.mo (fun c j z => by unfold PC at z; unfold PB; omega)))
    have b1 := svb _ (vb k)
    have b1 : sc * lkN T (2 ^ k) ≤ 256 := b1
    have b2 := gsb _ (gb k)
    refine ⟨(1, 93, nI (bsC (fun x => lkN T (2 ^ x)) (k + 1)), nI (gsN sc (bsG (fun x => lkN T (2 ^ x)) (k + 1))) - 1, nI (k + 1), M5), ?_, _, rfl, hW.same2 hV (fun c j q => O5b.1 c j (fun z => by unfold PB at z; omega)), O5b⟩
    show bX6_best_16 93 (nI (bsC (fun x => lkN T (2 ^ x)) k)) (nI (gsN sc (bsG (fun x => lkN T (2 ^ x)) k)) - 1) (nI k) M2 = _
    unfold bX6_best_16 bX6_best_55 bX6_best_68
    rw [gfI_e, hW2.1, if_neg (show ¬ nI (tn T) ≤ nI k by rw [nle_F (by omega) (by omega)]; exact id), e3, cal_ok, e4, cal_ok, e5, cal_ok, np1]
    show _ = some (Sum.inl (1, 93, nI (if lkN T (2 ^ k) + 1 ≤ bsG (fun x => lkN T (2 ^ x)) k then bsC (fun x => lkN T (2 ^ x)) k else k), nI (gsN sc (if lkN T (2 ^ k) + 1 ≤ bsG (fun x => lkN T (2 ^ x)) k then bsG (fun x => lkN T (2 ^ x)) k else lkN T (2 ^ k) + 1)) - 1, nI (k + 1), M5))
    by_cases q : lkN T (2 ^ k) + 1 ≤ bsG (fun x => lkN T (2 ^ x)) k
    · have z := (pr_le (v := sc * lkN T (2 ^ k)) (m := gsN sc (bsG (fun x => lkN T (2 ^ x)) k)) (by omega) (by omega)).mpr ((gs_le sc0).mpr q)
      rw [if_pos z, if_pos z, if_pos q, if_pos q]
    · have z : ¬ nI (sc * lkN T (2 ^ k)) ≤ nI (gsN sc (bsG (fun x => lkN T (2 ^ x)) k)) - 1 := fun z => q ((gs_le sc0).mp ((pr_le (by omega) (by omega)).mp z))
      rw [if_neg z, if_neg z, if_neg q, if_neg q, show gsN sc (lkN T (2 ^ k) + 1) = sc * lkN T (2 ^ k) + 1 from rfl, show nI (sc * lkN T (2 ^ k) + 1) - 1 = nI (sc * lkN T (2 ^ k)) from nsub (b := 1) (Nat.add_comm _ _)]) (s := (1, 93, 0, -1, 0, M)) ⟨M, rfl, hW, Off.rf⟩
  have r1 := O1.ro h
  obtain ⟨g, hg⟩ : ∃ g, bsG (fun x => lkN T (2 ^ x)) (tn T) = g + 1 := by
    obtain ⟨k, hk⟩ : ∃ k, tn T = k + 1 := ⟨tn T - 1, by omega⟩
    have := bsG_pos (v := fun x => lkN T (2 ^ x)) k
    rw [← hk] at this
    exact ⟨_, (Nat.sub_add_cancel this).symm⟩
  have hgb := gb (tn T)
  have e2 := part_ok M1 hn8 (hw_lk0 hV).2 (u := g) (by omega)
  refine ⟨M1, e1.trans (fnl_out ?_), O1⟩
  rw [hg]
  show bX6_best_16 93 (nI (bsC (fun x => lkN T (2 ^ x)) (tn T))) (nI (sc * g + 1) - 1) (nI (tn T)) M1 = _
  unfold bX6_best_16
  rw [gfI_e, hW1.1, if_pos (nI_le (Nat.le_refl _) (by omega)), gfI_e, hW1.1, show nI (sc * g + 1) - 1 = nI (sc * g) from nsub (b := 1) (Nat.add_comm _ _), hsc]
  show cal (fX6_part 93 (jN (2 ^ (tn T - cntN (crS T)) * g)) (pwJ (tn T)) M1) _ = _
  rw [e2, cal_ok]
  rfl
end
theorem op_best (M : Mm) (h : Rel M) : Good Rel (fX5_best 0 M) (fX6_best 93) := by
  obtain ⟨hRO, hF, hR, hX, T, hV, hC, hW, hK⟩ := id h
  have hn8 := hV.n8
  by_cases h0 : tn T = 0
  · refine ⟨-4, M, M, ?_, ?_, h⟩
    · unfold fX5_best bX5_best_0
      rw [g33 hRO, emp1 hC hV h0, cal_ok, if_neg (by decide), fen_r]
    · show fX6_best 93 M = _
      unfold fX6_best bX6_best_0
      rw [gfI_e, hW.1, h0, if_pos nI_0, fen_r]
  · have hne : ¬ nI (tn T) = 0 := nI_ne0 (by omega) (by omega)
    obtain ⟨M1, e1, g1, O1⟩ := look_ok hRO w33 hC hV
    have r1 := O1.2.2
    have hC1 : CWd 33 T M1 := hC.pt (fun c j q1 q2 => O1.1 c j (by omega))
    obtain ⟨M2, e2, O2⟩ := best5_go hV h0 r1 hC1 g1
    have r2 := O2.ro r1
    obtain ⟨M3, e3, O3⟩ := best6_go (M := tcM M2 (tcJ 8 (jN (bsG (fun x => lkN T (2 ^ x)) (tn T) - 1)) (jN (2 ^ cntN (crS T)))).1 (tcJ 8 (jN (bsG (fun x => lkN T (2 ^ x)) (tn T) - 1)) (jN (2 ^ cntN (crS T)))).2) hV h0 r2 (hW.same2 hV (fun c j q => (O2.1 c j (by omega)).trans (O1.1 c j (by omega))))
    generalize (tcJ 8 (jN (bsG (fun x => lkN T (2 ^ x)) (tn T) - 1)) (jN (2 ^ cntN (crS T)))) = ul at e2 e3 O3
    have o2 : ∀ c j, c ≠ 6 → c ≠ 8 → M2.1 c j = M.1 c j := fun c j q1 q2 => by rw [O2.1 c j (by omega)]; exact O1.1 c j (by omega)
    refine ⟨nI (bsC (fun x => lkN T (2 ^ x)) (tn T)), tcM M2 ul.1 ul.2, ptM M3 ul.1 ul.2, ?_, ?_, ?_⟩
    · unfold fX5_best bX5_best_0
      rw [g33 hRO, emp0 hC hV h0, cal_ok, if_pos rfl, g6s hRO, g33 hRO, e1, cal_ok, fen_l]
      exact e2
    · show fX6_best 93 (tcM M2 ul.1 ul.2) = _
      unfold fX6_best bX6_best_0
      rw [gfI_e, show (tcM M2 ul.1 ul.2).1 93 10 = nI (tn T) from (o2 93 10 (by decide) (by decide)).trans hW.1, if_neg hne, fen_l]
      exact e3
    · refine h.odds (O3.ro r2 : RO M3) (fun c j hi => ?_) ul.1 ul.2 ⟨?_, ?_, ?_, ?_⟩
      · unfold imp at hi
        show M3.1 c j = M.1 c j
        rw [O3.1 c j (fun z => by unfold PB at z; omega)]
        exact o2 c j (by omega) (by omega)
      · show (wJ (wJ M3 93 3 ul.1) 93 4 ul.2).2.1 0 11 = ul.1
        rw [wJ_at, if_neg (by omega), wJ_at, if_neg (by omega), O3.2]; exact tcM_11
      · show (wJ (wJ M3 93 3 ul.1) 93 4 ul.2).2.1 0 12 = ul.2
        rw [wJ_at, if_neg (by omega), wJ_at, if_neg (by omega), O3.2]; exact tcM_12
      · show (wJ (wJ M3 93 3 ul.1) 93 4 ul.2).2.1 93 3 = ul.1
        rw [wJ_at, if_neg (by omega), wJ_at, if_pos ⟨rfl, rfl⟩]
      · show (wJ (wJ M3 93 3 ul.1) 93 4 ul.2).2.1 93 4 = ul.2
        rw [wJ_at, if_pos ⟨rfl, rfl⟩]

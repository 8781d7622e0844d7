/-! STONES: whether they bring them home -/
def allF (p : Nat → Bool) : Nat → Nat → Bool
  | 0, _ => true
  | d + 1, x => p x && allF p d (x + 1)
def gnW (U : WT) (S x : Nat) : FoW := (te U, difN (stS U ||| difN S (ofK U 5)) (2 ^ x), difN (knS U) (2 ^ x) ||| ofK U 4, difN (crS U) (2 ^ x))
def leadB (U : WT) (g : Bool) (p S : Nat) : Bool := (foL (wsT U S) p).2 && (!g || allF (fun x => (foL (gnW U S x) p).2) (tn U) 0)
section
variable {M : Mm} {a : Nat} {U T : WT}
theorem nI_dif1 {S x : Nat} (hS : S < 256) (hx : x < 8) : nI S &&& (((1 : Int32) <<< (nI x &&& 31)) ^^^ (-1)) = nI (difN S (2 ^ x)) := by
  rw [shl1 x hx, nI_dif hS]
theorem leads_ok (h : RO M) (hw : isW a) (hC : CWd a U M) (hV : VT U) (hG : SG a U M) {S p : Nat} (hS : S < 2 ^ tn U) (hp : p < tn U) (g : Bool) : ∃ M1, fX1_leadsHome 6 (nI p) (nI S) (if g then 1 else 0) M = some (if leadB U g p S then 1 else 0, M1) ∧ SG a U M1 ∧ Off (fun c j => c = 8 ∨ c = 6 ∧ j = 8) M M1 := by
  have haw := isW_lt hw
  have hn8 := hV.n8
  have hS8 := pow_lt8 hn8 hS
  have hSt : stS U ||| difN S (ofK U 5) < 256 := pow_lt8 hn8 (Nat.or_lt_two_pow (setN_lt _ _) (dif_lt hS))
  have hkn : knS U < 256 := pow_lt8 hn8 (setN_lt _ _)
  have hcr : crS U < 256 := pow_lt8 hn8 (setN_lt _ _)
  obtain ⟨M1, e1, -, -, O1⟩ := follow5_ok (W := wsT U S) hw hV.n8 (fun x hx => hV.en hx) hp h hG.1 (fun x hx => hC.e hx)
  have e1 : fX1_follow 6 (nI p) (nI (stS U ||| difN S (ofK U 5))) (nI (knS U)) (nI (crS U)) M = some (if (foL (wsT U S) p).2 then 1 else 0, M1) := e1
  have g1 := hG.off O1
  have r1 := O1.ro h
  unfold fX1_leadsHome bX1_leadsHome_0
  rw [stonesWith_ok hG hS8, cal_ok, gfI_e, hG.2.2.2.2.2.2, gfI_e, hG.2.2.2.2.1, e1, cal_ok]
  unfold leadB
  by_cases q : (foL (wsT U S) p).2 = true
  · rw [if_pos q, if_neg (by decide), fen_l, q, Bool.true_and]
    cases g with
    | false =>
      refine ⟨M1, fnl_out ?_, g1, O1⟩
      show bX1_leadsHome_30 6 (nI p) 0 (nI (stS U ||| difN S (ofK U 5))) 0 M1 = _
      unfold bX1_leadsHome_30 bX1_leadsHome_91
      rw [gfI_e, g1.2.1, if_neg (show ¬ nI (tn U) ≤ 0 by rw [nle0_F (by omega) (by omega)]; exact id), if_pos rfl]
      rfl
    | true =>
      rw [Bool.not_true, Bool.false_or]
      have key : ∀ d x (M1 : Mm), x + d = tn U → SG a U M1 → Off (fun c j => c = 8 ∨ c = 6 ∧ j = 8) M M1 → ∃ M2, fnl gX1_leadsHome (1, 6, nI p, 1, nI (stS U ||| difN S (ofK U 5)), nI x, M1) = some (if allF (fun x => (foL (gnW U S x) p).2) d x then 1 else 0, M2) ∧ SG a U M2 ∧ Off (fun c j => c = 8 ∨ c = 6 ∧ j = 8) M M2 := by
        intro d
        induction d with
        | zero =>
          intro x M1 hx g1 O1
          refine ⟨M1, fnl_out ?_, g1, O1⟩
          show bX1_leadsHome_30 6 (nI p) 1 (nI (stS U ||| difN S (ofK U 5))) (nI x) M1 = _
          unfold bX1_leadsHome_30 bX1_leadsHome_91
          rw [gfI_e, g1.2.1, if_pos (nI_le (by omega) (by omega))]
          rfl
        | succ d ih =>
          intro x M1 hx g1 O1
          have r1 := O1.ro h
          have hC1 : CWd a U M1 := hC.pt (fun c j q1 q2 => O1.1 c j (by omega))
          obtain ⟨M2, e2, -, -, O2⟩ := follow5_ok (W := gnW U S x) hw hV.n8 (fun x hx => hV.en hx) hp r1 g1.1 (fun x hx => hC1.e hx)
          have e2 : fX1_follow 6 (nI p) (nI (difN (stS U ||| difN S (ofK U 5)) (2 ^ x))) (nI (difN (knS U) (2 ^ x) ||| ofK U 4)) (nI (difN (crS U) (2 ^ x))) M1 = some (if (foL (gnW U S x) p).2 then 1 else 0, M2) := e2
          have g2 := g1.off O2
          have st : bX1_leadsHome_30 6 (nI p) 1 (nI (stS U ||| difN S (ofK U 5))) (nI x) M1 = if (foL (gnW U S x) p).2 = true then some (.inl (1, 6, nI p, 1, nI (stS U ||| difN S (ofK U 5)), nI (x + 1), M2)) else some (.inr (0, M2)) := by
            unfold bX1_leadsHome_30
            rw [gfI_e, g1.2.1, if_neg (show ¬ nI (tn U) ≤ nI x by rw [nle_F (by omega) (by omega)]; exact id), if_neg (by decide), ltI_e, gfI_e, g1.2.2.2.2.2.2, gfI_e, g1.2.2.2.1, gfI_e, g1.2.2.2.2.1, nI_dif1 hSt (by omega), nI_dif1 hkn (by omega), nI_dif1 hcr (by omega), nI_or, e2, cal_ok, np1]
            by_cases w : (foL (gnW U S x) p).2 = true
            · rw [if_pos w, if_neg (by decide), if_pos w]
            · rw [if_neg w, if_pos rfl, if_neg w]
          by_cases w : (foL (gnW U S x) p).2 = true
          · rw [if_pos w] at st
            obtain ⟨M3, e3, g3, O3⟩ := ih (x + 1) M2 (by omega) g2 (O1.tr O2)
            refine ⟨M3, (fnl_in st).trans ?_, g3, O3⟩
            rw [e3]
            show _ = some (if ((foL (gnW U S x) p).2 && allF (fun x => (foL (gnW U S x) p).2) d (x + 1)) = true then 1 else 0, M3)
            rw [w, Bool.true_and]
          · rw [if_neg w] at st
            refine ⟨M2, (fnl_out st).trans ?_, g2, O1.tr O2⟩
            show _ = some (if ((foL (gnW U S x) p).2 && allF (fun x => (foL (gnW U S x) p).2) d (x + 1)) = true then 1 else 0, M2)
            rw [show (foL (gnW U S x) p).2 = false by simpa using w, Bool.false_and]
            rfl
      exact key (tn U) 0 M1 (by omega) g1 O1
  · rw [if_neg q, if_pos rfl, fen_r, show (foL (wsT U S) p).2 = false by simpa using q, Bool.false_and]
    exact ⟨M1, rfl, g1, O1⟩
/-- the reference -/
theorem brings_ok (h : RO M) (hW : RWd T M) (hV : VT T) {S p n : Nat} (hS : S < 2 ^ tn T) (hp : p < tn T) (hpe : M.1 93 38 = nI p) (hn : n ≤ 40) (g : Bool) : ∃ M1, fX6_bringsHome 93 (nI S) (nI n) (if g then 1 else 0) M = some (if leadB (hsT T n) g p S then 1 else 0, M1) ∧ Off PB M M1 := by
  have hn8 := hV.n8
  have hb4 := hV.b4
  have hS8 := pow_lt8 hn8 hS
  obtain ⟨gI, hgI⟩ : ∃ gI : Int32, gI = if g then 1 else 0 := ⟨_, rfl⟩
  obtain ⟨M1, e1, c1, O1⟩ := copyTo_ok h (f := 0) (g := 1) (by decide) (by decide) (by decide)
  have e1 : fX6_copyTo 93 0 1 M = some ((), M1) := e1
  rw [← hgI]
  unfold fX6_bringsHome bX6_bringsHome_0
  rw [e1, cal_ok, fen_l]
  have O1b : Off PB M M1 := O1.mo (fun c j z => by unfold Pf at z; unfold PB; omega)
  have i0 : RVd 1 (addS T S 0) M1 := by rw [add_0]; exact hW.v.cp hV c1 O1
  obtain ⟨s, e2, M2, rfl, hV2, O2⟩ := fnl_go (g := gX6_bringsHome) (fun k s => ∃ M2, s = (1, 93, nI S, nI n, gI, nI k, 0, 0, M2) ∧ RVd 1 (addS T S k) M2 ∧ Off PB M M2) (tn T) (fun k s hk hI => by
    obtain ⟨M2, rfl, hV2, O2⟩ := hI
    have r2 := O2.ro h
    have eh := has_ok (M := M2) hS8 (show k < 8 by omega)
    have es : ∀ v : Int32, fX6_setMarks 93 1 1 (nI k) v M2 = some ((), wI M2 106 (39 * 1 + 8 * 1 + k) v) := fun v => setMarks_ok r2 (f := 1) (m := 1) (v := v) (by omega)
    have tk : tm (addS T S k) 1 k = tm T 1 k := by
      show (if 1 = 1 ∧ k < k ∧ S.testBit k then tm T 1 k + 1 else tm T 1 k) = _
      rw [if_neg (by omega)]
    have em : fX6_marks 93 1 1 (nI k) M2 = some (nI (tm T 1 k), M2) := by
      rw [← tk, ← hV2.m (m := 1) (by decide) hk]
      exact marks_ok r2 (f := 1) (m := 1) (by omega)
    refine ⟨(1, 93, nI S, nI n, gI, nI (k + 1), 0, 0, wI M2 106 (39 * 1 + 8 * 1 + k) (nI (tm T 1 k + if S.testBit k then 1 else 0))), ?_, _, rfl, ?_, O2.wI (by unfold PB; omega)⟩
    · show bX6_bringsHome_9 93 (nI S) (nI n) gI (nI k) M2 = _
      unfold bX6_bringsHome_9 bX6_bringsHome_45
      rw [gfI_e, show M2.1 93 10 = nI (tn T) from hV2.n, if_neg (show ¬ nI (tn T) ≤ nI k by rw [nle_F hk (by omega)]; exact id), em, cal_ok, eh, cal_ok, es, es, cal_ok, cal_ok, np1]
      by_cases q : S.testBit k = true
      · rw [if_pos q, if_neg (by decide), if_pos q, np1]
      · rw [if_neg q, if_pos rfl, if_neg q, show nI (tm T 1 k) + 0 = nI (tm T 1 k) from Int32.add_zero _]
        try rfl
    · rw [add_s]
      exact rv_setm2 hV2 hn8 hb4 (m := 1) (x := k) (by decide) (by omega)) (s := (1, 93, nI S, nI n, gI, 0, 0, 0, M1)) ⟨M1, rfl, i0, O1b⟩
  have r2 := O2.ro h
  obtain ⟨M3, e3, hV3, O3⟩ := hours6X_ok r2 (f := 1) (by decide) hV2 (vx_add hV) (n := n) (by omega)
  have e3 : fX6_hoursOf 93 1 (nI n) M2 = some (nI (hsE (addS T S (tn T)) n), M3) := e3
  have hUn : tn (hsT T n) = tn T := (hs_n n).1
  obtain ⟨U, hU⟩ : ∃ U, U = hsT T n := ⟨_, rfl⟩
  rw [add_hs, ← hU] at hV3
  have hVU : VT U := by rw [hU]; exact hV.hs n
  have hUn : tn U = tn T := by rw [hU]; exact (hs_n n).1
  have hVX : VX (addS U S (tn T)) := vx_add hVU
  have r3 := O3.ro r2
  have O3b : Off PB M M3 := O2.tr (O3.mo (fun c j z => by unfold Pf at z; unfold PB; omega))
  have pe : ∀ M4 : Mm, Off PB M M4 → M4.1 93 38 = nI p := fun M4 o => by rw [o.1 93 38 (fun z => by unfold PB at z; omega)]; exact hpe
  obtain ⟨M4, e4, -, -, O4⟩ := follows_ok r3 (f := 1) (by decide) hV3 hVX.vw hVX.b4 (p := p) (by show p < tn U; omega)
  have fwA : fwT (addS U S (tn T)) = wsT U S := by
    have := fw_add (T := U) hVU.n8 (fun x hx => hVU.k5 hx) (S := S) (by rw [hUn]; exact hS)
    rw [hUn] at this
    exact this
  rw [fwA] at e4
  have e4 : fX6_follows 93 1 (nI p) M3 = some (if (foL (wsT U S) p).2 then 1 else 0, M4) := e4
  have O4b : Off PB M M4 := O3b.tr (O4.mo (fun c j z => by unfold PB; omega))
  have hV4 : RVd 1 (addS U S (tn T)) M4 := hV3.off hVX.n8 hVX.b4 O4.1 (fun c j z => by omega)
  have s5 : fnl gX6_bringsHome (1, 93, nI S, nI n, gI, nI (tn T), 0, 0, M2) = fnl gX6_bringsHome (2, 93, 0, 0, gI, (if (foL (wsT U S) p).2 then 1 else 0), 0, 0, M4) := by
    refine fnl_in ?_
    show bX6_bringsHome_9 93 (nI S) (nI n) gI (nI (tn T)) M2 = _
    unfold bX6_bringsHome_9
    rw [gfI_e, show M2.1 93 10 = nI (tn T) from hV2.n, if_pos (nI_le (Nat.le_refl _) (by omega)), e3, cal_ok, gfI_e, pe M3 O3b, e4, cal_ok]
  rw [e2, s5, ← hU]
  unfold leadB
  by_cases q : (foL (wsT U S) p).2 = true
  · rw [if_pos q, q, Bool.true_and]
    cases g with
    | false =>
      refine ⟨M4, fnl_out ?_, O4b⟩
      show bX6_bringsHome_76 93 gI 1 0 M4 = _
      unfold bX6_bringsHome_76 bX6_bringsHome_142
      rw [gfI_e, show M4.1 93 10 = nI (tn T) from hV4.n.trans (by show nI (tn U) = _; rw [hUn]), if_neg (show ¬ nI (tn T) ≤ 0 by rw [nle0_F (by omega) (by omega)]; exact id), hgI, if_pos (show (if false = true then (1 : Int32) else 0) = 0 from rfl)]
      rfl
    | true =>
      rw [Bool.not_true, Bool.false_or]
      have hg1 : gI = 1 := hgI
      subst hg1
      have key : ∀ d x (M4 : Mm), x + d = tn T → RVd 1 (addS U S (tn T)) M4 → Off PB M M4 → ∃ M5, fnl gX6_bringsHome (2, 93, 0, 0, 1, 1, nI x, 0, M4) = some (if allF (fun x => (foL (gnW U S x) p).2) d x then 1 else 0, M5) ∧ Off PB M M5 := by
        intro d
        induction d with
        | zero =>
          intro x M4 hx hV4 O4
          refine ⟨M4, fnl_out ?_, O4⟩
          show bX6_bringsHome_76 93 1 1 (nI x) M4 = _
          unfold bX6_bringsHome_76 bX6_bringsHome_142
          rw [gfI_e, show M4.1 93 10 = nI (tn T) from hV4.n.trans (by show nI (tn U) = _; rw [hUn]), if_pos (nI_le (by omega) (by omega))]
          rfl
        | succ d ih =>
          intro x M4 hx hV4 O4
          have r4 := O4.ro h
          obtain ⟨M5, e5, c5, O5⟩ := copyTo_ok r4 (f := 1) (g := 2) (by decide) (by decide) (by decide)
          have e5 : fX6_copyTo 93 1 2 M4 = some ((), M5) := e5
          have O5b : Off PB M M5 := O4.tr (O5.mo (fun c j z => by unfold Pf at z; unfold PB; omega))
          have t1 : fnl gX6_bringsHome (2, 93, 0, 0, 1, 1, nI x, 0, M4) = fnl gX6_bringsHome (3, 93, 0, 0, 1, 0, nI x, 0, M5) := by
            refine fnl_in ?_
            show bX6_bringsHome_76 93 1 1 (nI x) M4 = _
            unfold bX6_bringsHome_76
            rw [gfI_e, show M4.1 93 10 = nI (tn T) from hV4.n.trans (by show nI (tn U) = _; rw [hUn]), if_neg (show ¬ nI (tn T) ≤ nI x by rw [nle_F (by omega) (by omega)]; exact id), if_neg (by decide), if_neg (by decide), e5, cal_ok]
          have j0 : RVd 2 (gnT (addS U S (tn T)) x 0) M5 := by rw [gn_0]; exact hV4.cp2 hVX.n8 hVX.b4 c5 O5
          obtain ⟨s, e6, M6, rfl, hV6, O6, P6⟩ := fnl_go (g := gX6_bringsHome) (fun m s => ∃ M6, s = (3, 93, 0, 0, 1, 0, nI x, nI m, M6) ∧ RVd 2 (gnT (addS U S (tn T)) x m) M6 ∧ Off PB M M6 ∧ Off (fun c j => c = 106 ∧ 78 ≤ j) M4 M6) 3 (fun m s hm hI => by
            obtain ⟨M6, rfl, hV6, O6, P6⟩ := hI
            have r6 := O6.ro h
            have es := setMarks_ok r6 (f := 2) (m := m) (x := x) (v := 0) (by omega)
            have es : fX6_setMarks 93 2 (nI m) (nI x) 0 M6 = some ((), wI M6 106 (39 * 2 + 8 * m + x) (nI 0)) := es
            refine ⟨(3, 93, 0, 0, 1, 0, nI x, nI (m + 1), wI M6 106 (39 * 2 + 8 * m + x) (nI 0)), ?_, _, rfl, ?_, O6.wI (by unfold PB; omega), P6.wI (by omega)⟩
            · show bX6_bringsHome_103 93 1 (nI x) (nI m) M6 = _
              unfold bX6_bringsHome_103
              rw [if_neg (show ¬ (3 : Int32) ≤ nI m by rw [L3, nle_F (by omega) (by omega)]; exact id), es, cal_ok, np1]
            · rw [gn_s]
              exact rv_setm2 hV6 hVX.n8 hVX.b4 (m := m) (x := x) (v := 0) hm (by omega)) (s := (3, 93, 0, 0, 1, 0, nI x, 0, M5)) ⟨M5, rfl, j0, O5b, O5.mo (fun c j z => by unfold Pf at z; omega)⟩
          have r6 := O6.ro h
          obtain ⟨M7, e7, -, -, O7⟩ := follows_ok r6 (f := 2) (by decide) hV6 hVX.vw.gn hVX.b4 (p := p) (by show p < tn U; omega)
          have fwG : fwT (gnT (addS U S (tn T)) x 3) = gnW U S x := by
            rw [fw_gn (T := addS U S (tn T)) hVX.n8 (fun x hx => hVX.k5 hx)]
            have f1 : stS (addS U S (tn T)) = stS U ||| difN S (ofK U 5) := congrArg (fun q => q.2.1) fwA
            have f2 : knS (addS U S (tn T)) = knS U := congrArg (fun q => q.2.2.1) fwA
            have f3 : crS (addS U S (tn T)) = crS U := congrArg (fun q => q.2.2.2) fwA
            rw [f1, f2, f3]
            rfl
          rw [fwG] at e7
          have e7 : fX6_follows 93 2 (nI p) M6 = some (if (foL (gnW U S x) p).2 then 1 else 0, M7) := e7
          have O7b : Off PB M M7 := O6.tr (O7.mo (fun c j z => by unfold PB; omega))
          have hV7 : RVd 1 (addS U S (tn T)) M7 := hV4.off hVX.n8 hVX.b4 (P := fun c j => c = 113 ∨ c = 93 ∧ j = 32 ∨ c = 106 ∧ 78 ≤ j) (fun c j z => by rw [O7.1 c j (by omega), P6.1 c j (by omega)]) (fun c j z => by omega)
          have t2 : fnl gX6_bringsHome (3, 93, 0, 0, 1, 0, nI x, nI 3, M6) = fnl gX6_bringsHome (2, 93, 0, 0, 1, (if (foL (gnW U S x) p).2 then 1 else 0), nI (x + 1), 0, M7) := by
            refine fnl_in ?_
            show bX6_bringsHome_103 93 1 (nI x) (nI 3) M6 = _
            unfold bX6_bringsHome_103
            rw [if_pos (show (3 : Int32) ≤ nI 3 by decide), gfI_e, pe M6 O6, e7, cal_ok, np1]
          rw [t1, e6, t2]
          by_cases w : (foL (gnW U S x) p).2 = true
          · rw [if_pos w]
            obtain ⟨M8, e8, O8⟩ := ih (x + 1) M7 (by omega) hV7 O7b
            refine ⟨M8, ?_, O8⟩
            rw [e8]
            show _ = some (if ((foL (gnW U S x) p).2 && allF (fun x => (foL (gnW U S x) p).2) d (x + 1)) = true then 1 else 0, M8)
            rw [w, Bool.true_and]
          · rw [if_neg w]
            refine ⟨M7, (fnl_out (r := (0, M7)) ?_).trans ?_, O7b⟩
            · show bX6_bringsHome_76 93 1 0 (nI (x + 1)) M7 = _
              unfold bX6_bringsHome_76 bX6_bringsHome_142
              rw [gfI_e, if_neg (show ¬ (1 : Int32) = 0 by decide), if_pos (show (0 : Int32) = 0 from rfl)]
              by_cases z : M7.1 93 10 ≤ nI (x + 1)
              · rw [if_pos z]; rfl
              · rw [if_neg z]; rfl
            · show _ = some (if ((foL (gnW U S x) p).2 && allF (fun x => (foL (gnW U S x) p).2) d (x + 1)) = true then 1 else 0, M7)
              rw [show (foL (gnW U S x) p).2 = false by simpa using w, Bool.false_and]
              rfl
      rw [hUn]
      exact key (tn T) 0 M4 (by omega) hV4 O4b
  · rw [if_neg q, show (foL (wsT U S) p).2 = false by simpa using q, Bool.false_and]
    refine ⟨M4, fnl_out ?_, O4b⟩
    show bX6_bringsHome_76 93 gI 0 0 M4 = _
    unfold bX6_bringsHome_76 bX6_bringsHome_142
    rw [gfI_e, if_pos (show (0 : Int32) = 0 from rfl)]
    by_cases z : M4.1 93 10 ≤ 0
    · rw [if_pos z]; rfl
    · rw [if_neg z]
      by_cases w : gI = 0
      · rw [if_pos w]; rfl
      · rw [if_neg w]; rfl
end


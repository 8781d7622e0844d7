/-! FEWEST, SUREST: the calls -/
theorem plan_ok (M : Mm) (h : Rel M) (r n : Int32) (g : Bool) : Good Rel (fX5_plan 0 r n (if g then 1 else 0) M) (fun M1 => cal (fX6_needPlan 93 r n M1) fun v2 M1 => if 0 ≤ v2 then cal (fX6_stonesFor 93 n (if g then 1 else 0) M1) fun v4 M3 => some ((v4, M3)) else some ((v2, M1))) := by
  obtain ⟨hRO, hF, hR, hX, T, hV, hC, hW, hK⟩ := id h
  have hn8 := hV.n8
  obtain ⟨gI, hgI⟩ : ∃ gI : Int32, gI = if g then 1 else 0 := ⟨_, rfl⟩
  by_cases hr : 0 ≤ r ∧ r < 6
  · have hr2 : 0 ≤ r ∧ r ≤ 5 := (below_in (n := 5) (by decide)).mp hr
    obtain ⟨k, hk, rfl⟩ := i32_lt_nat (n := 6) (by decide) hr.1 hr.2
    by_cases hh : 0 ≤ n ∧ n ≤ 40
    · obtain ⟨m, hm, rfl⟩ := i32_le_nat (n := 40) (by decide) hh.1 hh.2
      by_cases h0 : tn T = 0
      · refine ⟨-4, M, M, ?_, ?_, h⟩
        · unfold fX5_plan bX5_plan_0
          rw [isBelow_ok, cal_ok, if_pos hr, if_neg (by decide), isUpTo_ok, cal_ok, if_pos hh, if_neg (by decide), g33 hRO, emp1 hC hV h0, cal_ok, if_neg (by decide), fen_r]
        · show cal (fX6_needPlan 93 (nI k) (nI m) M) _ = _
          unfold fX6_needPlan bX6_needPlan_0
          rw [isRow_ok, cal_ok, if_pos hr2, if_neg (by decide), in_ok, cal_ok, if_pos hh, if_neg (by decide), gfI_e, hW.1, h0, if_pos nI_0, fen_r, cal_ok, if_neg (by decide)]
      · have hne : ¬ nI (tn T) = 0 := nI_ne0 (by omega) (by omega)
        rcases hR k hk with ⟨z1, z2⟩ | ⟨sz, hsz, z1, z2, z3⟩
        · have er := refuse_ok hRO (v := 1) (f := 1) rfl (by decide)
          have rM : RO (refuseM M 1) := hRO
          have em := meets_ok (M := refuseM M 1) rM (v := 1) (f := 1) rfl (by decide)
          have w10 : (refuseM M 1).1 93 10 = nI (tn T) := hW.1
          have w95 : (refuseM M 1).1 95 k = -1 := by
            unfold refuseM
            rw [wI_at, if_neg (by omega), wI_at, if_neg (by omega)]; exact z2
          refine ⟨-3, refuseM M 1, meetsM (refuseM M 1) 1, ?_, ?_, rel_refuse h 1⟩
          · unfold fX5_plan bX5_plan_0
            rw [isBelow_ok, cal_ok, if_pos hr, if_neg (by decide), isUpTo_ok, cal_ok, if_pos hh, if_neg (by decide), g33 hRO, emp0 hC hV h0, cal_ok, if_pos rfl, g1s hRO, ldRow hRO hk, isMissing_ok, cal_ok, z1, if_neg (show ¬ (0 : Int32) ≤ -1 by decide), if_neg (by decide), er, cal_ok, fen_r]
          · show cal (fX6_needPlan 93 (nI k) (nI m) (refuseM M 1)) _ = _
            unfold fX6_needPlan bX6_needPlan_0
            rw [isRow_ok, cal_ok, if_pos hr2, if_neg (by decide), in_ok, cal_ok, if_pos hh, if_neg (by decide), gfI_e, w10, if_neg hne, r93_95 rM, ld95 hk, w95, if_neg (show ¬ (0 : Int32) ≤ -1 by decide), em, cal_ok, fen_r, cal_ok, if_neg (by decide)]
        · have hz0 : (0 : Int32) ≤ nI sz := by rw [n0le_T (by omega)]; trivial
          by_cases h8 : sz ≤ 8
          · have hle : nI sz ≤ 8 := nI_le h8 (by decide)
            have hhere := here_lt hV h0
            obtain ⟨f, hf⟩ : ∃ f, f = fun i => M.1 96 (40 * k + i) := ⟨_, rfl⟩
            have e5 := plan5_go hRO hC hV (n := m) hk h8 z1 (f := f) (fun i hi => by rw [hf]; exact z3 i hi) gI sz 0 (hereN T) (2 ^ hereN T) (by omega) hhere (pow_lt hhere)
            have s5 : fX5_plan 0 (nI k) (nI m) gI M = fnl gX5_plan (1, 0, nI k, nI m, gI, nI (hereN T), nI (2 ^ hereN T), nI 0, M) := by
              unfold fX5_plan bX5_plan_0
              rw [isBelow_ok, cal_ok, if_pos hr, if_neg (by decide), isUpTo_ok, cal_ok, if_pos hh, if_neg (by decide), g33 hRO, emp0 hC hV h0, cal_ok, if_pos rfl, g1s hRO, ldRow hRO hk, isMissing_ok, cal_ok, z1, if_pos hz0, if_pos rfl, g1s hRO, ldRow hRO hk, gfI_e, z1, if_pos hle, g33 hRO, standing_ok hRO w33 hC hV.s30, cal_ok, show tz T (ts T) = hereN T from rfl, shl1 _ (by omega), ltI_e, fen_l]
              rfl
            have s6 : ∀ M1 : Mm, RO M1 → RWd T M1 → M1.1 95 k = nI sz → fX6_needPlan 93 (nI k) (nI m) M1 = fnl gX6_needPlan (1, 93, nI k, nI 0, wI (wI M1 93 38 (nI (hereN T))) 93 37 (nI (2 ^ hereN T))) := by
              intro M1 r1 hW1 y1
              unfold fX6_needPlan bX6_needPlan_0
              rw [isRow_ok, cal_ok, if_pos hr2, if_neg (by decide), in_ok, cal_ok, if_pos hh, if_neg (by decide), gfI_e, hW1.1, if_neg hne, r93_95 r1, ld95 hk, y1, if_pos hz0, r93_95 r1, ld95 hk, y1, if_pos hle, hereNow2 r1 hW1 hV, cal_ok, pfI_e, gfI_e, show (wI M1 93 38 (nI (hereN T))).1 93 38 = nI (hereN T) by rw [wI_at, if_pos ⟨rfl, rfl⟩], shl1 _ (by omega), pfI_e, fen_l]
              rfl
            have g6 : ∀ M1 : Mm, RO M1 → RWd T M1 → M1.1 95 k = nI sz → (∀ i, i < sz → M1.1 96 (40 * k + i) = f i) → ∃ M2, Off P37 M1 M2 ∧ fX6_needPlan 93 (nI k) (nI m) M1 = (match plG T f sz 0 (hereN T) (2 ^ hereN T) with
                | none => some (-3, meetsM M2 3)
                | some _ => some (0, M2)) ∧ (∀ r, plG T f sz 0 (hereN T) (2 ^ hereN T) = some r → M2.1 93 38 = nI r.1 ∧ M2.1 93 37 = nI r.2) := by
              intro M1 r1 hW1 y1 y2
              have o : Off P37 M1 (wI (wI M1 93 38 (nI (hereN T))) 93 37 (nI (2 ^ hereN T))) := (Off.rf.wI ⟨rfl, Or.inr rfl⟩).wI ⟨rfl, Or.inl rfl⟩
              obtain ⟨M2, O2, e2, f2⟩ := plan6_go hV hk h8 (f := f) sz 0 (hereN T) (2 ^ hereN T) (wI (wI M1 93 38 (nI (hereN T))) 93 37 (nI (2 ^ hereN T))) (by omega) hhere (pow_lt hhere) r1 (hW1.same2 hV (fun c j q => o.1 c j (fun z => by unfold P37 at z; omega))) (by rw [o.1 _ _ (fun z => by unfold P37 at z; omega)]; exact y1) (fun i hi => by rw [o.1 _ _ (fun z => by unfold P37 at z; omega)]; exact y2 i hi) (by rw [wI_at, if_neg (by omega), wI_at, if_pos ⟨rfl, rfl⟩]) (by rw [wI_at, if_pos ⟨rfl, rfl⟩])
              exact ⟨M2, o.tr O2, (s6 M1 r1 hW1 y1).trans e2, f2⟩
            rw [← hgI]
            cases hp : plG T f sz 0 (hereN T) (2 ^ hereN T) with
            | none =>
              rw [hp] at e5
              have o1 : ∀ c j, c ≠ 0 → c ≠ 12 → (refuseM M 3).1 c j = M.1 c j := fun c j a b => by
                unfold refuseM
                rw [wI_at, if_neg (by omega), wI_at, if_neg (by omega)]
              obtain ⟨M2, O2, e2, -⟩ := g6 (refuseM M 3) hRO (hW.same2 hV (fun c j q => o1 c j (by omega) (by omega))) (by rw [o1 _ _ (by omega) (by omega)]; exact z2) (fun i hi => by rw [o1 _ _ (by omega) (by omega), hf])
              rw [hp] at e2
              refine ⟨-3, refuseM M 3, meetsM M2 3, s5.trans e5, ?_, rel_37 h (by decide) O2⟩
              show cal (fX6_needPlan 93 (nI k) (nI m) (refuseM M 3)) _ = _
              rw [e2, cal_ok, if_neg (by decide)]
            | some ps =>
              rw [hp] at e5
              obtain ⟨lp, lS⟩ := plG_in hn8 _ _ _ _ _ hp hhere (pow_lt hhere)
              obtain ⟨M1, e1, hC1, O1⟩ := become_ok hRO w45 w33 (by decide) hC hV
              have r1 := O1.ro hRO
              obtain ⟨M2, e2, hC2, O2⟩ := pass_ok r1 w45 hC1 hV (n := m) (by omega)
              have r2 := O2.ro r1
              have hVU := hV.hs m
              have hUn : tn (hsT T m) = tn T := (hs_n m).1
              obtain ⟨M3, e3, g3, O3⟩ := look_ok r2 w45 hC2 hVU
              have r3 := O3.2.2
              have hC3 : CWd 45 (hsT T m) M3 := hC2.pt (fun c j q1 q2 => O3.1 c j (by omega))
              obtain ⟨M4, e4, O4⟩ := few_ok r3 w45 hC3 hVU g3 (off := ps.2) (p := ps.1) (by rw [hUn]; exact lS) (by rw [hUn]; exact lp) g
              rw [← hgI] at e4
              have r4 := O4.ro r3
              have O14 : Of2 PA M M4 := ((((O1.of2 hRO).mo (fun c j z => by unfold PA; omega)).tr ((O2.of2 r1).mo (fun c j z => by unfold PA; omega))).tr (O3.mo (fun c j z => by unfold PA; omega))).tr ((O4.of2 r3).mo (fun c j z => by unfold PA; omega))
              have hl8 := pow_lt8 hn8 lS
              have hbs := bsS_lt (lead := leadB (hsT T m) g ps.1) (off := ps.2) (ps.2 + 1) (by omega)
              have x5 : bX5_plan_89 0 (nI k) (nI m) gI (nI ps.1) (nI ps.2) (nI sz) M = if cvI (bsS (leadB (hsT T m) g ps.1) ps.2 (ps.2 + 1)) = -9 then some (.inr (-9, M4)) else some (.inr (bcI (cvI (bsS (leadB (hsT T m) g ps.1) ps.2 (ps.2 + 1))), wI M4 0 10 (cvI (bsS (leadB (hsT T m) g ps.1) ps.2 (ps.2 + 1))))) := by
                unfold bX5_plan_89
                rw [g1s hRO, ldRow hRO hk, gfI_e, z1, if_pos (nI_le (Nat.le_refl _) (by omega)), g45 hRO, g33 hRO, e1, cal_ok, g45 r1, e2, cal_ok, g6s r2, g45 r2, e3, cal_ok, g6s r3, e4, cal_ok, pfI_e, bitCount_ok, cal_ok]
              obtain ⟨c, hc⟩ : ∃ c, c = bsS (leadB (hsT T m) g ps.1) ps.2 (ps.2 + 1) := ⟨_, rfl⟩
              rw [← hc] at x5 hbs
              have fin : ∀ M5 : Mm, (∀ c j, ¬ PA c j → ¬ (c = 0 ∧ j = 10) → M5.1 c j = M.1 c j) → RO M5 → ∃ M6, Off (fun c j => PB c j ∨ P37 c j) M5 M6 ∧ cal (fX6_needPlan 93 (nI k) (nI m) M5) (fun v2 M1 => if 0 ≤ v2 then cal (fX6_stonesFor 93 (nI m) gI M1) fun v4 M3 => some ((v4, M3)) else some ((v2, M1))) = some (if c = 256 then (-9, M6) else (nI (cntN c), wI M6 93 2 (nI c))) := by
                intro M5 o5 r5
                have hW5 : RWd T M5 := hW.same2 hV (fun c j q => o5 c j (fun z => by unfold PA at z; omega) (by omega))
                obtain ⟨M6, O6, e6, f6⟩ := g6 M5 r5 hW5 (by rw [o5 _ _ (fun z => by unfold PA at z; omega) (by omega)]; exact z2) (fun i hi => by rw [o5 _ _ (fun z => by unfold PA at z; omega) (by omega), hf])
                rw [hp] at e6
                obtain ⟨q1, q2⟩ := f6 ps hp
                have r6 := O6.ro r5
                have hW6 : RWd T M6 := hW5.same2 hV (fun c j q => O6.1 c j (fun z => by unfold P37 at z; omega))
                obtain ⟨M7, O7, e7⟩ := stones_ok r6 hW6 hV lS lp q1 q2 hm g
                rw [← hgI, ← hc] at e7
                refine ⟨M7, (O6.mo (fun c j z => Or.inr z)).tr (O7.mo (fun c j z => Or.inl z)), ?_⟩
                rw [e6, cal_ok, if_pos (show (0 : Int32) ≤ 0 by decide), e7]
                rfl
              have st5 : fnl gX5_plan (1, 0, nI k, nI m, gI, nI ps.1, nI ps.2, nI sz, M) = if c = 256 then some (-9, M4) else some (nI (cntN c), wI M4 0 10 (nI c)) := by
                by_cases q : c = 256
                · rw [if_pos q]
                  refine fnl_out ?_
                  rw [if_pos (show cvI c = -9 by unfold cvI; rw [if_pos q])] at x5
                  exact x5
                · rw [if_neg q]
                  refine fnl_out ?_
                  rw [if_neg (cv_no (by omega)), show cvI c = nI c by unfold cvI; rw [if_neg q], bc_all c (by omega)] at x5
                  exact x5
              have s5' : fX5_plan 0 (nI k) (nI m) gI M = if c = 256 then some (-9, M4) else some (nI (cntN c), wI M4 0 10 (nI c)) := (s5.trans e5).trans st5
              by_cases q : c = 256
              · rw [if_pos q] at s5'
                obtain ⟨M6, O6, e6⟩ := fin M4 (fun c j a _ => O14.1 c j a) r4
                rw [if_pos q] at e6
                refine ⟨-9, M4, M6, s5', e6, h.sc (O6.ro r4) (fun c j hi => ?_) (by rw [O6.2]; exact O14.2.1)⟩
                unfold imp at hi
                rw [O6.1 c j (fun z => by unfold PB P37 at z; omega), O14.1 c j (fun z => by unfold PA at z; omega)]
              · rw [if_neg q] at s5'
                have o5 : ∀ x j, ¬ PA x j → ¬ (x = 0 ∧ j = 10) → (wI M4 0 10 (nI c)).1 x j = M.1 x j := fun x j a b => by rw [wI_at, if_neg b]; exact O14.1 x j a
                obtain ⟨M6, O6, e6⟩ := fin (wI M4 0 10 (nI c)) o5 r4
                rw [if_neg q] at e6
                have L6 : M6.2.1 = M.2.1 := by rw [O6.2]; exact O14.2.1
                refine ⟨nI (cntN c), wI M4 0 10 (nI c), wI M6 93 2 (nI c), s5', e6, h.sct (O6.ro (r4 : RO (wI M4 0 10 (nI c))) : RO M6) (fun x j hi q1 q2 => ?_) ?_ ?_ ?_⟩
                · unfold imp at hi
                  rw [wI_at, if_neg q2, O6.1 x j (fun z => by unfold PB P37 at z; omega), o5 x j (fun z => by unfold PA at z; omega) q1]
                · rw [wI_at, if_neg (by omega), wI_at, if_pos ⟨rfl, rfl⟩, O6.1 0 10 (fun z => by unfold PB P37 at z; omega), wI_at, if_pos ⟨rfl, rfl⟩]
                · show M6.2.1 0 11 = M6.2.1 93 3
                  rw [L6]; exact hF.2.2.2.1
                · show M6.2.1 0 12 = M6.2.1 93 4
                  rw [L6]; exact hF.2.2.2.2
          · have hle : ¬ nI sz ≤ 8 := by rw [L8, nle_F (by omega) (by omega)]; exact id
            have er := refuse_ok hRO (v := 5) (f := 5) rfl (by decide)
            have rM : RO (refuseM M 5) := hRO
            have em := meets_ok (M := refuseM M 5) rM (v := 5) (f := 5) rfl (by decide)
            have w10 : (refuseM M 5).1 93 10 = nI (tn T) := hW.1
            have w95 : (refuseM M 5).1 95 k = nI sz := by
              unfold refuseM
              rw [wI_at, if_neg (by omega), wI_at, if_neg (by omega)]; exact z2
            refine ⟨-3, refuseM M 5, meetsM (refuseM M 5) 5, ?_, ?_, rel_refuse h 5⟩
            · unfold fX5_plan bX5_plan_0
              rw [isBelow_ok, cal_ok, if_pos hr, if_neg (by decide), isUpTo_ok, cal_ok, if_pos hh, if_neg (by decide), g33 hRO, emp0 hC hV h0, cal_ok, if_pos rfl, g1s hRO, ldRow hRO hk, isMissing_ok, cal_ok, z1, if_pos hz0, if_pos rfl, g1s hRO, ldRow hRO hk, gfI_e, z1, if_neg hle, er, cal_ok, fen_r]
            · show cal (fX6_needPlan 93 (nI k) (nI m) (refuseM M 5)) _ = _
              unfold fX6_needPlan bX6_needPlan_0
              rw [isRow_ok, cal_ok, if_pos hr2, if_neg (by decide), in_ok, cal_ok, if_pos hh, if_neg (by decide), gfI_e, w10, if_neg hne, r93_95 rM, ld95 hk, w95, if_pos hz0, r93_95 rM, ld95 hk, w95, if_neg hle, em, cal_ok, fen_r, cal_ok, if_neg (by decide)]
    · refine ⟨-1, M, M, ?_, ?_, h⟩
      · unfold fX5_plan bX5_plan_0 bX5_plan_18
        rw [isBelow_ok, cal_ok, if_pos hr, if_neg (by decide), isUpTo_ok, cal_ok, if_neg hh, if_pos rfl, fen_r]
      · show cal (fX6_needPlan 93 (nI k) n M) _ = _
        unfold fX6_needPlan bX6_needPlan_0 bX6_needPlan_17
        rw [isRow_ok, cal_ok, if_pos hr2, if_neg (by decide), in_ok, cal_ok, if_neg hh, if_pos rfl, fen_r, cal_ok, if_neg (by decide)]
  · have hr2 : ¬ (0 ≤ r ∧ r ≤ 5) := fun q => hr ((below_in (n := 5) (by decide)).mpr q)
    refine ⟨-1, M, M, ?_, ?_, h⟩
    · unfold fX5_plan bX5_plan_0 bX5_plan_18
      rw [isBelow_ok, cal_ok, if_neg hr, if_pos rfl, fen_r]
    · show cal (fX6_needPlan 93 r n M) _ = _
      unfold fX6_needPlan bX6_needPlan_0 bX6_needPlan_17
      rw [isRow_ok, cal_ok, if_neg hr2, if_pos rfl, fen_r, cal_ok, if_neg (by decide)]
theorem op_fewest (M : Mm) (h : Rel M) (r n : Int32) : Good Rel (fX5_fewest 0 r n M) (fX6_fewest 93 r n) := by
  obtain ⟨v, M1, M2, e1, e2, h2⟩ := plan_ok M h r n false
  refine ⟨v, M1, M2, ?_, e2, h2⟩
  unfold fX5_fewest
  rw [show fX5_plan 0 r n 0 M = some (v, M1) from e1, cal_ok]
theorem op_surest (M : Mm) (h : Rel M) (r n : Int32) : Good Rel (fX5_surest 0 r n M) (fX6_surest 93 r n) := by
  obtain ⟨v, M1, M2, e1, e2, h2⟩ := plan_ok M h r n true
  refine ⟨v, M1, M2, ?_, e2, h2⟩
  unfold fX5_surest
  rw [show fX5_plan 0 r n 1 M = some (v, M1) from e1, cal_ok]


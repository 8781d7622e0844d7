/-! LOTS: the reference -/
def PLw (c j : Nat) : Prop := c = 93 ∧ j = 25 ∨ c = 106 ∨ c = 107
section
variable {M : Mm} {T : WT}
theorem drop6_ok (h : RO M) (hW : RWd T M) (hV : VT T) {k : Nat} (hk : k < 3) (hq : tq T k ≠ 0) (hn : tn T ≠ 0) : fX6_drop 93 (nI k) M = some (nI (tq T k - 1), dropR (setq T k (tq T k - 1)) (wI M 106 (36 + k) (nI (tq T k - 1))) k (hereN T)) := by
  have hn8 := hV.n8
  have hpk := hV.pk hk
  have hz := here_lt hV hn
  have hm2 : 0 ≤ nI k ∧ nI k ≤ 2 := ⟨by rw [n0le_T (by omega)]; trivial, by rw [show (2 : Int32) = nI 2 from rfl, nle_T (by omega) (by decide)]; trivial⟩
  have hne : ¬ nI (tq T k) = 0 := nI_ne0 (by omega) (by omega)
  have e1 : nI (tq T k) - 1 = nI (tq T k - 1) := nsub (b := 1) (by omega)
  have hV3 : VT (setq T k (tq T k - 1)) := hV.setq hn (by omega)
  have hW3 : RWd (setq T k (tq T k - 1)) (wI M 106 (36 + k) (nI (tq T k - 1))) := hW.setq hn8 hV.b4 hk
  have eh : fX6_hereNow 93 (wI M 106 (36 + k) (nI (tq T k - 1))) = some (nI (hereN T), wI M 106 (36 + k) (nI (tq T k - 1))) := by
    have := hereNow_ok (h.wI 106 (36 + k) (nI (tq T k - 1))) hW3 hV3.s30
    exact this
  have ed := drops_ok (h.wI 106 (36 + k) (nI (tq T k - 1))) hW3 hV3 hk (x := hereN T) hz
  unfold fX6_drop
  rw [in_ok, cal_ok, if_pos hm2, if_neg (by decide), v0_ok h (v := 36) 36 (i := k) rfl (by omega), cal_ok, hW.2.2.2.2.2.2.2.2.1 k hk, if_neg hne, e1, set0_ok h (w := 36) 36 (i := k) rfl (by omega), cal_ok, eh, cal_ok, ed, cal_ok]
theorem lots6_go {n : Nat} (hn : n ≤ 20) : ∀ d i (T : WT) N (M : Mm), i + d = n → VT T → tn T ≠ 0 → RWd T M → RO M → ts T + d ≤ 30 → N < 2147483647 → ∃ M1, fnl gX6_lots (1, 93, nI n, jn N, nI i, 0, 0, 0, M) = some (nI (ltF d i T N).1, M1) ∧ RWd (ltF d i T N).2 M1 ∧ Off PLw M M1 := by
  intro d
  induction d with
  | zero =>
    intro i T N M hi hV h0 hW h hs hN
    refine ⟨M, fnl_out ?_, hW, Off.rf⟩
    show bX6_lots_53 93 (nI n) (jn N) (nI i) M = _
    unfold bX6_lots_53 bX6_lots_205
    rw [show i = n by omega, if_pos (nI_le (Nat.le_refl _) (by omega))]
    rfl
  | succ d ih =>
    intro i T N M hi hV h0 hW h hs hN
    have hn8 := hV.n8
    have hh := here_lt hV h0
    have he : lx T < 256 := hV.e8 hh
    have hlt : ¬ nI n ≤ nI i := by rw [nle_F (by omega) (by omega)]; exact id
    have ee : M.1 101 (hereN T) = nI (lx T) := hW.2.2.2.2.1 _ hh
    have e0 : ltF (d + 1) i T N = if lx T = 0 then (i, T) else ltF d (i + 1) (ltT T (nxL N)) (nxL N) := rfl
    have eh := hereNow2 h hW hV
    rw [e0]
    by_cases ql : lx T = 0
    · rw [if_pos ql]
      refine ⟨M, fnl_out ?_, hW, Off.rf⟩
      show bX6_lots_53 93 (nI n) (jn N) (nI i) M = _
      unfold bX6_lots_53 bX6_lots_205
      rw [if_neg hlt, r93_101 h, eh, cal_ok, ld101 (by omega), ee, ql, if_pos nI_0]
    · rw [if_neg ql]
      obtain ⟨k1, k2, k3⟩ := lpl_in hV h0 ql (nxL N)
      obtain ⟨l1, l2⟩ := lot_num hN
      obtain ⟨v1, v2, v3, v4, v5⟩ := vt_lt hV h0 ql (by omega) (nxL N)
      have hnx : ¬ nI (lx T) = 0 := nI_ne0 (by omega) (by omega)
      have eb := bits_ok (M := M) he
      have c0 := cnt_0 _ he ql
      have er : jn (nxL N) - jn (nxL N) / (nI (cntN (lx T))).toInt64 * (nI (cntN (lx T))).toInt64 = jn (nxL N % cntN (lx T)) := by
        rw [jn_I (by omega)]
        exact jn_rm (by omega) (by omega)
      have hcz : ¬ (nI (cntN (lx T))).toInt64 = 0 := by rw [jn_I (by omega)]; exact jn_ne c0 (by omega)
      have hsc := sc_all (lx T) he (nxL N % cntN (lx T)) (by omega) k1
      have hmb := mb_all (lx T) he (nxL N % cntN (lx T)) (by omega) k1
      obtain ⟨J, hJ⟩ : ∃ J, J = nxL N % cntN (lx T) := ⟨_, rfl⟩
      have hB : mbN (lx T) J = lpl T (nxL N) := by rw [hJ]; rfl
      rw [← hJ] at hsc hmb k1 er
      rw [hB] at hsc hmb
      have h8 := hmb.2.1
      have hj0 : lfN (lx T) J 0 = J := rfl
      have s1 : fnl gX6_lots (1, 93, nI n, jn N, nI i, 0, 0, 0, M) = fnl gX6_lots (2, 93, nI n, jn (nxL N), nI i, nI (lx T), nI (lfN (lx T) J 0), nI 0, M) := by
        refine fnl_in ?_
        show bX6_lots_53 93 (nI n) (jn N) (nI i) M = _
        unfold bX6_lots_53
        rw [if_neg hlt, r93_101 h, eh, cal_ok, ld101 (by omega), ee, if_neg hnx, show (48271 : Int64) * jn N = jn N * 48271 from Int64.mul_comm _ _, rmJ_ok (show ¬ (2147483647 : Int64) = 0 by decide), l1, r93_101 h, eh, cal_ok, ld101 (by omega), ee, eb, cal_ok, rmJ_ok hcz, er, jn_32 (by omega), ltI_e, hj0]
        rfl
      have s2 := fnl_up (g := gX6_lots) (fun x => (2, 93, nI n, jn (nxL N), nI i, nI (lx T), nI (lfN (lx T) J x), nI x, M)) (lpl T (nxL N)) (fun x hx => by
        have q := hsc.1 x hx
        have eh2 := has_ok (M := M) he (y := x) (by omega)
        have hb : lfN (lx T) J x ≤ J := Nat.sub_le _ _
        show bX6_lots_106 93 (nI n) (jn (nxL N)) (nI i) (nI (lx T)) (nI (lfN (lx T) J x)) (nI x) M = _
        unfold bX6_lots_106 bX6_lots_121 bX6_lots_138
        by_cases t : (lx T).testBit x = true
        · rw [if_pos t] at eh2
          have e2 : lfN (lx T) J (x + 1) = lfN (lx T) J x - 1 := by rw [q.2, if_pos t]
          have hl0 : lfN (lx T) J x ≠ 0 := by
            rcases q.1 with z | z
            · rw [t] at z; exact absurd z (by decide)
            · exact z
          rw [eh2, cal_ok, if_neg (show ¬ (1 : Int32) = 0 by decide), if_neg (show ¬ nI (lfN (lx T) J x) ≤ 0 by rw [nle0_F (by omega) (by omega)]; exact id), eh2, cal_ok, if_neg (show ¬ (1 : Int32) = 0 by decide), show nI (lfN (lx T) J x) - 1 = nI (lfN (lx T) J x - 1) from nsub (b := 1) (by omega), ltI_e, np1, ← e2]
        · rw [if_neg t] at eh2
          have e2 : lfN (lx T) J (x + 1) = lfN (lx T) J x := by rw [q.2, if_neg t]; rfl
          rw [eh2, cal_ok, if_pos (show (0 : Int32) = 0 from rfl), eh2, cal_ok, if_pos (show (0 : Int32) = 0 from rfl), show nI (lfN (lx T) J x) - 0 = nI (lfN (lx T) J x) from nsub (b := 0) (by omega), ltI_e, np1, ← e2])
      obtain ⟨M2, hM2⟩ : ∃ M2, M2 = wI (wI M 93 25 (nI (ts T + 1))) 107 (ts T + 1) (nI (lpl T (nxL N))) := ⟨_, rfl⟩
      have r2 : RO M2 := by rw [hM2]; exact h
      have hW2 : RWd (setz T (lpl T (nxL N))) M2 := by rw [hM2]; exact hW.setz
      have O2 : Off PLw M M2 := by rw [hM2]; exact (Off.rf.wI (Or.inl ⟨rfl, rfl⟩)).wI (Or.inr (Or.inr rfl))
      have key : ∀ M3 : Mm, RO M3 → RWd (ltT T (nxL N)) M3 → Off PLw M M3 → bX6_lots_106 93 (nI n) (jn (nxL N)) (nI i) (nI (lx T)) (nI (lfN (lx T) J (lpl T (nxL N)))) (nI (lpl T (nxL N))) M = some (.inl (1, 93, nI n, jn (nxL N), nI (i + 1), 0, 0, 0, M3)) → ∃ M1, fnl gX6_lots (1, 93, nI n, jn N, nI i, 0, 0, 0, M) = some (nI (ltF d (i + 1) (ltT T (nxL N)) (nxL N)).1, M1) ∧ RWd (ltF d (i + 1) (ltT T (nxL N)) (nxL N)).2 M1 ∧ Off PLw M M1 := by
        intro M3 r3 hW3 O3 e3
        obtain ⟨M4, e4, hW4, O4⟩ := ih (i + 1) (ltT T (nxL N)) (nxL N) M3 (by omega) v1 (by rw [v2]; exact h0) hW3 r3 (by rw [v5]; omega) l2
        exact ⟨M4, s1.trans (s2.trans ((fnl_in e3).trans e4)), hW4, O3.tr O4⟩
      have pre : ∀ z, bX6_lots_106 93 (nI n) (jn (nxL N)) (nI i) (nI (lx T)) (nI (lfN (lx T) J (lpl T (nxL N)))) (nI (lpl T (nxL N))) M = z ↔ (if lg_cmp (jn (nxL N) / 64 - jn (nxL N) / 64 / 2 * 2) 1 = 0 then cal (fX6_v 93 0 36 0 M2) fun v14 M13 => if v14 ≤ 0 then bX6_lots_202 93 (nI n) (jn (nxL N)) (nI i + 1) M13 else cal (fX6_drop 93 0 M13) fun v16 M15 => bX6_lots_202 93 (nI n) (jn (nxL N)) (nI i + 1) M15 else bX6_lots_202 93 (nI n) (jn (nxL N)) (nI i + 1) M2) = z := by
        intro z
        have eh2 := has_ok (M := M) he h8
        rw [if_pos hmb.2.2] at eh2
        unfold bX6_lots_106
        rw [hsc.2, eh2, cal_ok, if_neg (show ¬ (1 : Int32) = 0 by decide), if_pos (show nI 0 ≤ 0 by decide), gfI_e, hW.2.2.1, pfI_e, np1 (a := ts T), r93_107 (h.wI _ _ _), gfI_e, wI_at, if_pos ⟨rfl, rfl⟩, st_w 31 (show ln 107 = 31 from rfl) (show ts T + 1 < 31 by omega) (by decide), dvJ_ok (show ¬ (64 : Int64) = 0 by decide), rmJ_ok two_ne, ← hM2]
      have hz2 := VT.setz hV (v := lpl T (nxL N)) h0 k3 (by omega)
      have q2 : M2.1 106 (36 + 0) = nI (tq T 0) := hW2.2.2.2.2.2.2.2.2.1 0 (by decide)
      have hq9 := hV.pk (m := 0) (by decide)
      have ev : fX6_v 93 0 36 0 M2 = some (nI (tq T 0), M2) := by
        have := v0_ok r2 (v := 36) 36 (i := 0) rfl (by decide)
        rw [q2] at this
        exact this
      by_cases qa : nxL N / 64 % 2 = 1
      · by_cases qb : tq T 0 = 0
        · have et : ltT T (nxL N) = setz T (lpl T (nxL N)) := by unfold ltT; rw [if_neg (fun z => z.2 qb)]
          refine key M2 r2 (by rw [et]; exact hW2) O2 ((pre _).mpr ?_)
          unfold bX6_lots_202
          rw [if_pos ((lot_odd l2).mpr qa), ev, cal_ok, qb, if_pos (show nI 0 ≤ 0 by decide), np1]
        · have et : ltT T (nxL N) = dropT (setq (setz T (lpl T (nxL N))) 0 (tq T 0 - 1)) 0 (lpl T (nxL N)) := by unfold ltT; rw [if_pos ⟨qa, qb⟩]
          have ed := drop6_ok r2 hW2 hz2 (k := 0) (by decide) qb h0
          have hzz : hereN (setz T (lpl T (nxL N))) = lpl T (nxL N) := by
            show (if ts T + 1 = ts T + 1 then lpl T (nxL N) else tz T (ts T + 1)) = _
            rw [if_pos rfl]
          rw [hzz] at ed
          have ed : fX6_drop 93 0 M2 = some (nI (tq T 0 - 1), dropR (setq (setz T (lpl T (nxL N))) 0 (tq T 0 - 1)) (wI M2 106 (36 + 0) (nI (tq T 0 - 1))) 0 (lpl T (nxL N))) := ed
          obtain ⟨M3, hM3⟩ : ∃ M3, M3 = dropR (setq (setz T (lpl T (nxL N))) 0 (tq T 0 - 1)) (wI M2 106 (36 + 0) (nI (tq T 0 - 1))) 0 (lpl T (nxL N)) := ⟨_, rfl⟩
          rw [← hM3] at ed
          have hz3 := hz2.setq (m := 0) (v := tq T 0 - 1) h0 (by show tq T 0 - 1 ≤ tq T 0; omega)
          refine key M3 ?_ ?_ ?_ ((pre _).mpr ?_)
          · rw [hM3]; exact RO.of2 r2 (by rw [dropR_2]; rfl)
          · rw [et, hM3]; exact (hW2.setq hn8 hV.b4 (by decide)).drop hz3 (by decide) k3
          · refine ⟨fun c j q => ?_, ?_⟩
            · have q1 : c ≠ 106 := fun z => q (Or.inr (Or.inl z))
              rw [hM3, dropR_off q1, wI_at, if_neg (fun z => q1 z.1)]
              exact O2.1 c j q
            · rw [hM3, dropR_2]; exact O2.2
          · unfold bX6_lots_202
            rw [if_pos ((lot_odd l2).mpr qa), ev, cal_ok, if_neg (show ¬ nI (tq T 0) ≤ 0 by rw [nle0_F (by omega) (by omega)]; exact id), ed, cal_ok, np1]
      · have et : ltT T (nxL N) = setz T (lpl T (nxL N)) := by unfold ltT; rw [if_neg (fun z => qa z.1)]
        refine key M2 r2 (by rw [et]; exact hW2) O2 ((pre _).mpr ?_)
        unfold bX6_lots_202
        rw [if_neg (fun z => qa ((lot_odd l2).mp z)), np1]
theorem ltF_ok : ∀ d i (T : WT) N, VT T → tn T ≠ 0 → ts T + d ≤ 30 → VT (ltF d i T N).2 ∧ tn (ltF d i T N).2 = tn T ∧ tb (ltF d i T N).2 = tb T ∧ tk (ltF d i T N).2 = tk T := by
  intro d
  induction d with
  | zero => intro i T N hV h0 hs; exact ⟨hV, rfl, rfl, rfl⟩
  | succ d ih =>
    intro i T N hV h0 hs
    have e0 : ltF (d + 1) i T N = if lx T = 0 then (i, T) else ltF d (i + 1) (ltT T (nxL N)) (nxL N) := rfl
    rw [e0]
    by_cases ql : lx T = 0
    · rw [if_pos ql]; exact ⟨hV, rfl, rfl, rfl⟩
    · rw [if_neg ql]
      obtain ⟨v1, v2, v3, v4, v5⟩ := vt_lt hV h0 ql (by omega) (nxL N)
      obtain ⟨w1, w2, w3, w4⟩ := ih (i + 1) (ltT T (nxL N)) (nxL N) v1 (by rw [v2]; exact h0) (by rw [v5]; omega)
      exact ⟨w1, w2.trans v2, w3.trans v3, w4.trans v4⟩
end
theorem op_lots (M : Mm) (h : Rel M) (n s : Int32) : Good Rel (fX5_lots 0 n s M) (fX6_lots 93 n s) := by
  obtain ⟨hRO, hF, hR, hX, T, hV, hC, hW, hK⟩ := id h
  have hn8 := hV.n8
  have hs30 := hV.s30
  by_cases hn : 1 ≤ n ∧ n ≤ 20
  · by_cases hs : 1 ≤ s ∧ s ≤ 2147483646
    · obtain ⟨k, hk, rfl⟩ := i32_le_nat (n := 20) (by decide) (Int32.le_trans (by decide) hn.1) hn.2
      obtain ⟨N, hN, rfl⟩ := i32_le_nat (n := 2147483646) (by decide) (Int32.le_trans (by decide) hs.1) hs.2
      have a1 : ¬ nI k < 1 := Int32.not_lt.mpr hn.1
      have a2 : ¬ 20 < nI k := Int32.not_lt.mpr hn.2
      have a3 : ¬ nI N < 1 := Int32.not_lt.mpr hs.1
      have a4 : nI N < 2147483647 := by rw [show (2147483647 : Int32) = nI 2147483647 from rfl, nlt_T (by omega) (by decide)]; trivial
      by_cases h0 : tn T = 0
      · refine ⟨-4, M, M, ?_, ?_, h⟩
        · unfold fX5_lots bX5_lots_0
          rw [if_neg a1, if_neg a2, if_neg a3, if_pos a4, g33 hRO, emp1 hC hV h0, cal_ok, if_neg (by decide), fen_r]
        · show fX6_lots 93 (nI k) (nI N) M = _
          unfold fX6_lots bX6_lots_0
          rw [in_ok, cal_ok, if_pos hn, if_neg (by decide), in_ok, cal_ok, if_pos hs, if_neg (by decide), gfI_e, hW.1, h0, if_pos nI_0, fen_r]
      · have hne : ¬ nI (tn T) = 0 := nI_ne0 (by omega) (by omega)
        by_cases hf : ts T + k ≤ 30
        · have hf2 : nI (ts T + k) ≤ 30 := by rw [show (30 : Int32) = nI 30 from rfl, nle_T (by omega) (by decide)]; trivial
          obtain ⟨M1, e1, hC1, O1⟩ := lots5_go hk k 0 T N M (by omega) hV h0 hC hRO (by omega) (by omega)
          have r1 := O1.ro hRO
          have hW1 : RWd T M1 := hW.same2 hV (fun c j q => O1.1 c j (by omega))
          obtain ⟨M2, e2, hW2, O2⟩ := lots6_go hk k 0 T N M1 (by omega) hV h0 hW1 r1 (by omega) (by omega)
          have r2 := O2.ro r1
          obtain ⟨f1, f2, f3, f4⟩ := ltF_ok k 0 T N hV h0 hf
          have o2 : ∀ c j, ¬ (33 ≤ c ∧ c ≤ 44) → ¬ (c = 93 ∧ j = 25) → c ≠ 106 → c ≠ 107 → M2.1 c j = M.1 c j := fun c j a b d e => by
            rw [O2.1 c j (fun z => by unfold PLw at z; omega), O1.1 c j a]
          have L2 : M2.2.1 = M.2.1 := by rw [O2.2, O1.2]
          refine ⟨nI (ltF k 0 T N).1, M1, M2, ?_, ?_, ?_⟩
          · unfold fX5_lots bX5_lots_0
            rw [if_neg a1, if_neg a2, if_neg a3, if_pos a4, g33 hRO, emp0 hC hV h0, cal_ok, if_pos rfl, g33 hRO, gfI_e, hC.s, nI_pl, if_pos hf2, ltJ_e, jn_I (by omega), fen_l]
            exact e1
          · show fX6_lots 93 (nI k) (nI N) M1 = _
            unfold fX6_lots bX6_lots_0
            rw [in_ok, cal_ok, if_pos hn, if_neg (by decide), in_ok, cal_ok, if_pos hs, if_neg (by decide), gfI_e, hW1.1, if_neg hne, gfI_e, hW1.2.2.1, nI_pl, if_pos hf2, ltJ_e, jn_I (by omega), fen_l]
            exact e2
          · refine rel_wood (T := T) (T1 := (ltF k 0 T N).2) hF hR hX hK r2 ⟨?_, fun c hc => funext fun j => ?_, ?_, ?_, ?_, ?_, ?_⟩ ?_ f2 f3 (fun x _ => by rw [f4]) f1 ?_ hW2
            · exact o2 _ _ (by omega) (by omega) (by omega) (by omega)
            · exact o2 _ _ (by omega) (by omega) (by omega) (by omega)
            · exact o2 _ _ (by omega) (by omega) (by omega) (by omega)
            · rw [L2]
            · rw [L2]
            · rw [L2]
            · rw [L2]
            · rw [o2 _ _ (by omega) (by omega) (by omega) (by omega), o2 _ _ (by omega) (by omega) (by omega) (by omega)]; exact hF.2.2.1
            · exact hC1.pt (fun c j a b => O2.1 c j (fun z => by unfold PLw at z; omega))
        · have hf2 : ¬ nI (ts T + k) ≤ 30 := by rw [show (30 : Int32) = nI 30 from rfl, nle_F (by omega) (by omega)]; exact id
          refine ⟨-2, M, M, ?_, ?_, h⟩
          · unfold fX5_lots bX5_lots_0
            rw [if_neg a1, if_neg a2, if_neg a3, if_pos a4, g33 hRO, emp0 hC hV h0, cal_ok, if_pos rfl, g33 hRO, gfI_e, hC.s, nI_pl, if_neg hf2, fen_r]
          · show fX6_lots 93 (nI k) (nI N) M = _
            unfold fX6_lots bX6_lots_0
            rw [in_ok, cal_ok, if_pos hn, if_neg (by decide), in_ok, cal_ok, if_pos hs, if_neg (by decide), gfI_e, hW.1, if_neg hne, gfI_e, hW.2.2.1, nI_pl, if_neg hf2, fen_r]
    · refine ⟨-1, M, M, ?_, ?_, h⟩
      · unfold fX5_lots bX5_lots_0 bX5_lots_23
        rw [if_neg (Int32.not_lt.mpr hn.1), if_neg (Int32.not_lt.mpr hn.2)]
        by_cases q : s < 1
        · rw [if_pos q, fen_r]
        · have q2 : ¬ s < 2147483647 := fun z => hs ⟨Int32.not_lt.mp q, (le_pred (n := 2147483646) (by decide)).mpr z⟩
          rw [if_neg q, if_neg q2, fen_r]
      · show fX6_lots 93 n s M = _
        unfold fX6_lots bX6_lots_0 bX6_lots_21
        rw [in_ok, cal_ok, if_pos hn, if_neg (by decide), in_ok, cal_ok, if_neg hs, if_pos rfl, fen_r]
  · refine ⟨-1, M, M, ?_, ?_, h⟩
    · unfold fX5_lots bX5_lots_0 bX5_lots_23
      by_cases q : n < 1
      · rw [if_pos q, fen_r]
      · have q2 : 20 < n := Int32.not_le.mp (fun z => hn ⟨Int32.not_lt.mp q, z⟩)
        rw [if_neg q, if_pos q2, fen_r]
    · show fX6_lots 93 n s M = _
      unfold fX6_lots bX6_lots_0 bX6_lots_21
      rw [in_ok, cal_ok, if_neg hn, if_pos rfl, fen_r]

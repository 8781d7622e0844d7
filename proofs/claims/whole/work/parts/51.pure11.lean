/-! DROP, LEAD -/
section
variable {M : Mm} {a : Nat} {T : WT}
theorem isBeside_ok (h : RO M) (hw : isW a) (hC : CWd a T M) (hV : VT T) {x y : Nat} (hx : x < tn T) (hy : y < 8) : fX4_isBeside a (nI x) (nI y) M = some (if (te T x).testBit y then 1 else 0, M) := by
  have hn8 := hV.n8
  have he : te T x < 256 := pow_lt8 hn8 (hV.2.2.2.2.2.1 x hx)
  unfold fX4_isBeside
  rw [wB h hw, ld_w 8 (w_ln hw).2.2.1 (by omega) (by decide), hC.2.2.2.2.2.1 x hx, bit_if he hy]
  by_cases q : (te T x).testBit y = true
  · rw [if_pos q, if_pos q]
  · rw [if_neg q, if_neg q]
theorem has_ok {S y : Nat} (hS : S < 256) (hy : y < 8) : fX6_has (nI S) (nI y) M = some (if S.testBit y then 1 else 0, M) := by
  unfold fX6_has
  rw [bit_if hS hy]
  by_cases q : S.testBit y = true
  · rw [if_pos q, if_pos q]
  · rw [if_neg q, if_neg q]
theorem CWd.setz (hC : CWd a T M) {v : Nat} : CWd a (setz T v) (wI (wI M a 2 (nI (ts T + 1))) (a + 11) (ts T + 1) (nI v)) := by
  obtain ⟨h0, h1, h2, h3, h4, h5, h6, h7, h8, h9, h10⟩ := hC
  refine ⟨?_, ?_, ?_, fun y hy => ?_, fun k hk => ?_, fun y hy => ?_, fun m1 y hm1 hy => ?_, fun y hy => ?_, fun i hi => ?_, fun i hi => ?_, fun i hi => ?_⟩
  · rw [wI_at, if_neg (by omega), wI_at, if_neg (by omega)]; exact h0
  · rw [wI_at, if_neg (by omega), wI_at, if_neg (by omega)]; exact h1
  · rw [wI_at, if_neg (by omega), wI_at, if_pos ⟨rfl, rfl⟩]; rfl
  · rw [wI_at, if_neg (by omega), wI_at, if_neg (by omega)]; exact h3 y hy
  · rw [wI_at, if_neg (by omega), wI_at, if_neg (by omega)]; exact h4 k hk
  · rw [wI_at, if_neg (by omega), wI_at, if_neg (by omega)]; exact h5 y hy
  · rw [wI_at, if_neg (by omega), wI_at, if_neg (by omega)]; exact h6 m1 y hm1 hy
  · rw [wI_at, if_neg (by omega), wI_at, if_neg (by omega)]; exact h7 y hy
  · rw [wI_at, if_neg (by omega), wI_at, if_neg (by omega)]; exact h8 i hi
  · rw [wI_at, if_neg (by omega), wI_at, if_neg (by omega)]; exact h9 i hi
  · have hi2 : i ≤ ts T + 1 := hi
    show _ = nI (if i = ts T + 1 then v else tz T i)
    by_cases q : i = ts T + 1
    · rw [if_pos q, wI_at, if_pos ⟨rfl, q⟩]
    · rw [if_neg q, wI_at, if_neg (by omega), wI_at, if_neg (by omega)]
      exact h10 i (by omega)
theorem RWd.setz (hW : RWd T M) {v : Nat} : RWd (setz T v) (wI (wI M 93 25 (nI (ts T + 1))) 107 (ts T + 1) (nI v)) := by
  obtain ⟨h0, h1, h2, h3, h4, h5, h6, h7, h8, h9⟩ := hW
  refine ⟨h0, h1, rfl, h3, h4, h5, h6, h7, h8, fun i hi => ?_⟩
  have hi2 : i ≤ ts T + 1 := hi
  show _ = nI (if i = ts T + 1 then v else tz T i)
  by_cases q : i = ts T + 1
  · rw [if_pos q, wI_at, if_pos ⟨rfl, q⟩]
  · rw [if_neg q, wI_at, if_neg (by omega), wI_at, if_neg (by omega)]
    exact h9 i (by omega)
theorem VT.setz (hV : VT T) {v : Nat} (hn : tn T ≠ 0) (hv : v < tn T) (hs : ts T < 30) : VT (setz T v) := by
  have hp := hV.pos hn
  obtain ⟨h1, h2, h3, h4, h5, h6, h7, h8, h9, h10, h11, h12⟩ := hV
  refine ⟨Or.inr ⟨hp.1, fun i hi => ?_⟩, h2, h3, by show ts T + 1 ≤ 30; omega, h5, h6, h7, h8, h9, h10, h11, ?_⟩
  · have hi2 : i ≤ ts T + 1 := hi
    show (if i = ts T + 1 then v else tz T i) < tn T
    by_cases q : i = ts T + 1
    · rw [if_pos q]; exact hv
    · rw [if_neg q]; exact hp.2 i (by omega)
  · show (if 0 = ts T + 1 then v else tz T 0) = 0
    rw [if_neg (by omega)]; exact h12
theorem stepTo_ok (h : RO M) (hw : isW a) (hC : CWd a T M) (hs : ts T < 30) {v : Nat} : fX4_stepTo a (nI v) M = some ((), wI (wI M a 2 (nI (ts T + 1))) (a + 11) (ts T + 1) (nI v)) := by
  have hl := (w_ln hw).2.2.2.2.2.2.2
  unfold fX4_stepTo
  rw [gfI_e, hC.2.2.1, if_neg (show ¬ ((30 : Int32) ≤ nI (ts T)) from nI_ge hs (by decide)), gfI_e, hC.2.2.1, pfI_e, ← nI_succ, wY (h.wI _ _ _) hw, gfI_e, wI_at, if_pos ⟨rfl, rfl⟩, st_w 31 hl (by omega) (by decide)]
theorem dropHere_ok (h : RO M) (hw : isW a) (hC : CWd a T M) (hV : VT T) {m : Nat} (hm : m < 3) (hq : tq T m ≠ 0) (hn : tn T ≠ 0) : fX4_dropHere a (nI m) M = some ((), dropC a (setq T m (tq T m - 1)) (wI M (a + 10) m (nI (tq T m - 1))) m (tz T (ts T))) := by
  have hp := hV.pos hn
  have e1 : nI (tq T m) - 1 = nI (tq T m - 1) := by
    obtain ⟨q, hq2⟩ : ∃ q, tq T m = q + 1 := ⟨tq T m - 1, by omega⟩
    rw [hq2, nI_pred]
    rfl
  have hC3 := hC.setq (m := m) (v := tq T m - 1)
  have hV3 := hV.setq (m := m) (v := tq T m - 1) hn (by omega)
  unfold fX4_dropHere
  rw [wQ h hw, ld_w 3 (w_ln hw).2.2.2.2.2.2.1 hm (by decide), st_w 3 (w_ln hw).2.2.2.2.2.2.1 hm (by decide), hC.2.2.2.2.2.2.2.2.2.1 m hm, e1, standing_ok (h.wI _ _ _) hw hC3 hV.s30, cal_ok, addMark_ok (x := tz (setq T m (tq T m - 1)) (ts (setq T m (tq T m - 1)))) (h.wI _ _ _) hw hC3 hV3 hm (hp.2 _ (Nat.le_refl _)), cal_ok]
  rfl
end
theorem tq_dropT {T : WT} {m x : Nat} : tq (dropT T m x) = tq T := by
  unfold dropT
  by_cases q : m = 0 ∧ tk T x = 3
  · rw [if_pos q]; rfl
  · rw [if_neg q]; rfl
theorem op_drop (M : Mm) (h : Rel M) (m : Int32) : Good Rel (fX5_drop 0 m M) (fX6_drop 93 m) := by
  obtain ⟨hRO, hF, hR, hX, T, hV, hC, hW, hK⟩ := id h
  have hn8 := hV.n8
  by_cases hm : 0 ≤ m ∧ m < 3
  · have hm2 : 0 ≤ m ∧ m ≤ 2 := (below_in (n := 2) (by decide)).mp hm
    obtain ⟨k, hk, rfl⟩ := i32_lt_nat (n := 3) (by decide) hm.1 hm.2
    have hl := (w_ln w33).2.2.2.2.2.2.1
    have hpk := hV.pk hk
    by_cases hq : tq T k = 0
    · refine ⟨-4, M, M, ?_, ?_, h⟩
      · unfold fX5_drop
        rw [isBelow_ok, cal_ok, if_pos hm, if_neg (by decide), g33 hRO, wQ hRO w33, ld_w 3 hl hk (by decide), hC.2.2.2.2.2.2.2.2.2.1 k hk, hq, if_pos nI_0]
      · show fX6_drop 93 (nI k) M = _
        unfold fX6_drop
        rw [in_ok, cal_ok, if_pos hm2, if_neg (by decide), v0_ok hRO (v := 36) 36 (i := k) rfl (by omega), cal_ok, hW.2.2.2.2.2.2.2.2.1 k hk, hq, if_pos nI_0]
    · have hn : tn T ≠ 0 := by
        intro q
        rcases hV.1 with z | z
        · exact hq (z.2.2.2 k hk)
        · omega
      have hp := hV.pos hn
      have hz := hp.2 _ (Nat.le_refl _)
      have hne : ¬ nI (tq T k) = 0 := nI_ne0 (by omega) (by omega)
      have e1 : nI (tq T k) - 1 = nI (tq T k - 1) := by
        obtain ⟨q, hq2⟩ : ∃ q, tq T k = q + 1 := ⟨tq T k - 1, by omega⟩
        rw [hq2, nI_pred]
        rfl
      obtain ⟨T3, hT3⟩ : ∃ T3, T3 = setq T k (tq T k - 1) := ⟨_, rfl⟩
      have hV3 : VT T3 := by rw [hT3]; exact hV.setq hn (by omega)
      have hC3 : CWd 33 T3 (wI M (33 + 10) k (nI (tq T k - 1))) := by rw [hT3]; exact hC.setq
      have hmk3 : tm T3 k (tz T (ts T)) + 1 + tq T3 k ≤ 29 := by
        have := hV.mk hk hz
        rw [hT3]
        show tm T k (tz T (ts T)) + 1 + (if k = k then tq T k - 1 else tq T k) ≤ 29
        rw [if_pos rfl]; omega
      have ed : fX4_dropHere 33 (nI k) M = some ((), dropC 33 T3 (wI M (33 + 10) k (nI (tq T k - 1))) k (tz T (ts T))) := by rw [hT3]; exact dropHere_ok hRO w33 hC hV hk hq hn
      obtain ⟨M1, hM1⟩ : ∃ M1, M1 = dropC 33 T3 (wI M (33 + 10) k (nI (tq T k - 1))) k (tz T (ts T)) := ⟨_, rfl⟩
      have hRO1 : RO M1 := by rw [hM1]; exact (hRO.wI _ _ _).of2 dropC_2
      have hC1 : CWd 33 (dropT T3 k (tz T (ts T))) M1 := by rw [hM1]; exact hC3.drop hk
      have hoff1 : ∀ c, c < 33 ∨ 44 < c → M1.1 c = M.1 c := fun c hc => by rw [hM1, dropC_off (by omega) hk]; exact wI_ne (by omega)
      have h21 : M1.2 = M.2 := by rw [hM1, dropC_2]; rfl
      have hW1 : RWd T M1 := RWd.same (M := M) (by rw [hoff1 _ (by omega)]) (by rw [hoff1 _ (by omega)]) (by rw [hoff1 _ (by omega)]) (fun c hc => hoff1 c (by omega)) hW
      have hW3 : RWd T3 (wI M1 106 (36 + k) (nI (tq T k - 1))) := by rw [hT3]; exact hW1.setq hn8 hV.b4 hk
      have hW4 := hW3.drop hV3 hk (x := tz T (ts T)) (by rw [hT3]; exact hz)
      have etq : tq (dropT T3 k (tz T (ts T))) k = tq T k - 1 := by
        rw [tq_dropT, hT3]
        show (if k = k then tq T k - 1 else tq T k) = _
        rw [if_pos rfl]
      have hnT := dropT_n (T := T3) (m := k) (x := tz T (ts T))
      refine ⟨nI (tq T k - 1), M1, dropR T3 (wI M1 106 (36 + k) (nI (tq T k - 1))) k (tz T (ts T)), ?_, ?_, ?_⟩
      · unfold fX5_drop
        rw [isBelow_ok, cal_ok, if_pos hm, if_neg (by decide), g33 hRO, wQ hRO w33, ld_w 3 hl hk (by decide), hC.2.2.2.2.2.2.2.2.2.1 k hk, if_neg hne, g33 hRO, ed, cal_ok, ← hM1, g33 hRO1, wQ hRO1 w33, ld_w 3 hl hk (by decide), hC1.2.2.2.2.2.2.2.2.2.1 k hk, etq]
      · show fX6_drop 93 (nI k) M1 = _
        have eh : fX6_hereNow 93 (wI M1 106 (36 + k) (nI (tq T k - 1))) = some (nI (tz T (ts T)), wI M1 106 (36 + k) (nI (tq T k - 1))) := by
          have := hereNow_ok (hRO1.wI 106 (36 + k) (nI (tq T k - 1))) hW3 hV3.s30
          rw [this, hT3]
          rfl
        unfold fX6_drop
        rw [in_ok, cal_ok, if_pos hm2, if_neg (by decide), v0_ok hRO1 (v := 36) 36 (i := k) rfl (by omega), cal_ok, hW1.2.2.2.2.2.2.2.2.1 k hk, if_neg hne, e1, set0_ok hRO1 (w := 36) 36 (i := k) rfl (by omega), cal_ok, eh, cal_ok, drops_ok (hRO1.wI _ _ _) hW3 hV3 hk (by rw [hT3]; exact hz), cal_ok]
      · refine rel_wood (T := T) (T1 := dropT T3 k (tz T (ts T))) hF hR hX hK ((hRO1.wI _ _ _).of2 dropR_2) (((KeepX.rf.off (M2 := M1) (fun c h1 h2 h3 h4 h5 => hoff1 c (by omega)) h21).wI 106 (36 + k) _ (by omega) (by omega) (by omega)).off (fun c h1 h2 h3 h4 h5 => dropR_off h4) dropR_2) ?_ ?_ ?_ ?_ (hV3.drop hmk3) ?_ hW4
        · rw [dropR_off (by omega), dropR_off (by omega), wI_ne (by omega), wI_ne (by omega), hoff1 _ (by omega), hoff1 _ (by omega)]
          exact hF.2.2.1
        · rw [hnT.1, hT3]; rfl
        · rw [hnT.2.1, hT3]; rfl
        · intro x _
          rw [hnT.2.2.1, hT3]; rfl
        · exact hC1.same (fun c h1 h2 => by rw [dropR_off (by omega)]; exact wI_ne (by omega))
  · have hm2 : ¬ (0 ≤ m ∧ m ≤ 2) := fun q => hm ((below_in (n := 2) (by decide)).mpr q)
    refine ⟨-1, M, M, ?_, ?_, h⟩
    · unfold fX5_drop
      rw [isBelow_ok, cal_ok, if_neg hm, if_pos rfl]
    · show fX6_drop 93 m M = _
      unfold fX6_drop
      rw [in_ok, cal_ok, if_neg hm2, if_pos rfl]
theorem op_lead (M : Mm) (h : Rel M) (x : Int32) : Good Rel (fX5_lead 0 x M) (fX6_lead 93 x) := by
  obtain ⟨hRO, hF, hR, hX, T, hV, hC, hW, hK⟩ := id h
  have hn8 := hV.n8
  by_cases hx : 0 ≤ x ∧ x < nI (tn T)
  · obtain ⟨y, hy, rfl⟩ := i32_lt_nat (by omega) hx.1 hx.2
    have hn : tn T ≠ 0 := by omega
    have hp := hV.pos hn
    have hz := hp.2 _ (Nat.le_refl _)
    have he : te T (tz T (ts T)) < 256 := pow_lt8 hn8 (hV.2.2.2.2.2.1 _ hz)
    by_cases hb : (te T (tz T (ts T))).testBit y = true
    · by_cases hs : ts T < 30
      · have hs2 : nI (ts T) < 30 := nI_lt hs (by decide)
        have hs3 : ¬ nI (ts T) = 30 := fun q => by have := nI_inj (b := 30) (by omega) (by decide) q; omega
        obtain ⟨M1, hM1⟩ : ∃ M1, M1 = wI (wI M 33 2 (nI (ts T + 1))) (33 + 11) (ts T + 1) (nI y) := ⟨_, rfl⟩
        have hRO1 : RO M1 := by rw [hM1]; exact hRO
        have hC1 : CWd 33 (setz T y) M1 := by rw [hM1]; exact hC.setz
        have hoff1 : ∀ c, c ≠ 33 → c ≠ 44 → M1.1 c = M.1 c := fun c h1 h2 => by rw [hM1, wI_ne (by omega), wI_ne (by omega)]
        have hW1 : RWd T M1 := RWd.same (M := M) (by rw [hoff1 _ (by omega) (by omega)]) (by rw [hoff1 _ (by omega) (by omega)]) (by rw [hoff1 _ (by omega) (by omega)]) (fun c hc => hoff1 c (by omega) (by omega)) hW
        have est := stepTo_ok hRO w33 hC hs (v := y)
        rw [← hM1] at est
        refine ⟨nI (ts T + 1), M1, wI (wI M1 93 25 (nI (ts T + 1))) 107 (ts T + 1) (nI y), ?_, ?_, ?_⟩
        · unfold fX5_lead
          rw [g33 hRO, hasPlace_ok hC, cal_ok, if_pos hx, if_neg (by decide), g33 hRO, g33 hRO, standing_ok hRO w33 hC hV.s30, cal_ok, isBeside_ok hRO w33 hC hV hz (by omega), cal_ok, if_pos hb, if_neg (by decide), g33 hRO, gfI_e, hC.2.2.1, if_pos hs2, g33 hRO, est, cal_ok, g33 hRO1, gfI_e, hC1.2.2.1]
          rfl
        · show fX6_lead 93 (nI y) M1 = _
          unfold fX6_lead
          rw [isPlace_ok hW1 hn8, cal_ok, if_pos hx, if_neg (by decide), gR hRO1 0 93 13 101 (by decide), hereNow_ok hRO1 hW1 hV.s30, cal_ok, ld_w 8 (show ln 101 = 8 from rfl) (by omega) (by decide), hW1.2.2.2.2.1 _ hz, has_ok he (by omega), cal_ok, if_pos hb, if_neg (by decide), gfI_e, hW1.2.2.1, if_neg hs3, gfI_e, hW1.2.2.1, pfI_e, ← nI_succ, gR (hRO1.wI _ _ _) 0 93 26 107 (by decide), gfI_e, wI_at, if_pos ⟨rfl, rfl⟩, st_w 31 (show ln 107 = 31 from rfl) (by omega) (by decide)]
          rfl
        · refine rel_wood (T := T) (T1 := setz T y) hF hR hX hK (hRO1.wI _ _ _ |>.wI _ _ _) (((KeepX.rf.off (M2 := M1) (fun c h1 h2 h3 h4 h5 => hoff1 c (by omega) (by omega)) (by rw [hM1]; rfl)).wI 93 25 _ (by omega) (by omega) (by omega)).wI 107 _ _ (by omega) (by omega) (by omega)) ?_ rfl rfl (fun _ _ => rfl) (hV.setz hn hy hs) ?_ hW1.setz
          · rw [wI_ne (by omega), wI_at, if_neg (by omega), wI_ne (by omega), wI_at, if_neg (by omega), hoff1 _ (by omega) (by omega), hoff1 _ (by omega) (by omega)]
            exact hF.2.2.1
          · exact hC1.same (fun c h1 h2 => by rw [wI_ne (by omega), wI_ne (by omega)])
      · have hs0 : ts T = 30 := by have := hV.s30; omega
        have hs2 : ¬ nI (ts T) < 30 := by rw [hs0]; exact nI_nlt (a := 30) (b := 30) (Nat.le_refl _) (by decide)
        have hs3 : nI (ts T) = 30 := by rw [hs0]; rfl
        refine ⟨-2, M, M, ?_, ?_, h⟩
        · unfold fX5_lead
          rw [g33 hRO, hasPlace_ok hC, cal_ok, if_pos hx, if_neg (by decide), g33 hRO, g33 hRO, standing_ok hRO w33 hC hV.s30, cal_ok, isBeside_ok hRO w33 hC hV hz (by omega), cal_ok, if_pos hb, if_neg (by decide), g33 hRO, gfI_e, hC.2.2.1, if_neg hs2]
        · show fX6_lead 93 (nI y) M = _
          unfold fX6_lead
          rw [isPlace_ok hW hn8, cal_ok, if_pos hx, if_neg (by decide), gR hRO 0 93 13 101 (by decide), hereNow_ok hRO hW hV.s30, cal_ok, ld_w 8 (show ln 101 = 8 from rfl) (by omega) (by decide), hW.2.2.2.2.1 _ hz, has_ok he (by omega), cal_ok, if_pos hb, if_neg (by decide), gfI_e, hW.2.2.1, if_pos hs3]
    · refine ⟨-4, M, M, ?_, ?_, h⟩
      · unfold fX5_lead
        rw [g33 hRO, hasPlace_ok hC, cal_ok, if_pos hx, if_neg (by decide), g33 hRO, g33 hRO, standing_ok hRO w33 hC hV.s30, cal_ok, isBeside_ok hRO w33 hC hV hz (by omega), cal_ok, if_neg hb, if_pos rfl]
      · show fX6_lead 93 (nI y) M = _
        unfold fX6_lead
        rw [isPlace_ok hW hn8, cal_ok, if_pos hx, if_neg (by decide), gR hRO 0 93 13 101 (by decide), hereNow_ok hRO hW hV.s30, cal_ok, ld_w 8 (show ln 101 = 8 from rfl) (by omega) (by decide), hW.2.2.2.2.1 _ hz, has_ok he (by omega), cal_ok, if_neg hb, if_pos rfl]
  · refine ⟨-1, M, M, ?_, ?_, h⟩
    · unfold fX5_lead
      rw [g33 hRO, hasPlace_ok hC, cal_ok, if_neg hx, if_pos rfl]
    · show fX6_lead 93 x M = _
      unfold fX6_lead
      rw [isPlace_ok hW hn8, cal_ok, if_neg hx, if_pos rfl]

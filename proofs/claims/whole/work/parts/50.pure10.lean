/-! FOOL, DROP, LEAD -/
/-- a mark more on a place: class, reference, wood -/
def dropC (a : Nat) (T : WT) (M : Mm) (m x : Nat) : Mm := if m = 0 ∧ tk T x = 3 then wI M (a + 8) x (tw T x + 1) else wI M (a + 5 + m) x (nI (tm T m x + 1))
def dropR (T : WT) (M : Mm) (m x : Nat) : Mm := if m = 0 ∧ tk T x = 3 then wI M 106 (24 + x) (tw T x + 1) else wI M 106 (8 * m + x) (nI (tm T m x + 1))
def dropT (T : WT) (m x : Nat) : WT := if m = 0 ∧ tk T x = 3 then setw T x (tw T x + 1) else setm T m x (tm T m x + 1)
theorem isK3 {k : Nat} (hk : k ≤ 5) : isK k 3 = decide (k = 3) := by
  have : ∀ k, k ≤ 5 → isK k 3 = decide (k = 3) := by decide
  exact this k hk
section
variable {M : Mm} {a : Nat} {T : WT}
theorem addMark_ok (h : RO M) (hw : isW a) (hC : CWd a T M) (hV : VT T) {m x : Nat} (hm : m < 3) (hx : x < tn T) : fX4_addMark a (nI x) (nI m) M = some ((), dropC a T M m x) := by
  have hn8 := hV.n8
  have hl := (w_ln hw).2.2.2.1 m hm
  have hk5 := hV.2.2.2.2.1 x hx
  have hb : bX4_addMark_26 a (nI x) (nI m) M = some ((), wI M (a + 5 + m) x (nI (tm T m x + 1))) := by
    unfold bX4_addMark_26
    rw [wL h hw, wLr h hw m rfl hm, ld_w 8 hl (by omega) (by decide), st_w 8 hl (by omega) (by decide), hC.2.2.2.2.2.2.1 m x hm hx, nI_succ]
  unfold fX4_addMark dropC
  by_cases h0 : m = 0
  · subst h0
    have e := isOf_ok h hw hC hn8 hx (k := 3) (by decide)
    rw [if_pos nI_0, show (3 : Int32) = nI 3 from rfl, e, cal_ok]
    by_cases h3 : tk T x = 3
    · have e3 : isK (tk T x) 3 = true := by rw [isK3 hk5, h3]; rfl
      rw [if_pos e3, if_neg (show ¬ (1 : Int32) = 0 by decide), if_pos (show 0 = 0 ∧ tk T x = 3 from ⟨rfl, h3⟩), wS h hw, ld_w 8 (w_ln hw).2.2.2.2.1 (by omega) (by decide), st_w 8 (w_ln hw).2.2.2.2.1 (by omega) (by decide), hC.2.2.2.2.2.2.2.1 x hx]
    · have e3 : ¬ isK (tk T x) 3 = true := by rw [isK3 hk5]; simpa using h3
      rw [if_neg e3, if_pos (show (0 : Int32) = 0 from rfl), if_neg (show ¬ (0 = 0 ∧ tk T x = 3) from fun q => h3 q.2)]
      exact hb
  · rw [if_neg (show ¬ nI m = 0 from nI_ne0 (by omega) (by omega)), if_neg (show ¬ (m = 0 ∧ tk T x = 3) from fun q => h0 q.1)]
    exact hb
theorem drops_ok (h : RO M) (hW : RWd T M) (hV : VT T) {m x : Nat} (hm : m < 3) (hx : x < tn T) : fX6_drops 93 0 (nI m) (nI x) M = some ((), dropR T M m x) := by
  have hn8 := hV.n8
  have hk5 := hV.2.2.2.2.1 x hx
  have hb : bX6_drops_35 93 0 (nI m) (nI x) M = some ((), wI M 106 (8 * m + x) (nI (tm T m x + 1))) := by
    unfold bX6_drops_35
    rw [marks0_ok h m rfl hm (by omega), cal_ok, setMarks0_ok h m rfl hm (by omega), cal_ok, hW.2.2.2.2.2.1 m x hm hx, nI_succ]
  unfold fX6_drops dropR
  by_cases h0 : m = 0
  · subst h0
    rw [if_pos nI_0, gR h 0 93 12 100 (by decide), ld_w 8 (show ln 100 = 8 from rfl) (by omega) (by decide), hW.2.2.2.1 x hx]
    by_cases h3 : tk T x = 3
    · rw [h3, if_pos (show nI 3 = 3 from rfl), if_pos (show 0 = 0 ∧ 3 = 3 from ⟨rfl, rfl⟩), v0_ok h (v := 24) 24 (i := x) rfl (by omega), cal_ok, set0_ok h (w := 24) 24 (i := x) rfl (by omega), cal_ok, hW.2.2.2.2.2.2.1 x hx]
    · rw [if_neg (show ¬ nI (tk T x) = 3 from fun q => h3 (nI_inj (b := 3) (by omega) (by decide) q)), if_neg (show ¬ (0 = 0 ∧ tk T x = 3) from fun q => h3 q.2)]
      exact hb
  · rw [if_neg (show ¬ nI m = 0 from nI_ne0 (by omega) (by omega)), if_neg (show ¬ (m = 0 ∧ tk T x = 3) from fun q => h0 q.1)]
    exact hb
theorem CWd.drop (hC : CWd a T M) {m x : Nat} (hm : m < 3) : CWd a (dropT T m x) (dropC a T M m x) := by
  unfold dropT dropC
  by_cases q : m = 0 ∧ tk T x = 3
  · rw [if_pos q, if_pos q]; exact hC.setw
  · rw [if_neg q, if_neg q]; exact hC.setm hm
theorem RWd.drop (hW : RWd T M) (hV : VT T) {m x : Nat} (hm : m < 3) (hx : x < tn T) : RWd (dropT T m x) (dropR T M m x) := by
  have := hV.n8
  unfold dropT dropR
  by_cases q : m = 0 ∧ tk T x = 3
  · rw [if_pos q, if_pos q]; exact hW.setw hV.n8 (by omega)
  · rw [if_neg q, if_neg q]; exact hW.setm hV.n8 hV.b4 hm (by omega)
theorem VT.drop (hV : VT T) {m x : Nat} (hv : tm T m x + 1 + tq T m ≤ 29) : VT (dropT T m x) := by
  unfold dropT
  by_cases q : m = 0 ∧ tk T x = 3
  · rw [if_pos q]; exact hV.setw
  · rw [if_neg q]; exact hV.setm hv
theorem dropC_off {m x c : Nat} (hc : c < a ∨ a + 11 < c) (hm : m < 3) : (dropC a T M m x).1 c = M.1 c := by
  unfold dropC
  by_cases q : m = 0 ∧ tk T x = 3
  · rw [if_pos q]; exact wI_ne (by omega)
  · rw [if_neg q]; exact wI_ne (by omega)
theorem dropR_off {m x c : Nat} (hc : c ≠ 106) : (dropR T M m x).1 c = M.1 c := by
  unfold dropR
  by_cases q : m = 0 ∧ tk T x = 3
  · rw [if_pos q]; exact wI_ne hc
  · rw [if_neg q]; exact wI_ne hc
theorem dropC_2 {m x : Nat} : (dropC a T M m x).2 = M.2 := by
  unfold dropC
  by_cases q : m = 0 ∧ tk T x = 3
  · rw [if_pos q]; rfl
  · rw [if_neg q]; rfl
theorem dropR_2 {m x : Nat} : (dropR T M m x).2 = M.2 := by
  unfold dropR
  by_cases q : m = 0 ∧ tk T x = 3
  · rw [if_pos q]; rfl
  · rw [if_neg q]; rfl
theorem dropT_n {m x : Nat} : tn (dropT T m x) = tn T ∧ tb (dropT T m x) = tb T ∧ tk (dropT T m x) = tk T ∧ ts (dropT T m x) = ts T ∧ tz (dropT T m x) = tz T := by
  unfold dropT
  by_cases q : m = 0 ∧ tk T x = 3
  · rw [if_pos q]; exact ⟨rfl, rfl, rfl, rfl, rfl⟩
  · rw [if_neg q]; exact ⟨rfl, rfl, rfl, rfl, rfl⟩
end
theorem RO.of2 {M M1 : Mm} (h : RO M) (e : M1.2 = M.2) : RO M1 := fun a f x y => by rw [e]; exact h a f x y
/-- all but these cells as they were -/
theorem KeepX.off {M M1 M2 : Mm} (h : KeepX M M1) (hc : ∀ c, c = 0 ∨ c = 12 ∨ 13 ≤ c ∧ c < 33 ∨ 57 ≤ c → c ≠ 100 → c ≠ 101 → c ≠ 106 → c ≠ 107 → M2.1 c = M1.1 c) (e : M2.2 = M1.2) : KeepX M M2 := by
  obtain ⟨k1, k2, k3, k4, k5, k6, k7⟩ := h
  refine ⟨by rw [hc 0 (by omega) (by omega) (by omega) (by omega) (by omega)]; exact k1, fun c h => by rw [hc c (by omega) (by omega) (by omega) (by omega) (by omega)]; exact k2 c h, by rw [hc 93 (by omega) (by omega) (by omega) (by omega) (by omega)]; exact k3, by rw [e]; exact k4, by rw [e]; exact k5, by rw [e]; exact k6, by rw [e]; exact k7⟩
theorem op_fool (M : Mm) (h : Rel M) (x m : Int32) : Good Rel (fX5_fool 0 x m M) (fX6_fool 93 x m) := by
  obtain ⟨hRO, hF, hR, hX, T, hV, hC, hW, hK⟩ := id h
  have hn8 := hV.n8
  by_cases hx : 0 ≤ x ∧ x < nI (tn T)
  · by_cases hm : 0 ≤ m ∧ m < 3
    · have hm2 : 0 ≤ m ∧ m ≤ 2 := (below_in (n := 2) (by decide)).mp hm
      obtain ⟨k, hk, rfl⟩ := i32_lt_nat (n := 3) (by decide) hm.1 hm.2
      obtain ⟨y, hy, rfl⟩ := i32_lt_nat (by omega) hx.1 hx.2
      have hl := (w_ln w33).2.2.2.1 k hk
      have hmk := hV.mk hk hy
      by_cases h20 : nI (tm T k y) < 20
      · have h20n : tm T k y < 20 := by
          have := Int32.lt_iff_toInt_lt.mp h20
          rw [nI_toInt (by omega), show (20 : Int32).toInt = 20 by decide] at this
          omega
        have hpk := hV.pk hk
        have hC1 := hC.drop (m := k) (x := y) hk
        have hRO1 : RO (dropC 33 T M k y) := hRO.of2 dropC_2
        have hW1 : RWd T (dropC 33 T M k y) := RWd.same (M := M) (by rw [dropC_off (by omega) hk]) (by rw [dropC_off (by omega) hk]) (by rw [dropC_off (by omega) hk]) (fun c hc => dropC_off (by omega) hk) hW
        have hW2 := hW1.drop hV hk hy
        have hRO2 : RO (dropR T (dropC 33 T M k y) k y) := hRO1.of2 dropR_2
        have hn := (dropT_n (T := T) (m := k) (x := y))
        refine ⟨nI (tm (dropT T k y) k y), dropC 33 T M k y, dropR T (dropC 33 T M k y) k y, ?_, ?_, ?_⟩
        · unfold fX5_fool
          rw [g33 hRO, hasPlace_ok hC, cal_ok, if_pos hx, if_neg (by decide), isBelow_ok, cal_ok, if_pos hm, if_neg (by decide), g33 hRO, wL hRO w33, wLr hRO w33 k rfl hk, ld_w 8 hl (by omega) (by decide), hC.2.2.2.2.2.2.1 k y hk hy, if_pos h20, g33 hRO, addMark_ok hRO w33 hC hV hk hy, cal_ok, g33 hRO1, wL hRO1 w33, wLr hRO1 w33 k rfl hk, ld_w 8 hl (by omega) (by decide), hC1.2.2.2.2.2.2.1 k y hk (by rw [hn.1]; exact hy)]
        · show fX6_fool 93 (nI y) (nI k) (dropC 33 T M k y) = _
          unfold fX6_fool
          rw [isPlace_ok hW1 hn8, cal_ok, if_pos hx, if_neg (by decide), in_ok, cal_ok, if_pos hm2, if_neg (by decide), marks0_ok hRO1 k rfl hk (by omega), cal_ok, hW1.2.2.2.2.2.1 k y hk hy, if_pos h20, drops_ok hRO1 hW1 hV hk hy, cal_ok, marks0_ok hRO2 k rfl hk (by omega), cal_ok, hW2.2.2.2.2.2.1 k y hk (by rw [hn.1]; exact hy)]
        · refine rel_wood (T := T) (T1 := dropT T k y) hF hR hX hK hRO2 ((KeepX.rf.off (M2 := dropC 33 T M k y) (fun c h1 h2 h3 h4 h5 => dropC_off (by omega) hk) dropC_2).off (fun c h1 h2 h3 h4 h5 => dropR_off h4) dropR_2) ?_ hn.1 hn.2.1 (fun x _ => by rw [hn.2.2.1]) (hV.drop (by omega)) ?_ hW2
          · rw [dropR_off (by omega), dropR_off (by omega), dropC_off (by omega) hk, dropC_off (by omega) hk]
            exact hF.2.2.1
          · exact hC1.same (fun c h1 h2 => dropR_off (by omega))
      · refine ⟨-2, M, M, ?_, ?_, h⟩
        · unfold fX5_fool
          rw [g33 hRO, hasPlace_ok hC, cal_ok, if_pos hx, if_neg (by decide), isBelow_ok, cal_ok, if_pos hm, if_neg (by decide), g33 hRO, wL hRO w33, wLr hRO w33 k rfl hk, ld_w 8 hl (by omega) (by decide), hC.2.2.2.2.2.2.1 k y hk hy, if_neg h20]
        · show fX6_fool 93 (nI y) (nI k) M = _
          unfold fX6_fool
          rw [isPlace_ok hW hn8, cal_ok, if_pos hx, if_neg (by decide), in_ok, cal_ok, if_pos hm2, if_neg (by decide), marks0_ok hRO k rfl hk (by omega), cal_ok, hW.2.2.2.2.2.1 k y hk hy, if_neg h20]
    · have hm2 : ¬ (0 ≤ m ∧ m ≤ 2) := fun q => hm ((below_in (n := 2) (by decide)).mpr q)
      refine ⟨-1, M, M, ?_, ?_, h⟩
      · unfold fX5_fool bX5_fool_19
        rw [g33 hRO, hasPlace_ok hC, cal_ok, if_pos hx, if_neg (by decide), isBelow_ok, cal_ok, if_neg hm, if_pos rfl]
      · show fX6_fool 93 x m M = _
        unfold fX6_fool bX6_fool_17
        rw [isPlace_ok hW hn8, cal_ok, if_pos hx, if_neg (by decide), in_ok, cal_ok, if_neg hm2, if_pos rfl]
  · refine ⟨-1, M, M, ?_, ?_, h⟩
    · unfold fX5_fool bX5_fool_19
      rw [g33 hRO, hasPlace_ok hC, cal_ok, if_neg hx, if_pos rfl]
    · show fX6_fool 93 x m M = _
      unfold fX6_fool bX6_fool_17
      rw [isPlace_ok hW hn8, cal_ok, if_neg hx, if_pos rfl]

/-! PATH -/
section
variable {M : Mm} {a : Nat} {T : WT}
theorem join_ok (h : RO M) (hw : isW a) (hC : CWd a T M) (hV : VT T) {x y : Nat} (hx : x < tn T) (hy : y < tn T) (hxy : x ≠ y) (b : Bool) {v : Int32} (hv : v = if b then 1 else 0) : fX4_join a (nI x) (nI y) v M = some ((), wI (wI M (a + 3) x (nI (stb (te T x) y b))) (a + 3) y (nI (stb (te T y) x b))) := by
  have hn8 := hV.n8
  have hex : te T x < 256 := pow_lt8 hn8 (hV.2.2.2.2.2.1 x hx)
  have hey : te T y < 256 := pow_lt8 hn8 (hV.2.2.2.2.2.1 y hy)
  have hl := (w_ln hw).2.2.1
  have e1 : ∀ v, (wI M (a + 3) x v).1 (a + 3) y = nI (te T y) := fun v => by rw [wI_at, if_neg (by omega)]; exact hC.2.2.2.2.2.1 y hy
  subst hv
  unfold fX4_join
  cases b with
  | false =>
    rw [if_pos (show (if false = true then (1 : Int32) else 0) = 0 from rfl), wB h hw, ld_w 8 hl (by omega) (by decide), st_w 8 hl (by omega) (by decide), hC.2.2.2.2.2.1 x hx, and_all _ hex y (by omega), wB (h.wI _ _ _) hw, ld_w 8 hl (by omega) (by decide), st_w 8 hl (by omega) (by decide), e1, and_all _ hey x (by omega)]
  | true =>
    rw [if_neg (show ¬ (if true = true then (1 : Int32) else 0) = 0 by decide), wB h hw, ld_w 8 hl (by omega) (by decide), st_w 8 hl (by omega) (by decide), hC.2.2.2.2.2.1 x hx, or_all _ hex y (by omega), wB (h.wI _ _ _) hw, ld_w 8 hl (by omega) (by decide), st_w 8 hl (by omega) (by decide), e1, or_all _ hey x (by omega)]
theorem RWd.joinSame (hW : RWd T M) {x y : Nat} {b : Bool} (h1 : (te T x).testBit y = b) (h2 : (te T y).testBit x = b) : RWd (joinT T x y b) M := by
  obtain ⟨q0, q1, q2, q3, q4, q5, q6, q7, q8, q9⟩ := hW
  refine ⟨q0, q1, q2, q3, fun z hz => ?_, q5, q6, q7, q8, q9⟩
  have hee : te (joinT T x y b) z = te T z := by
    show (if z = y then stb (te T y) x b else if z = x then stb (te T x) y b else te T z) = te T z
    by_cases e1 : z = y
    · rw [if_pos e1, stb, if_pos h2, e1]
    · rw [if_neg e1]
      by_cases e2 : z = x
      · rw [if_pos e2, stb, if_pos h1, e2]
      · rw [if_neg e2]
  rw [hee]
  exact q4 z hz
end
theorem op_path (M : Mm) (h : Rel M) (x y z : Int32) : Good Rel (fX5_path 0 x y z M) (fX6_path 93 x y z) := by
  obtain ⟨hRO, hF, hR, hX, T, hV, hC, hW, hK⟩ := id h
  have hn8 := hV.n8
  by_cases hx : 0 ≤ x ∧ x < nI (tn T)
  · by_cases hy : 0 ≤ y ∧ y < nI (tn T)
    · by_cases hxy : x = y
      · refine ⟨-1, M, M, ?_, ?_, h⟩
        · unfold fX5_path bX5_path_35
          rw [g33 hRO, hasPlace_ok hC, cal_ok, if_pos hx, if_neg (by decide), g33 hRO, hasPlace_ok hC, cal_ok, if_pos hy, if_neg (by decide), if_pos hxy]
        · show fX6_path 93 x y z M = _
          unfold fX6_path bX6_path_30
          rw [isPlace_ok hW hn8, cal_ok, if_pos hx, if_neg (by decide), isPlace_ok hW hn8, cal_ok, if_pos hy, if_neg (by decide), if_pos hxy]
      · by_cases hz : 0 ≤ z ∧ z < 2
        · have hz2 : 0 ≤ z ∧ z ≤ 1 := (below_in (n := 1) (by decide)).mp hz
          obtain ⟨u, hu, rfl⟩ := i32_lt_nat (by omega) hx.1 hx.2
          obtain ⟨w, hw, rfl⟩ := i32_lt_nat (by omega) hy.1 hy.2
          obtain ⟨k, hk, rfl⟩ := i32_lt_nat (n := 2) (by decide) hz.1 hz.2
          have huw : u ≠ w := fun q => hxy (by rw [q])
          have heu : te T u < 256 := pow_lt8 hn8 (hV.2.2.2.2.2.1 u hu)
          have hew : te T w < 256 := pow_lt8 hn8 (hV.2.2.2.2.2.1 w hw)
          obtain ⟨b, hb⟩ : ∃ b : Bool, nI k = if b then 1 else 0 := by
            match k, hk with
            | 0, _ => exact ⟨false, rfl⟩
            | 1, _ => exact ⟨true, rfl⟩
            | k + 2, hk => exact absurd hk (by omega)
          obtain ⟨c, hc⟩ : ∃ c : Bool, c = (te T u).testBit w := ⟨_, rfl⟩
          have hsym : (te T w).testBit u = c := by rw [hc]; exact (hV.2.2.2.2.2.2.1 u w hu hw).symm
          obtain ⟨M1, hM1⟩ : ∃ M1, M1 = wI (wI M (33 + 3) u (nI (stb (te T u) w b))) (33 + 3) w (nI (stb (te T w) u b)) := ⟨_, rfl⟩
          have hRO1 : RO M1 := by rw [hM1]; exact hRO
          have hC1 : CWd 33 (joinT T u w b) M1 := by
            rw [hM1]
            have q := (hC.sete (x := u) (v := stb (te T u) w b)).sete (x := w) (v := stb (te T w) u b)
            exact q
          have hoff1 : ∀ c, c ≠ 36 → M1.1 c = M.1 c := fun c h1 => by rw [hM1, wI_ne (by omega), wI_ne (by omega)]
          have hW1 : RWd T M1 := RWd.same (M := M) (by rw [hoff1 _ (by omega)]) (by rw [hoff1 _ (by omega)]) (by rw [hoff1 _ (by omega)]) (fun c hc => hoff1 c (by omega)) hW
          have ej := join_ok hRO w33 hC hV hu hw huw b (v := nI k) hb
          have e5 : fX5_path 0 (nI u) (nI w) (nI k) M = some (if c then 1 else 0, M1) := by
            unfold fX5_path
            rw [g33 hRO, hasPlace_ok hC, cal_ok, if_pos hx, if_neg (by decide), g33 hRO, hasPlace_ok hC, cal_ok, if_pos hy, if_neg (by decide), if_neg hxy, isBelow_ok, cal_ok, if_pos hz, if_neg (by decide), g33 hRO, isBeside_ok hRO w33 hC hV hu (by omega), cal_ok, ← hc]
            have b54 : ∀ s0 : Int32, bX5_path_54 0 (nI u) (nI w) (nI k) s0 M = some (s0, M1) := by
              intro s0
              unfold bX5_path_54 bX5_path_72
              rw [g33 hRO]
              cases b with
              | false =>
                have hb : nI k = 0 := hb
                rw [if_neg (by rw [hb]; decide), ← hb, ej, cal_ok, ← hM1]
              | true =>
                have hb : nI k = 1 := hb
                rw [if_pos hb, ← hb, ej, cal_ok, ← hM1]
            cases c with
            | false => exact (if_pos rfl).trans (b54 0)
            | true => exact (if_neg (show ¬ (if true = true then (1 : Int32) else 0) = 0 by decide)).trans (b54 1)
          have hl101 : ln 101 = 8 := rfl
          have e6 : ∃ M2, fX6_path 93 (nI u) (nI w) (nI k) M1 = some (if c then 1 else 0, M2) ∧ RWd (joinT T u w b) M2 ∧ (∀ d, d ≠ 101 → M2.1 d = M1.1 d) ∧ M2.2 = M1.2 := by
            have e8 : fX6_path 93 (nI u) (nI w) (nI k) M1 = bX6_path_50 93 (nI u) (nI w) (nI k) (if c then 1 else 0) M1 := by
              unfold fX6_path
              rw [isPlace_ok hW1 hn8, cal_ok, if_pos hx, if_neg (by decide), isPlace_ok hW1 hn8, cal_ok, if_pos hy, if_neg (by decide), if_neg hxy, in_ok, cal_ok, if_pos hz2, if_neg (by decide), gR hRO1 0 93 13 101 (by decide), ld_w 8 hl101 (by omega) (by decide), hW1.2.2.2.2.1 u hu, has_ok heu (by omega), cal_ok, ← hc]
              cases c with
              | false => exact if_pos rfl
              | true => exact if_neg (show ¬ (if true = true then (1 : Int32) else 0) = 0 by decide)
            rw [e8]
            by_cases hcb : c = b
            · refine ⟨M1, ?_, hW1.joinSame (by rw [← hc, hcb]) (by rw [hsym, hcb]), fun _ _ => rfl, rfl⟩
              unfold bX6_path_50 bX6_path_82
              rw [if_pos (by rw [hb, hcb])]
            · refine ⟨wI (wI M1 101 u (nI (stb (te T u) w b))) 101 w (nI (stb (te T w) u b)), ?_, ?_, fun d hd => by rw [wI_ne hd, wI_ne hd], rfl⟩
              · have s1 : stb (te T u) w b = te T u ^^^ 2 ^ w := by rw [stb, if_neg (by rw [← hc]; exact hcb)]
                have s2 : stb (te T w) u b = te T w ^^^ 2 ^ u := by rw [stb, if_neg (by rw [hsym]; exact hcb)]
                have e1 : ∀ v, (wI M1 101 u v).1 101 w = nI (te T w) := fun v => by rw [wI_at, if_neg (by omega)]; exact hW1.2.2.2.2.1 w hw
                unfold bX6_path_50 bX6_path_82
                rw [if_neg (by rw [hb]; revert hcb; cases b <;> cases c <;> decide), gR hRO1 0 93 13 101 (by decide), ld_w 8 hl101 (by omega) (by decide), st_w 8 hl101 (by omega) (by decide), hW1.2.2.2.2.1 u hu, xor_all _ heu w (by omega), gR (hRO1.wI _ _ _) 0 93 13 101 (by decide), ld_w 8 hl101 (by omega) (by decide), st_w 8 hl101 (by omega) (by decide), e1, xor_all _ hew u (by omega), s1, s2]
              · exact (hW1.sete (x := u) (v := stb (te T u) w b)).sete (x := w) (v := stb (te T w) u b)
          obtain ⟨M2, e6, hW2, hoff2, h22⟩ := e6
          refine ⟨if c then 1 else 0, M1, M2, e5, e6, ?_⟩
          refine rel_wood (T := T) (T1 := joinT T u w b) hF hR hX hK (hRO1.of2 h22) ((KeepX.rf.off (M2 := M1) (fun c h1 h2 h3 h4 h5 => hoff1 c (by omega)) (by rw [hM1]; rfl)).off (fun c h1 h2 h3 h4 h5 => hoff2 c h3) h22) ?_ rfl rfl (fun _ _ => rfl) (hV.join hu hw huw) (hC1.same (fun c h1 h2 => hoff2 c (by omega))) hW2
          rw [hoff2 _ (by omega), hoff2 _ (by omega), hoff1 _ (by omega), hoff1 _ (by omega)]
          exact hF.2.2.1
        · have hz2 : ¬ (0 ≤ z ∧ z ≤ 1) := fun q => hz ((below_in (n := 1) (by decide)).mpr q)
          refine ⟨-1, M, M, ?_, ?_, h⟩
          · unfold fX5_path bX5_path_35
            rw [g33 hRO, hasPlace_ok hC, cal_ok, if_pos hx, if_neg (by decide), g33 hRO, hasPlace_ok hC, cal_ok, if_pos hy, if_neg (by decide), if_neg hxy, isBelow_ok, cal_ok, if_neg hz, if_pos rfl]
          · show fX6_path 93 x y z M = _
            unfold fX6_path bX6_path_30
            rw [isPlace_ok hW hn8, cal_ok, if_pos hx, if_neg (by decide), isPlace_ok hW hn8, cal_ok, if_pos hy, if_neg (by decide), if_neg hxy, in_ok, cal_ok, if_neg hz2, if_pos rfl]
    · refine ⟨-1, M, M, ?_, ?_, h⟩
      · unfold fX5_path bX5_path_35
        rw [g33 hRO, hasPlace_ok hC, cal_ok, if_pos hx, if_neg (by decide), g33 hRO, hasPlace_ok hC, cal_ok, if_neg hy, if_pos rfl]
      · show fX6_path 93 x y z M = _
        unfold fX6_path bX6_path_30
        rw [isPlace_ok hW hn8, cal_ok, if_pos hx, if_neg (by decide), isPlace_ok hW hn8, cal_ok, if_neg hy, if_pos rfl]
  · refine ⟨-1, M, M, ?_, ?_, h⟩
    · unfold fX5_path bX5_path_35
      rw [g33 hRO, hasPlace_ok hC, cal_ok, if_neg hx, if_pos rfl]
    · show fX6_path 93 x y z M = _
      unfold fX6_path bX6_path_30
      rw [isPlace_ok hW hn8, cal_ok, if_neg hx, if_pos rfl]

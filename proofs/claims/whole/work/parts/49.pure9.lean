/-! POCKET, HERE, TAKE, FOOL, DROP, LEAD -/
theorem KeepX.rf {M : Mm} : KeepX M M := ⟨rfl, fun _ _ => rfl, rfl, rfl, rfl, rfl, rfl⟩
theorem KeepX.wI {M M1 : Mm} (h : KeepX M M1) (c j : Nat) (v : Int32) (hc : ¬ (c = 12 ∨ 13 ≤ c ∧ c < 33 ∨ 57 ≤ c ∧ c < 93 ∨ c = 94 ∨ c = 95 ∨ c = 96 ∨ c = 98 ∨ c = 99 ∨ 108 ≤ c ∧ c ≤ 112)) (h0 : ¬ (c = 0 ∧ j = 9)) (h93 : ¬ (c = 93 ∧ j = 0)) : KeepX M (wI M1 c j v) := by
  obtain ⟨k1, k2, k3, k4, k5, k6, k7⟩ := h
  refine ⟨?_, fun d hd => ?_, ?_, k4, k5, k6, k7⟩
  · rw [wI_at, if_neg (by omega)]; exact k1
  · rw [wI_ne (by rintro rfl; exact hc hd)]; exact k2 d hd
  · rw [wI_at, if_neg (by omega)]; exact k3
theorem VT.n8 {T : WT} (h : VT T) : tn T ≤ 8 := h.2.1
theorem VT.b4 {T : WT} (h : VT T) : tb T ≤ 4 := h.2.2.1
theorem VT.s30 {T : WT} (h : VT T) : ts T ≤ 30 := h.2.2.2.1
theorem VT.mk {T : WT} (h : VT T) {m x : Nat} (hm : m < 3) (hx : x < tn T) : tm T m x + tq T m ≤ 29 := h.2.2.2.2.2.2.2.2.1 m x hm hx
theorem VT.pk {T : WT} (h : VT T) {m : Nat} (hm : m < 3) : tq T m ≤ 9 := h.2.2.2.2.2.2.2.2.2.1 m hm
theorem VT.pos {T : WT} (h : VT T) (hn : tn T ≠ 0) : 2 ≤ tn T ∧ ∀ i, i ≤ ts T → tz T i < tn T := by
  rcases h.1 with q | q
  · exact absurd q.1 hn
  · exact q
theorem VT.setm {T : WT} (h : VT T) {m x v : Nat} (hv : v + tq T m ≤ 29) : VT (setm T m x v) := by
  obtain ⟨h1, h2, h3, h4, h5, h6, h7, h8, h9, h10, h11, h12⟩ := h
  refine ⟨h1, h2, h3, h4, h5, h6, h7, h8, fun m1 y hm hy => ?_, h10, h11, h12⟩
  show (if m1 = m ∧ y = x then v else tm T m1 y) + tq T m1 ≤ 29
  by_cases q : m1 = m ∧ y = x
  · rw [if_pos q, q.1]; exact hv
  · rw [if_neg q]; exact h9 m1 y hm hy
theorem VT.setw {T : WT} (h : VT T) {x : Nat} {v : Int32} : VT (setw T x v) := h
theorem VT.setq {T : WT} (h : VT T) {m v : Nat} (hn : tn T ≠ 0) (hv : v ≤ tq T m) : VT (setq T m v) := by
  obtain ⟨h1, h2, h3, h4, h5, h6, h7, h8, h9, h10, h11, h12⟩ := h
  refine ⟨Or.inr (VT.pos (T := T) ⟨h1, h2, h3, h4, h5, h6, h7, h8, h9, h10, h11, h12⟩ hn), h2, h3, h4, h5, h6, h7, h8, fun m1 y hm hy => ?_, fun m1 hm => ?_, h11, h12⟩
  · have := h9 m1 y hm hy
    show tm T m1 y + (if m1 = m then v else tq T m1) ≤ 29
    by_cases q : m1 = m
    · subst q; rw [if_pos rfl]; omega
    · rw [if_neg q]; exact this
  · have := h10 m1 hm
    show (if m1 = m then v else tq T m1) ≤ 9
    by_cases q : m1 = m
    · subst q; rw [if_pos rfl]; omega
    · rw [if_neg q]; exact this
theorem g33 {α : Type} {M : Mm} {K : Nat → Option α} (h : RO M) : gfR M 14 0 2 K = K 33 := gR h 14 0 2 33 (by decide)
theorem w33 : isW 33 := Or.inl rfl
theorem op_pocket (M : Mm) (h : Rel M) (m : Int32) : Good Rel (fX5_pocket 0 m M) (fX6_pocket 93 m) := by
  obtain ⟨hRO, hF, hR, hX, T, hV, hC, hW, hK⟩ := id h
  by_cases hm : 0 ≤ m ∧ m < 3
  · have hm2 : 0 ≤ m ∧ m ≤ 2 := (below_in (n := 2) (by decide)).mp hm
    obtain ⟨k, hk, rfl⟩ := i32_lt_nat (n := 3) (by decide) hm.1 hm.2
    refine ⟨nI (tq T k), M, M, ?_, ?_, h⟩
    · unfold fX5_pocket
      rw [isBelow_ok, cal_ok, if_pos hm, if_neg (by decide), g33 hRO, wQ hRO w33, ld_w 3 (w_ln w33).2.2.2.2.2.2.1 hk (by decide), hC.2.2.2.2.2.2.2.2.2.1 k hk]
    · show fX6_pocket 93 (nI k) M = _
      unfold fX6_pocket
      rw [in_ok, cal_ok, if_pos hm2, if_neg (by decide), v0_ok hRO (v := 36) 36 (i := k) rfl (by omega), cal_ok, hW.2.2.2.2.2.2.2.2.1 k hk]
  · have hm2 : ¬ (0 ≤ m ∧ m ≤ 2) := fun q => hm ((below_in (n := 2) (by decide)).mpr q)
    refine ⟨-1, M, M, ?_, ?_, h⟩
    · unfold fX5_pocket
      rw [isBelow_ok, cal_ok, if_neg hm, if_pos rfl]
    · show fX6_pocket 93 m M = _
      unfold fX6_pocket
      rw [in_ok, cal_ok, if_neg hm2, if_pos rfl]
theorem op_here (M : Mm) (h : Rel M) : Good Rel (fX5_here 0 M) (fX6_here 93) := by
  obtain ⟨hRO, hF, hR, hX, T, hV, hC, hW, hK⟩ := id h
  by_cases hn : tn T = 0
  · refine ⟨-4, M, M, ?_, ?_, h⟩
    · unfold fX5_here
      rw [g33 hRO, isEmpty_ok hC hV.n8, cal_ok, if_pos hn, if_neg (by decide)]
    · show fX6_here 93 M = _
      unfold fX6_here
      rw [gfI_e, hW.1, hn, if_pos nI_0]
  · have hne : ¬ nI (tn T) = 0 := nI_ne0 (by omega) (by have := hV.n8; omega)
    have hC1 : CWd 33 T (wI M 0 10 (nI (ts T))) := hC.same (fun c h1 h2 => wI_ne (by omega))
    have hW1 : RWd T (wI M 0 10 (nI (ts T))) := RWd.same (M := M) rfl rfl rfl (fun c hc => wI_ne (by omega)) hW
    refine ⟨nI (tz T (ts T)), wI M 0 10 (nI (ts T)), wI (wI M 0 10 (nI (ts T))) 93 2 (nI (ts T)), ?_, ?_, ?_⟩
    · unfold fX5_here
      rw [g33 hRO, isEmpty_ok hC hV.n8, cal_ok, if_neg hn, if_pos rfl, g33 hRO, gfI_e, hC.2.2.1, pfI_e, g33 (hRO.wI _ _ _), standing_ok (hRO.wI _ _ _) w33 hC1 hV.s30, cal_ok]
    · show fX6_here 93 (wI M 0 10 (nI (ts T))) = _
      unfold fX6_here
      rw [gfI_e, hW1.1, if_neg hne, gfI_e, hW1.2.2.1, hereNow_ok (hRO.wI _ _ _) hW1 hV.s30, cal_ok]
      rfl
    · refine h.told (fun c q h0 h12 h94 h93 => ?_) rfl ⟨hF.1, hF.2.1, rfl, hF.2.2.2.1, hF.2.2.2.2⟩
      rw [wI_at, if_neg (by omega), wI_at, if_neg (by omega)]
theorem op_take (M : Mm) (h : Rel M) (x m : Int32) : Good Rel (fX5_take 0 x m M) (fX6_take 93 x m) := by
  obtain ⟨hRO, hF, hR, hX, T, hV, hC, hW, hK⟩ := id h
  have hn8 := hV.n8
  by_cases hx : 0 ≤ x ∧ x < nI (tn T)
  · by_cases hm : 0 ≤ m ∧ m < 3
    · have hm2 : 0 ≤ m ∧ m ≤ 2 := (below_in (n := 2) (by decide)).mp hm
      obtain ⟨k, hk, rfl⟩ := i32_lt_nat (n := 3) (by decide) hm.1 hm.2
      obtain ⟨y, hy, rfl⟩ := i32_lt_nat (by omega) hx.1 hx.2
      have hl := (w_ln w33).2.2.2.1 k hk
      have hW1 : RWd T (wI M (33 + 5 + k) y (nI 0)) := hW.same (by rw [wI_at, if_neg (by omega)]) (by rw [wI_at, if_neg (by omega)]) (by rw [wI_at, if_neg (by omega)]) (fun c hc => wI_ne (by omega))
      refine ⟨nI (tm T k y), wI M (33 + 5 + k) y (nI 0), wI (wI M (33 + 5 + k) y (nI 0)) 106 (8 * k + y) (nI 0), ?_, ?_, ?_⟩
      · unfold fX5_take
        rw [g33 hRO, hasPlace_ok hC, cal_ok, if_pos hx, if_neg (by decide), isBelow_ok, cal_ok, if_pos hm, if_neg (by decide), g33 hRO, wL hRO w33, wLr hRO w33 k rfl hk, ld_w 8 hl (by omega) (by decide), g33 hRO, wL hRO w33, wLr hRO w33 k rfl hk, st_w 8 hl (by omega) (by decide), hC.2.2.2.2.2.2.1 k y hk hy]
        rfl
      · show fX6_take 93 (nI y) (nI k) (wI M (33 + 5 + k) y (nI 0)) = _
        unfold fX6_take
        rw [isPlace_ok hW1 hn8, cal_ok, if_pos hx, if_neg (by decide), in_ok, cal_ok, if_pos hm2, if_neg (by decide), marks0_ok (hRO.wI _ _ _) k rfl hk (by omega), cal_ok, setMarks0_ok (hRO.wI _ _ _) k rfl hk (by omega), cal_ok, hW1.2.2.2.2.2.1 k y hk hy]
        rfl
      · refine rel_wood (T := T) (T1 := setm T k y 0) hF hR hX hK hRO ((KeepX.rf.wI _ _ _ (by omega) (by omega) (by omega)).wI _ _ _ (by omega) (by omega) (by omega)) ?_ rfl rfl (fun _ _ => rfl) (hV.setm (by have := hV.pk hk; omega)) ?_ (hW1.setm hn8 hV.b4 hk (by omega))
        · rw [wI_at, if_neg (by omega), wI_at, if_neg (by omega), wI_at, if_neg (by omega), wI_at, if_neg (by omega)]
          exact hF.2.2.1
        · exact (hC.setm hk).same (fun c h1 h2 => wI_ne (by omega))
    · have hm2 : ¬ (0 ≤ m ∧ m ≤ 2) := fun q => hm ((below_in (n := 2) (by decide)).mpr q)
      refine ⟨-1, M, M, ?_, ?_, h⟩
      · unfold fX5_take bX5_take_19
        rw [g33 hRO, hasPlace_ok hC, cal_ok, if_pos hx, if_neg (by decide), isBelow_ok, cal_ok, if_neg hm, if_pos rfl]
      · show fX6_take 93 x m M = _
        unfold fX6_take bX6_take_17
        rw [isPlace_ok hW hn8, cal_ok, if_pos hx, if_neg (by decide), in_ok, cal_ok, if_neg hm2, if_pos rfl]
  · refine ⟨-1, M, M, ?_, ?_, h⟩
    · unfold fX5_take bX5_take_19
      rw [g33 hRO, hasPlace_ok hC, cal_ok, if_neg hx, if_pos rfl]
    · show fX6_take 93 x m M = _
      unfold fX6_take bX6_take_17
      rw [isPlace_ok hW hn8, cal_ok, if_neg hx, if_pos rfl]

/-! NEAREST: the search in the memory -/
theorem r93_114 {α : Type} {M : Mm} {K : Nat → Option α} (h : RO M) : gfR M 0 93 34 K = K 114 := gR h 0 93 34 114 (by decide)
theorem r93_115 {α : Type} {M : Mm} {K : Nat → Option α} (h : RO M) : gfR M 0 93 35 K = K 115 := gR h 0 93 35 115 (by decide)
theorem r93_116 {α : Type} {M : Mm} {K : Nat → Option α} (h : RO M) : gfR M 0 93 36 K = K 116 := gR h 0 93 36 116 (by decide)
theorem ld114 {α : Type} {M : Mm} {K : Int32 → Option α} {x : Nat} (hx : x < 8) : ldI M 114 (nI x) K = K (M.1 114 x) := ld_w 8 rfl hx (by decide)
theorem ld115 {α : Type} {M : Mm} {K : Int32 → Option α} {x : Nat} (hx : x < 8) : ldI M 115 (nI x) K = K (M.1 115 x) := ld_w 8 rfl hx (by decide)
theorem ld116 {α : Type} {M : Mm} {K : Int32 → Option α} {x : Nat} (hx : x < 8) : ldI M 116 (nI x) K = K (M.1 116 x) := ld_w 8 rfl hx (by decide)
theorem st114 {α : Type} {M : Mm} {K : Mm → Option α} {x : Nat} {v : Int32} (hx : x < 8) : stI M 114 (nI x) v K = K (wI M 114 x v) := st_w 8 rfl hx (by decide)
theorem st115 {α : Type} {M : Mm} {K : Mm → Option α} {x : Nat} {v : Int32} (hx : x < 8) : stI M 115 (nI x) v K = K (wI M 115 x v) := st_w 8 rfl hx (by decide)
theorem st116 {α : Type} {M : Mm} {K : Mm → Option α} {x : Nat} {v : Int32} (hx : x < 8) : stI M 116 (nI x) v K = K (wI M 116 x v) := st_w 8 rfl hx (by decide)
def PN (c j : Nat) : Prop := c = 114 ∨ c = 115 ∨ c = 116
def BfM (T : WT) (vis : Nat → Bool) (pos d : Nat → Nat) (q y : Nat) (M : Mm) : Prop := (∀ z, z < tn T → vis z = true → M.1 116 (pos z) = nI z) ∧ (∀ z, z < tn T → M.1 114 z = if vis z = true then nI (d z) else -9) ∧ ∀ z, z < tn T → M.1 115 z = nI (wyN T vis pos d q y z)
theorem n9_ne {v : Nat} (hv : v < 2 ^ 31) : ¬ nI v = -9 := by
  intro q
  have h1 := congrArg Int32.toInt q
  rw [nI_toInt hv] at h1
  have : (-9 : Int32).toInt = -9 := by decide
  rw [this] at h1
  omega
section
variable {T : WT}
theorem bf_fin (hV : VT T) {vis : Nat → Bool} {pos d : Nat → Nat} {many q y : Nat} (h : BfI T vis pos d many q y) {x0 : Nat} (hx0 : x0 < tn T) (v0 : vis x0 = true) (p0 : pos x0 = q) : wyN T vis pos d q y x0 = dW T (d x0) x0 := by
  have lt : ∀ x, x < tn T → vis x = true → d x < d x0 → pos x < q := fun x hx vx hd => by
    refine Classical.byContradiction fun z => ?_
    have := h.2.2.2.1 x0 x hx0 hx v0 vx (by omega)
    omega
  refine wy_fin hV h hx0 v0 (fun k x hd hx hax ha => ?_)
  obtain ⟨vx, dx⟩ := bf_cmp hV h lt k (by omega) x hx hax
  have := lt x hx vx (by omega)
  exact ⟨vx, dx, by unfold dnB; simp [vx, this]⟩
theorem row_go (hV : VT T) {q x0 : Nat} (hx0 : x0 < tn T) : ∀ e y (vis : Nat → Bool) (pos d : Nat → Nat) (many : Nat) (M : Mm), y + e = tn T → BfI T vis pos d many q y → BfM T vis pos d q y M → vis x0 = true → pos x0 = q → RO M → RWd T M → ∃ vis1 pos1 d1 many1 M1, fnl gX6_nearest (3, 93, nI many, nI q, nI x0, nI y, M) = fnl gX6_nearest (2, 93, nI many1, nI (q + 1), 0, 0, M1) ∧ BfI T vis1 pos1 d1 many1 (q + 1) 0 ∧ BfM T vis1 pos1 d1 (q + 1) 0 M1 ∧ Off PN M M1 ∧ q < many1 := by
  have hn8 := hV.n8
  intro e
  induction e with
  | zero =>
    intro y vis pos d many M hy hB hM v0 p0 r hW
    have hy : y = tn T := by omega
    subst hy
    obtain ⟨b1, b2⟩ := bf_row hB
    refine ⟨vis, pos, d, many, M, fnl_in ?_, b1, ⟨hM.1, hM.2.1, fun z hz => by rw [b2 z hz]; exact hM.2.2 z hz⟩, Off.rf, by have := (hB.2.1 x0 hx0 v0).2.1; omega⟩
    show bX6_nearest_94 93 (nI many) (nI q) (nI x0) (nI (tn T)) M = _
    unfold bX6_nearest_94
    rw [gfI_e, hW.1, if_pos (nI_le (Nat.le_refl _) (by omega)), np1]
  | succ e ih =>
    intro y vis pos d many M hy hB hM v0 p0 r hW
    have hyn : y < tn T := by omega
    have hd0 := hB.2.1 x0 hx0 v0
    have many8 : many ≤ tn T := by rw [hB.2.2.1]; exact sumB_le _
    have hdl : ∀ z, z < tn T → vis z = true → d z < 8 := fun z hz vz => by have := hB.2.1 z hz vz; omega
    -- the second half: how many ways
    have half : ∀ (vis : Nat → Bool) (pos d : Nat → Nat) (many : Nat) (M : Mm), BfI T vis pos d many q y → BfM T vis pos d q y M → vis x0 = true → pos x0 = q → RO M → RWd T M → ((te T x0).testBit y = true → vis y = true) → ∃ M1, bX6_nearest_155 93 (nI many) (nI q) (nI x0) (nI y) M = some (.inl (3, 93, nI many, nI q, nI x0, nI (y + 1), M1)) ∧ BfI T vis pos d many q (y + 1) ∧ BfM T vis pos d q (y + 1) M1 ∧ Off PN M M1 := by
      intro vis pos d many M hB hM v0 p0 r hW hvy
      have many8 : many ≤ tn T := by rw [hB.2.2.1]; exact sumB_le _
      have hdl : ∀ z, z < tn T → vis z = true → d z < 8 := fun z hz vz => by have := hB.2.1 z hz vz; omega
      obtain ⟨b1, b2⟩ := bf_adv hB hx0 v0 p0 hyn hvy
      have w0 := hM.2.2 x0 hx0
      rw [bf_fin hV hB hx0 v0 p0] at w0
      have wy := hM.2.2 y hyn
      have f0 := hM.2.1 x0 hx0
      rw [if_pos v0] at f0
      have fy := hM.2.1 y hyn
      refine ⟨wI M 115 y (nI (wyN T vis pos d q (y + 1) y)), ?_, b1, ⟨fun z hz vz => by rw [wI_at, if_neg (by omega)]; exact hM.1 z hz vz, fun z hz => by rw [wI_at, if_neg (by omega)]; exact hM.2.1 z hz, fun z hz => ?_⟩, Off.rf.wI (Or.inr (Or.inl rfl))⟩
      · unfold bX6_nearest_155 bX6_nearest_204 bX6_nearest_205
        rw [r93_115 r, ld115 (by omega), wy, r93_101 r, ld101 (by omega), hW.2.2.2.2.1 x0 hx0, has_ok (hV.e8 hx0) (by omega), cal_ok, b2 y hyn]
        by_cases q1 : (te T x0).testBit y = true
        · rw [q1, if_neg (show ¬ (if true = true then (1 : Int32) else 0) = 0 by decide), r93_114 r, ld114 (by omega), fy, if_pos (hvy q1), r93_114 r, ld114 (by omega), f0, np1]
          by_cases q2 : d y = d x0 + 1
          · rw [if_pos (by rw [q2]), r93_115 r, ld115 (by omega), w0, nI_pl, st115 (by omega), np1, if_pos ⟨rfl, rfl, hvy q1, q2⟩]
          · have a1 := hdl y hyn (hvy q1)
            have a2 := hdl x0 hx0 v0
            rw [if_neg (fun z => q2 (nI_inj (by omega) (by omega) z)), show nI (wyN T vis pos d q y y) + 0 = nI (wyN T vis pos d q y y) from Int32.add_zero _, st115 (by omega), np1, if_neg (fun z => q2 z.2.2.2)]
            try rfl
        · rw [if_neg q1, if_pos rfl, show nI (wyN T vis pos d q y y) + 0 = nI (wyN T vis pos d q y y) from Int32.add_zero _, st115 (by omega), np1, if_neg (fun z => q1 z.2.1)]
          try rfl
      · by_cases q1 : z = y
        · rw [q1, wI_at, if_pos ⟨rfl, rfl⟩]
        · rw [wI_at, if_neg (by omega), b2 z hz, if_neg (fun w => q1 w.1), Nat.add_zero]
          exact hM.2.2 z hz
    have fy := hM.2.1 y hyn
    have f0 := hM.2.1 x0 hx0
    rw [if_pos v0] at f0
    by_cases q1 : (te T x0).testBit y = true ∧ vis y = false
    · obtain ⟨n1, n2, n3⟩ := bf_new hV hB hx0 v0 p0 hyn q1.1 q1.2
      rw [if_neg (by rw [q1.2]; decide)] at fy
      have ne0 : x0 ≠ y := fun z => by rw [z, q1.2] at v0; exact absurd v0 (by decide)
      have nev : ∀ z, vis z = true → z ≠ y := fun z hz w => by rw [w, q1.2] at hz; exact absurd hz (by decide)
      obtain ⟨M2, hM2⟩ : ∃ M2, M2 = wI (wI M 114 y (nI (d x0 + 1))) 116 many (nI y) := ⟨_, rfl⟩
      have r2 : RO M2 := by rw [hM2]; exact r
      have o2 : Off PN M M2 := by rw [hM2]; exact (Off.rf.wI (Or.inl rfl)).wI (Or.inr (Or.inr rfl))
      have hW2 : RWd T M2 := hW.same2 hV (fun c j z => o2.1 c j (fun w => by unfold PN at w; omega))
      have hBM2 : BfM T (upB vis y) (upN pos y many) (upN d y (d x0 + 1)) q y M2 := by
        refine ⟨fun z hz vz => ?_, fun z hz => ?_, fun z hz => ?_⟩
        · rw [hM2]
          by_cases w : z = y
          · rw [w, upN_y, wI_at, if_pos ⟨rfl, rfl⟩]
          · rw [upB_n w] at vz
            have := (hB.2.1 z hz vz).2.1
            rw [upN_n w, wI_at, if_neg (by omega), wI_at, if_neg (by omega)]
            exact hM.1 z hz vz
        · rw [hM2, wI_at, if_neg (by omega)]
          by_cases w : z = y
          · rw [w, wI_at, if_pos ⟨rfl, rfl⟩, if_pos upB_y, upN_y]
          · rw [wI_at, if_neg (by omega), upB_n w, upN_n w]
            exact hM.2.1 z hz
        · rw [hM2, wI_at, if_neg (by omega), wI_at, if_neg (by omega), n3 z hz]
          exact hM.2.2 z hz
      obtain ⟨M3, e3, b3, m3, o3⟩ := half _ _ _ _ M2 n1 hBM2 (by rw [upB_n ne0]; exact v0) (by rw [upN_n ne0]; exact p0) r2 hW2 (fun _ => upB_y)
      have r3 := o3.ro r2
      have hW3 : RWd T M3 := hW2.same2 hV (fun c j z => o3.1 c j (fun w => by unfold PN at w; omega))
      obtain ⟨vis1, pos1, d1, many1, M4, e4, b4, m4, o4, l4⟩ := ih (y + 1) _ _ _ _ M3 (by omega) b3 m3 (by rw [upB_n ne0]; exact v0) (by rw [upN_n ne0]; exact p0) r3 hW3
      refine ⟨vis1, pos1, d1, many1, M4, (fnl_in ?_).trans e4, b4, m4, (o2.tr o3).tr o4, l4⟩
      show bX6_nearest_94 93 (nI many) (nI q) (nI x0) (nI y) M = _
      unfold bX6_nearest_94
      have r5 : RO (wI M 114 y (nI (d x0 + 1))) := r
      rw [gfI_e, hW.1, if_neg (show ¬ nI (tn T) ≤ nI y by rw [nle_F (by omega) (by omega)]; exact id), r93_101 r, ld101 (by omega), hW.2.2.2.2.1 x0 hx0, has_ok (hV.e8 hx0) (by omega), cal_ok, q1.1, if_neg (show ¬ (if true = true then (1 : Int32) else 0) = 0 by decide), r93_114 r, ld114 (by omega), fy, if_pos rfl, r93_114 r, r93_114 r, ld114 (by omega), f0, np1, st114 (by omega), r93_116 r5, st116 (by omega), ← hM2, np1]
      exact e3
    · have hvy : (te T x0).testBit y = true → vis y = true := fun z => by
        refine Classical.byContradiction fun w => q1 ⟨z, by simpa using w⟩
      obtain ⟨M3, e3, b3, m3, o3⟩ := half _ _ _ _ M hB hM v0 p0 r hW hvy
      have r3 := o3.ro r
      have hW3 : RWd T M3 := hW.same2 hV (fun c j z => o3.1 c j (fun w => by unfold PN at w; omega))
      obtain ⟨vis1, pos1, d1, many1, M4, e4, b4, m4, o4, l4⟩ := ih (y + 1) _ _ _ _ M3 (by omega) b3 m3 v0 p0 r3 hW3
      refine ⟨vis1, pos1, d1, many1, M4, (fnl_in ?_).trans e4, b4, m4, o3.tr o4, l4⟩
      show bX6_nearest_94 93 (nI many) (nI q) (nI x0) (nI y) M = _
      unfold bX6_nearest_94
      rw [gfI_e, hW.1, if_neg (show ¬ nI (tn T) ≤ nI y by rw [nle_F (by omega) (by omega)]; exact id), r93_101 r, ld101 (by omega), hW.2.2.2.2.1 x0 hx0, has_ok (hV.e8 hx0) (by omega), cal_ok]
      by_cases q2 : (te T x0).testBit y = true
      · have := hdl y hyn (hvy q2)
        rw [q2, if_neg (show ¬ (if true = true then (1 : Int32) else 0) = 0 by decide), r93_114 r, ld114 (by omega), fy, if_pos (hvy q2), if_neg (n9_ne (by omega))]
        exact e3
      · rw [if_neg q2, if_pos rfl]
        exact e3
/-- what the search tells -/
def NrR (T : WT) (o : Option (Int32 × Mm)) (M : Mm) : Prop := ∃ M1, Off PN M M1 ∧ ((∃ D, AtD T D 0 ∧ D < tn T ∧ o = some (nI D, wI M1 93 2 (nI (dW T D 0)))) ∨ ((∀ j, dW T j 0 = 0) ∧ o = some (-9, M1)))
theorem rows_go (hV : VT T) (h0 : tn T ≠ 0) : ∀ e q (vis : Nat → Bool) (pos d : Nat → Nat) (many : Nat) (M : Mm), q + e = 8 → q ≤ many → BfI T vis pos d many q 0 → BfM T vis pos d q 0 M → RO M → RWd T M → NrR T (fnl gX6_nearest (2, 93, nI many, nI q, 0, 0, M)) M := by
  have hn8 := hV.n8
  have out : ∀ q (vis : Nat → Bool) (pos d : Nat → Nat) (many : Nat) (M : Mm), q = many → BfI T vis pos d many q 0 → BfM T vis pos d q 0 M → RO M → NrR T (fnl gX6_nearest (2, 93, nI many, nI q, 0, 0, M)) M := by
    intro q vis pos d many M hq hB hM r
    subst hq
    have many8 : q ≤ tn T := by rw [hB.2.2.1]; exact sumB_le _
    have lt : ∀ x, x < tn T → vis x = true → pos x < q := fun x hx vx => (hB.2.1 x hx vx).2.1
    have f0 := hM.2.1 0 (by omega)
    refine ⟨M, Off.rf, ?_⟩
    by_cases v0 : vis 0 = true
    · left
      have a0 := hB.2.1 0 (by omega) v0
      rw [if_pos v0] at f0
      have w0 := hM.2.2 0 (by omega)
      rw [wy_fin hV hB (z := 0) (by omega) v0 (fun k x hd hx hax ha => by
        obtain ⟨vx, dx⟩ := bf_cmp hV hB (K := k) (fun x hx vx _ => lt x hx vx) k (Nat.le_refl _) x hx hax
        exact ⟨vx, dx, by unfold dnB; simp [vx, lt x hx vx]⟩)] at w0
      refine ⟨d 0, a0.1, by omega, fnl_out ?_⟩
      show bX6_nearest_79 93 (nI q) (nI q) M = _
      unfold bX6_nearest_79
      rw [if_pos (nI_le (Nat.le_refl _) (by omega)), r93_114 r, show ldI M 114 0 _ = ldI M 114 (nI 0) _ from rfl, ld114 (by decide), f0, if_neg (n9_ne (by omega)), r93_115 r, show ldI M 115 0 _ = ldI M 115 (nI 0) _ from rfl, ld115 (by decide), w0, r93_114 r, show ldI M 114 0 _ = ldI M 114 (nI 0) _ from rfl, ld114 (by decide), f0, tells_ok, cal_ok]
    · right
      rw [if_neg v0] at f0
      refine ⟨fun j => Classical.byContradiction fun z => ?_, fnl_out ?_⟩
      · obtain ⟨i, -, hi⟩ := at_ex j z
        exact v0 (bf_cmp hV hB (K := i) (fun x hx vx _ => lt x hx vx) i (Nat.le_refl _) 0 (by omega) hi).1
      · show bX6_nearest_79 93 (nI q) (nI q) M = _
        unfold bX6_nearest_79
        rw [if_pos (nI_le (Nat.le_refl _) (by omega)), r93_114 r, show ldI M 114 0 _ = ldI M 114 (nI 0) _ from rfl, ld114 (by decide), f0, if_pos rfl]
  intro e
  induction e with
  | zero =>
    intro q vis pos d many M hq hqm hB hM r hW
    have many8 : many ≤ tn T := by rw [hB.2.2.1]; exact sumB_le _
    exact out q vis pos d many M (by omega) hB hM r
  | succ e ih =>
    intro q vis pos d many M hq hqm hB hM r hW
    have many8 : many ≤ tn T := by rw [hB.2.2.1]; exact sumB_le _
    by_cases z : q = many
    · exact out q vis pos d many M z hB hM r
    · obtain ⟨x0, hx0, v0, p0⟩ := hB.2.2.2.2.2.2.1 q (by omega)
      obtain ⟨vis1, pos1, d1, many1, M1, e1, b1, m1, o1, l1⟩ := row_go hV hx0 (tn T) 0 vis pos d many M (by omega) hB hM v0 p0 r hW
      have r1 := o1.ro r
      have hW1 : RWd T M1 := hW.same2 hV (fun c j z => o1.1 c j (fun w => by unfold PN at w; omega))
      have hq1 : q + 1 ≤ many1 := l1
      have s1 : fnl gX6_nearest (2, 93, nI many, nI q, 0, 0, M) = fnl gX6_nearest (3, 93, nI many, nI q, nI x0, nI 0, M) := by
        refine fnl_in ?_
        have := hM.1 x0 hx0 v0
        rw [p0] at this
        show bX6_nearest_79 93 (nI many) (nI q) M = _
        unfold bX6_nearest_79
        rw [if_neg (show ¬ nI many ≤ nI q by rw [nle_F (by omega) (by omega)]; exact id), r93_116 r, ld116 (by omega), this]
        rfl
      obtain ⟨M2, o2, hr⟩ := ih (q + 1) vis1 pos1 d1 many1 M1 (by omega) hq1 b1 m1 r1 hW1
      rw [s1, e1]
      exact ⟨M2, o1.tr o2, hr⟩
end
section
variable {M : Mm} {T : WT}
theorem near6_ok (h : RO M) (hW : RWd T M) (hV : VT T) (h0 : tn T ≠ 0) : NrR T (fX6_nearest 93 M) M := by
  have hn8 := hV.n8
  have hh := here_lt hV h0
  have hne : ¬ nI (tn T) = 0 := nI_ne0 (by omega) (by omega)
  unfold fX6_nearest bX6_nearest_0
  rw [gfI_e, hW.1, if_neg hne, fen_l]
  obtain ⟨s, e1, M1, rfl, x1, y1, O1⟩ := fnl_go (g := gX6_nearest) (fun k s => ∃ M1, s = (1, 93, nI k, 0, 0, 0, M1) ∧ (∀ z, z < k → M1.1 114 z = -9) ∧ (∀ z, z < k → M1.1 115 z = 0) ∧ Off PN M M1) (tn T) (fun k s hk hI => by
    obtain ⟨M1, rfl, x1, y1, O1⟩ := hI
    have r1 := O1.ro h
    have r2 : RO (wI M1 114 k (-9)) := r1
    have hW1 : RWd T M1 := hW.same2 hV (fun c j z => O1.1 c j (fun w => by unfold PN at w; omega))
    refine ⟨(1, 93, nI (k + 1), 0, 0, 0, wI (wI M1 114 k (-9)) 115 k 0), ?_, _, rfl, fun z hz => ?_, fun z hz => ?_, (O1.wI (Or.inl rfl)).wI (Or.inr (Or.inl rfl))⟩
    · show bX6_nearest_12 93 (nI k) M1 = _
      unfold bX6_nearest_12
      rw [gfI_e, hW1.1, if_neg (show ¬ nI (tn T) ≤ nI k by rw [nle_F (by omega) (by omega)]; exact id), r93_114 r1, st114 (by omega), r93_115 r2, st115 (by omega), np1]
    · rw [wI_at, if_neg (by omega)]
      by_cases q : z = k
      · rw [q, wI_at, if_pos ⟨rfl, rfl⟩]
      · rw [wI_at, if_neg (by omega)]; exact x1 z (by omega)
    · by_cases q : z = k
      · rw [q, wI_at, if_pos ⟨rfl, rfl⟩]
      · rw [wI_at, if_neg (by omega), wI_at, if_neg (by omega)]; exact y1 z (by omega)) (s := (1, 93, 0, 0, 0, 0, M)) ⟨M, rfl, fun z hz => absurd hz (by omega), fun z hz => absurd hz (by omega), Off.rf⟩
  have r1 := O1.ro h
  have hW1 : RWd T M1 := hW.same2 hV (fun c j z => O1.1 c j (fun w => by unfold PN at w; omega))
  obtain ⟨M2, hM2⟩ : ∃ M2, M2 = wI M1 116 0 (nI (hereN T)) := ⟨_, rfl⟩
  obtain ⟨M3, hM3⟩ : ∃ M3, M3 = wI M2 114 (hereN T) 0 := ⟨_, rfl⟩
  obtain ⟨M4, hM4⟩ : ∃ M4, M4 = wI M3 115 (hereN T) 1 := ⟨_, rfl⟩
  have r2 : RO M2 := by rw [hM2]; exact r1
  have r3 : RO M3 := by rw [hM3]; exact r2
  have r4 : RO M4 := by rw [hM4]; exact r3
  have q2 : M2.1 116 0 = nI (hereN T) := by rw [hM2, wI_at, if_pos ⟨rfl, rfl⟩]
  have q3 : M3.1 116 0 = nI (hereN T) := by rw [hM3, wI_at, if_neg (by omega)]; exact q2
  have s2 : fnl gX6_nearest (1, 93, nI (tn T), 0, 0, 0, M1) = fnl gX6_nearest (2, 93, nI 1, nI 0, 0, 0, M4) := by
    refine fnl_in ?_
    show bX6_nearest_12 93 (nI (tn T)) M1 = _
    unfold bX6_nearest_12
    rw [gfI_e, hW1.1, if_pos (nI_le (Nat.le_refl _) (by omega)), r93_116 r1, hereNow2 r1 hW1 hV, cal_ok, show stI M1 116 0 (nI (hereN T)) _ = stI M1 116 (nI 0) (nI (hereN T)) _ from rfl, st116 (by decide), ← hM2, r93_114 r2, r93_116 r2, show ldI M2 116 0 _ = ldI M2 116 (nI 0) _ from rfl, ld116 (by decide), q2, st114 (by omega), ← hM3, r93_115 r3, r93_116 r3, show ldI M3 116 0 _ = ldI M3 116 (nI 0) _ from rfl, ld116 (by decide), q3, st115 (by omega), ← hM4]
    rfl
  have O4 : Off PN M M4 := by
    rw [hM4, hM3, hM2]
    exact ((O1.wI (Or.inr (Or.inr rfl))).wI (Or.inl rfl)).wI (Or.inr (Or.inl rfl))
  have hW4 : RWd T M4 := hW.same2 hV (fun c j z => O4.1 c j (fun w => by unfold PN at w; omega))
  have hB : BfI T (fun z => z == hereN T) (fun _ => 0) (fun _ => 0) 1 0 0 := by
    have ez : ∀ z, (z == hereN T) = true → z = hereN T := fun z hz => by simpa using hz
    refine ⟨by simp, fun z hz vz => ⟨by rw [ez z vz]; exact at_here, Nat.zero_lt_one, Nat.le_refl 0⟩, ?_, fun _ _ _ _ _ _ _ => Nat.le_refl _, fun _ _ _ _ _ _ _ => Nat.zero_le _, fun x z hx hz hxz hdn => ?_, fun i hi => ⟨hereN T, hh, by simp, by show 0 = i; omega⟩, fun x z hx hz vx vz _ => by rw [ez x vx, ez z vz]⟩
    · have := sumB_upd (p := fun _ => false) (q := fun z => z == hereN T) (x := hereN T) (fun y hy => by simpa using hy) rfl (by simp) hh
      rw [this]
      have : ∀ n, sumB (fun _ => false) n = 0 := by
        intro n
        induction n with
        | zero => rfl
        | succ n ih => show sumB (fun _ => false) n + 0 = 0; rw [ih]
      rw [this]
    · unfold dnB at hdn
      simp at hdn
  have hM : BfM T (fun z => z == hereN T) (fun _ => 0) (fun _ => 0) 0 0 M4 := by
    refine ⟨fun z hz vz => ?_, fun z hz => ?_, fun z hz => ?_⟩
    · have : z = hereN T := by simpa using vz
      rw [this, hM4, wI_at, if_neg (by omega)]
      exact q3
    · rw [hM4, wI_at, if_neg (by omega), hM3]
      by_cases q : z = hereN T
      · rw [q, wI_at, if_pos ⟨rfl, rfl⟩, if_pos (by simp)]; rfl
      · rw [wI_at, if_neg (by omega), hM2, wI_at, if_neg (by omega), if_neg (by simpa using q)]
        exact x1 z hz
    · have ew : wyN T (fun z => z == hereN T) (fun _ => 0) (fun _ => 0) 0 0 z = if z = hereN T then 1 else 0 := by
        unfold wyN
        rw [sum_zero (fun x hx => by unfold wyT dnB; simp), Nat.add_zero]
      rw [ew, hM4]
      by_cases q : z = hereN T
      · rw [q, wI_at, if_pos ⟨rfl, rfl⟩, if_pos rfl]; rfl
      · rw [wI_at, if_neg (by omega), hM3, wI_at, if_neg (by omega), hM2, wI_at, if_neg (by omega), if_neg q]
        exact y1 z hz
  obtain ⟨M5, o5, hr⟩ := rows_go hV h0 8 0 _ _ _ 1 M4 rfl (by decide) hB hM r4 hW4
  rw [e1, s2]
  exact ⟨M5, O4.tr o5, hr⟩
/-- the class counts on until a way is there -/
theorem near5_go (hV : VT T) (h0 : tn T ≠ 0) : ∀ e m (M : Mm), m + e = tn T → RO M → CWd 33 T M → (∀ j, j < m → dW T j 0 = 0) → ∃ M1, Off P10 M M1 ∧ ((∃ D, AtD T D 0 ∧ D < tn T ∧ fnl gX5_nearest (1, 0, nI m, M) = some (nI D, wI M1 0 10 (nI (dW T D 0)))) ∨ ((∀ j, j < tn T → dW T j 0 = 0) ∧ fnl gX5_nearest (1, 0, nI m, M) = some (-9, M1))) := by
  have hn8 := hV.n8
  intro e
  induction e with
  | zero =>
    intro m M hm r hC hz
    have : m = tn T := by omega
    subst this
    refine ⟨M, Off.rf, Or.inr ⟨hz, fnl_out ?_⟩⟩
    show bX5_nearest_15 0 (nI (tn T)) M = _
    unfold bX5_nearest_15
    rw [g33 r, gfI_e, hC.n, if_pos (nI_le (Nat.le_refl _) (by omega))]
  | succ e ih =>
    intro m M hm r hC hz
    obtain ⟨M1, e1, -, O1⟩ := num_ok r w33 hC hV h0 (A := ofK T 0) (n := m) (pow_lt8 hn8 (setN_lt _ _)) (by omega)
    have e1 : fX3_numberOf 9 33 (nI m) (nI (ofK T 0)) M = some (nI (dW T m 0), M1) := e1
    have hl : dW T m 0 < 2 ^ 31 := wk_lt hn8 (by omega) 0
    have r1 := O1.ro r
    have ea : fX4_all 33 M = some (nI (ofK T 0), M) := by
      unfold fX4_all
      rw [wO r w33, show ldI M (33 + 2) 0 _ = ldI M (33 + 2) (nI 0) _ from rfl, ldw2 w33 (by decide), hC.o (by decide)]
    by_cases q : dW T m 0 = 0
    · have hC1 : CWd 33 T M1 := hC.pt (fun c j q1 q2 => O1.1 c j (fun z => by unfold P10 at z; omega))
      obtain ⟨M2, O2, hr⟩ := ih (m + 1) M1 (by omega) r1 hC1 (fun j hj => by
        by_cases z : j = m
        · rw [z]; exact q
        · exact hz j (by omega))
      have st : fnl gX5_nearest (1, 0, nI m, M) = fnl gX5_nearest (1, 0, nI (m + 1), M1) := by
        refine fnl_in ?_
        show bX5_nearest_15 0 (nI m) M = _
        unfold bX5_nearest_15
        rw [g33 r, gfI_e, hC.n, if_neg (show ¬ nI (tn T) ≤ nI m by rw [nle_F (by omega) (by omega)]; exact id), g9s r, g33 r, g33 r, ea, cal_ok, e1, cal_ok, le0_if hl, if_pos q, np1]
      rw [st]
      exact ⟨M2, O1.tr O2, hr⟩
    · refine ⟨M1, O1, Or.inl ⟨m, ⟨q, hz⟩, by omega, fnl_out ?_⟩⟩
      show bX5_nearest_15 0 (nI m) M = _
      unfold bX5_nearest_15
      rw [g33 r, gfI_e, hC.n, if_neg (show ¬ nI (tn T) ≤ nI m by rw [nle_F (by omega) (by omega)]; exact id), g9s r, g33 r, g33 r, ea, cal_ok, e1, cal_ok, le0_if hl, if_neg q, pfI_e]
end
theorem op_nearest (M : Mm) (h : Rel M) : Good Rel (fX5_nearest 0 M) (fX6_nearest 93) := by
  obtain ⟨hRO, hF, hR, hX, T, hV, hC, hW, hK⟩ := id h
  have hn8 := hV.n8
  by_cases h0 : tn T = 0
  · refine ⟨-4, M, M, ?_, ?_, h⟩
    · unfold fX5_nearest bX5_nearest_0
      rw [g33 hRO, emp1 hC hV h0, cal_ok, if_neg (by decide), fen_r]
    · show fX6_nearest 93 M = _
      unfold fX6_nearest bX6_nearest_0
      rw [gfI_e, hW.1, h0, if_pos nI_0, fen_r]
  · have e0 : fX5_nearest 0 M = fnl gX5_nearest (1, 0, nI 0, M) := by
      unfold fX5_nearest bX5_nearest_0
      rw [g33 hRO, emp0 hC hV h0, cal_ok, if_pos rfl, fen_l]
      rfl
    obtain ⟨M1, O1, hr1⟩ := near5_go hV h0 (tn T) 0 M (by omega) hRO hC (fun j hj => absurd hj (by omega))
    rw [← e0] at hr1
    have r1 := O1.ro hRO
    rcases hr1 with ⟨D, aD, lD, e1⟩ | ⟨z1, e1⟩
    · have O2 : ∀ c j, ¬ P10 c j → ¬ (c = 0 ∧ j = 10) → (wI M1 0 10 (nI (dW T D 0))).1 c j = M.1 c j := fun c j a b => by rw [wI_at, if_neg b]; exact O1.1 c j a
      have hW2 : RWd T (wI M1 0 10 (nI (dW T D 0))) := hW.same2 hV (fun c j z => O2 c j (fun w => by unfold P10 at w; omega) (by omega))
      obtain ⟨M3, O3, hr2⟩ := near6_ok (M := wI M1 0 10 (nI (dW T D 0))) r1 hW2 hV h0
      rcases hr2 with ⟨D2, aD2, lD2, e2⟩ | ⟨z2, -⟩
      · have := at_uni aD2 aD
        subst this
        refine ⟨nI D2, _, _, e1, e2, ?_⟩
        have L3 : M3.2.1 = M.2.1 := by rw [O3.2]; show M1.2.1 = _; rw [O1.2]
        refine h.sct (O3.ro (r1 : RO (wI M1 0 10 (nI (dW T D2 0)))) : RO M3) (fun c j hi q1 q2 => ?_) ?_ ?_ ?_
        · unfold imp at hi
          rw [wI_at, if_neg q2, O3.1 c j (fun w => by unfold PN at w; omega), O2 c j (fun w => by unfold P10 at w; omega) q1]
        · rw [wI_at, if_neg (by omega), wI_at, if_pos ⟨rfl, rfl⟩, O3.1 0 10 (fun w => by unfold PN at w; omega), wI_at, if_pos ⟨rfl, rfl⟩]
        · show M3.2.1 0 11 = M3.2.1 93 3
          rw [L3]; exact hF.2.2.2.1
        · show M3.2.1 0 12 = M3.2.1 93 4
          rw [L3]; exact hF.2.2.2.2
      · exact absurd (z2 D) aD.1
    · have hW1 : RWd T M1 := hW.same2 hV (fun c j z => O1.1 c j (fun w => by unfold P10 at w; omega))
      obtain ⟨M3, O3, hr2⟩ := near6_ok r1 hW1 hV h0
      rcases hr2 with ⟨D2, aD2, lD2, e2⟩ | ⟨z2, e2⟩
      · exact absurd (z1 D2 lD2) aD2.1
      · refine ⟨-9, M1, M3, e1, e2, h.sc (O3.ro r1) (fun c j hi => ?_) (by rw [O3.2, O1.2])⟩
        unfold imp at hi
        rw [O3.1 c j (fun w => by unfold PN at w; omega), O1.1 c j (fun w => by unfold P10 at w; omega)]

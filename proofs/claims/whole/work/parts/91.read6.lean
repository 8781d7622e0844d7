/-! READING: the reference -/
def PR6 (c j : Nat) : Prop := c = 93 ∧ 14 ≤ j ∧ j ≤ 23 ∨ 102 ≤ c ∧ c ≤ 105
def SR (t n : Nat) (b : Nat → Int32) (M : Mm) : Prop := RO M ∧ M.1 98 t = nI n ∧ ∀ i, i < n → M.1 99 (80 * t + i) = b i
def RX (T : WT) (M : Mm) : Prop := M.1 93 15 = nI (tn T) ∧ M.1 93 17 = nI (tb T) ∧ (∀ x, x < tn T → M.1 102 x = nI (tk T x)) ∧ (∀ x, x < tn T → M.1 103 x = nI (te T x)) ∧ (∀ i, i < tb T → M.1 104 i = nI (tp T i))
def RR (t n : Nat) (b : Nat → Int32) (p g c : Nat) (T : WT) (M : Mm) : Prop := SR t n b M ∧ M.1 93 14 = nI p ∧ M.1 93 16 = nI c ∧ M.1 93 18 = (if g = 3 then 1 else 0) ∧ RX T M ∧ (g = 3 → ∀ m, m < 3 → M.1 105 m = nI (tq T m))
def IR6 (t n : Nat) (b : Nat → Int32) (M : Mm) : Nat ⊕ RS → Option (Int32 × Mm) → Prop
  | .inl q, o => ∃ M1, o = some (0, M1) ∧ M1.1 93 14 = nI q ∧ Off PR6 M M1
  | .inr S, o => ∃ M1, o = some (1, M1) ∧ RR t n b S.1 S.2.1 S.2.2.1 S.2.2.2 M1 ∧ Off PR6 M M1
section
variable {t n : Nat} {b : Nat → Int32} {p g c : Nat} {T : WT} {M M1 : Mm}
theorem SR.of (h : SR t n b M) (O : Off PR6 M M1) : SR t n b M1 := ⟨O.ro h.1, by rw [O.1 98 t (fun z => by unfold PR6 at z; omega)]; exact h.2.1, fun i hi => by rw [O.1 99 _ (fun z => by unfold PR6 at z; omega)]; exact h.2.2 i hi⟩
theorem IR6.l {q : Nat} (e : M1.1 93 14 = nI q) (O : Off PR6 M M1) : IR6 t n b M (.inl q) (some (0, M1)) := ⟨M1, rfl, e, O⟩
theorem IR6.r (h : RR t n b p g c T M1) (O : Off PR6 M M1) : IR6 t n b M (.inr (p, g, c, T)) (some (1, M1)) := ⟨M1, rfl, h, O⟩
theorem byte6 (h : SR t n b M) (ht : t < 4) (hn : n ≤ 80) {i : Nat} (hi : i < 2 ^ 31) : fX6_byteAt 93 (nI t) (nI i) M = some (if i < n then b i else 0, M) := by
  unfold fX6_byteAt
  rw [r93_98 h.1, ld_w 4 (show ln 98 = 4 from rfl) ht (by decide), h.2.1]
  by_cases q : i < n
  · rw [if_neg (show ¬ nI n ≤ nI i by rw [nle_F q (by omega)]; exact id), r93_99 h.1, show (80 : Int32) = nI 80 from rfl, nI_mul, nI_pl, ld_w 320 (show ln 99 = 320 from rfl) (show 80 * t + i < 320 by omega) (by decide), h.2.2 i q, if_pos q]
  · rw [if_pos (nI_le (by omega) hi), if_neg q]
theorem fg_w {i k : Nat} (hk : 0 < k) (hk2 : k < 2 ^ 31 - 1) : (0 ≤ (if i < n then b i else 0) - 48 ∧ (if i < n then b i else 0) - 48 ≤ nI (k - 1)) ↔ fgP b n i k = true := by
  obtain ⟨m, rfl⟩ : ∃ m, k = m + 1 := ⟨k - 1, by omega⟩
  rw [Nat.add_sub_cancel]
  by_cases q : i < n
  · rw [if_pos q, le_pred (by omega)]
    refine ⟨fun z => Classical.byContradiction fun w => fg_F q w z, fun z => ?_⟩
    exact (fg_T (by omega) z).2.2.2
  · rw [if_neg q]
    refine ⟨fun z => absurd z.1 (by decide), fun z => absurd z (fg_N q)⟩
theorem fig6 (h : SR t n b M) (ht : t < 4) (hn : n ≤ 80) (e : M.1 93 14 = nI p) (hp : p ≤ n) {k : Nat} (hk : 0 < k) (hk2 : k < 2 ^ 31 - 1) : ∃ M1, fX6_figure 93 (nI t) (nI (k - 1)) M = some (if fgP b n p k = true then 1 else 0, M1) ∧ M1.1 93 14 = nI (if fgP b n p k = true then p + 1 else p) ∧ (fgP b n p k = true → M1.1 93 23 = nI (fgV b p)) ∧ Off (fun c j => c = 93 ∧ (j = 14 ∨ j = 23)) M M1 := by
  have hw := fg_w (n := n) (b := b) (i := p) hk hk2
  obtain ⟨w, ew⟩ : ∃ w : Int32, w = (if p < n then b p else 0) - 48 := ⟨_, rfl⟩
  rw [← ew] at hw
  unfold fX6_figure bX6_figure_40
  rw [gfI_e, e, byte6 h ht hn (by omega), cal_ok, pfI_e, ← ew, gfI_e, wI_at, if_pos ⟨rfl, rfl⟩, in_ok, cal_ok, gfI_e, wI_at, if_neg (show ¬ (93 = 93 ∧ 14 = 23) by omega), e]
  by_cases q : fgP b n p k = true
  · obtain ⟨a1, a2, a3, -⟩ := fg_T (by omega) q
    rw [if_pos q, if_pos q, if_pos (hw.mpr q), if_neg (show ¬ (1 : Int32) = 0 by decide), pfI_e, rz1, np1]
    refine ⟨_, rfl, by rw [wI_at, if_pos ⟨rfl, rfl⟩], fun _ => ?_, (Off.rf.wI ⟨rfl, Or.inr rfl⟩).wI ⟨rfl, Or.inl rfl⟩⟩
    rw [wI_at, if_neg (by omega), wI_at, if_pos ⟨rfl, rfl⟩, ew, if_pos a1]
    exact a2
  · rw [if_neg q, if_neg q, if_neg (fun z => q (hw.mp z)), if_pos rfl, pfI_e, rz0]
    refine ⟨_, rfl, ?_, fun z => absurd z q, (Off.rf.wI ⟨rfl, Or.inr rfl⟩).wI ⟨rfl, Or.inl rfl⟩⟩
    rw [wI_at, if_pos ⟨rfl, rfl⟩]
    exact nI_pl p 0
theorem RX.pt (h : RX T M) (hc : ∀ c j, (c = 93 ∧ (j = 15 ∨ j = 17) ∨ 102 ≤ c ∧ c ≤ 104) → M1.1 c j = M.1 c j) : RX T M1 := by
  obtain ⟨h1, h2, h3, h4, h5⟩ := h
  exact ⟨by rw [hc _ _ (by omega)]; exact h1, by rw [hc _ _ (by omega)]; exact h2, fun x hx => by rw [hc _ _ (by omega)]; exact h3 x hx, fun x hx => by rw [hc _ _ (by omega)]; exact h4 x hx, fun x hx => by rw [hc _ _ (by omega)]; exact h5 x hx⟩
theorem path6 (h : RR t n b p g c T M) (ht : t < 4) (hn : n ≤ 80) (hJ : JS n p g c T) (hp : p < n) (hg : g ≠ 3) : IR6 t n b M (itP b n p g c T) (fX6_readsPath 93 (nI t) M) := by
  obtain ⟨j1, j2, j3, j4, j5, j6, j7, hT⟩ := id hJ
  have hn8 := hT.1
  have hb4 := hT.2.1
  obtain ⟨hS, e14, e16, e18, hX, -⟩ := id h
  rw [if_neg hg] at e18
  have hb0 : tb T = 0 ↔ ¬ 1 < g := by
    rcases (show g = 0 ∨ g = 1 ∨ g = 2 by omega) with z | z | z
    · have := (j4 z).2; omega
    · have := (j5 z).2; omega
    · have := j6 z; omega
  unfold fX6_readsPath bX6_readsPath_24 bX6_readsPath_102 itP
  rw [gfI_e, hX.1]
  by_cases a1 : tn T < 2
  · rw [if_pos (show nI (tn T) < 2 by rw [show (2 : Int32) = nI 2 from rfl, nlt_T a1 (by decide)]; trivial), if_pos (Or.inl a1)]
    exact IR6.l e14 Off.rf
  rw [if_neg (show ¬ nI (tn T) < 2 by rw [show (2 : Int32) = nI 2 from rfl, nlt_F (by omega) (by omega)]; exact id), gfI_e, e16]
  by_cases a2 : c = 14
  · rw [if_pos (show nI c = 14 by rw [a2]; rfl), if_pos (show tn T < 2 ∨ 1 < g ∨ 14 ≤ c by omega)]
    exact IR6.l e14 Off.rf
  rw [if_neg (show ¬ nI c = 14 from fun z => a2 (nI_inj (b := 14) (by omega) (by decide) z)), gfI_e, hX.2.1]
  by_cases a3 : tb T = 0
  · have hg1 := hb0.mp a3
    rw [if_pos (show nI (tb T) ≤ 0 by rw [nle0_T a3]; trivial), if_neg (show ¬ (tn T < 2 ∨ 1 < g ∨ 14 ≤ c) by omega), gfI_e, e14, pfI_e, np1]
    obtain ⟨M5, hM5⟩ : ∃ M5, M5 = wI M 93 14 (nI (p + 1)) := ⟨_, rfl⟩
    have O5 : Off PR6 M M5 := by rw [hM5]; exact Off.rf.wI (Or.inl ⟨rfl, by decide, by decide⟩)
    have S5 := hS.of O5
    have X5 : RX T M5 := hX.pt (fun c j z => by rw [hM5, wI_at, if_neg (by omega)])
    have v5 : M5.1 93 14 = nI (p + 1) := by rw [hM5, wI_at, if_pos ⟨rfl, rfl⟩]
    obtain ⟨M7, e7, v7, w7, Oa⟩ := fig6 S5 ht hn v5 (by omega) (k := tn T) (by omega) (by omega)
    have O7 : Off PR6 M5 M7 := Oa.mo (fun c j z => Or.inl (by omega))
    have S7 := S5.of O7
    have X7 : RX T M7 := X5.pt (fun c j z => Oa.1 c j (by omega))
    rw [← hM5, gfI_e, X5.1, show nI (tn T) - 1 = nI (tn T - 1) from nsub (b := 1) (by omega), e7, cal_ok]
    unfold tlP
    by_cases q1 : fgP b n (p + 1) (tn T) = true
    · obtain ⟨a4, -, a5, -⟩ := fg_T (by omega) q1
      have w7 := w7 q1
      rw [if_pos q1] at v7
      rw [if_pos q1, if_pos q1, if_neg (show ¬ (1 : Int32) = 0 by decide), gfI_e, w7, gfI_e, v7, byte6 S7 ht hn (by omega), cal_ok, ltI_e, gfI_e, X7.1, show nI (tn T) - 1 = nI (tn T - 1) from nsub (b := 1) (by omega), in_ok, cal_ok]
      have hw := fg_w (n := n) (b := b) (i := p + 1 + 1) (k := tn T) (by omega) (by omega)
      by_cases q2 : fgP b n (p + 1 + 1) (tn T) = true
      · obtain ⟨b1, b2, b3, -⟩ := fg_T (by omega) q2
        rw [if_pos (hw.mpr q2), if_neg (show ¬ (1 : Int32) = 0 by decide), if_pos q2, if_pos b1, b2]
        by_cases q3 : fgV b (p + 1 + 1) = fgV b (p + 1)
        · rw [if_pos (show nI (fgV b (p + 1 + 1)) = nI (fgV b (p + 1)) from congrArg nI q3), if_pos (Or.inl q3)]
          exact IR6.l v7 (O5.tr O7)
        · have hV := hT.vt (by omega)
          obtain ⟨x, hx⟩ : ∃ x, x = fgV b (p + 1) := ⟨_, rfl⟩
          obtain ⟨y, hy⟩ : ∃ y, y = fgV b (p + 1 + 1) := ⟨_, rfl⟩
          rw [← hx] at a5 q3 w7
          rw [← hy] at b3 q3
          rw [← hx, ← hy]
          have ex : te T x < 256 := hV.e8 a5
          have ey : te T y < 256 := hV.e8 b3
          rw [if_neg (fun z => q3 (nI_inj (by omega) (by omega) z)), gR S7.1 0 93 20 103 (by decide), ld_w 8 (show ln 103 = 8 from rfl) (show x < 8 by omega) (by decide), X7.2.2.2.1 x a5, has_ok ex (by omega), cal_ok]
          by_cases q4 : (te T x).testBit y = true
          · rw [if_pos q4, if_neg (show ¬ (1 : Int32) = 0 by decide), if_pos (Or.inr q4)]
            exact IR6.l v7 (O5.tr O7)
          · obtain ⟨Mz, hMz⟩ : ∃ Mz, Mz = wI (wI (wI (wI M7 93 14 (nI (p + 1 + 1 + 1))) 103 x (nI (stb (te T x) y true))) 103 y (nI (stb (te T y) x true))) 93 16 (nI (c + 1)) := ⟨_, rfl⟩
            have Oz : Off PR6 M7 Mz := by rw [hMz]; exact (((Off.rf.wI (Or.inl ⟨rfl, by decide, by decide⟩)).wI (Or.inr ⟨by decide, by decide⟩)).wI (Or.inr ⟨by decide, by decide⟩)).wI (Or.inl ⟨rfl, by decide, by decide⟩)
            have r7 := S7.1
            have u16 : M7.1 93 16 = nI c := by rw [Oa.1 _ _ (by omega), hM5, wI_at, if_neg (by omega)]; exact e16
            have u18 : M7.1 93 18 = 0 := by rw [Oa.1 _ _ (by omega), hM5, wI_at, if_neg (by omega)]; exact e18
            rw [if_neg q4, if_pos rfl, if_neg (show ¬ (y = x ∨ (te T x).testBit y = true) from fun z => by
              rcases z with z | z
              · exact q3 z
              · exact q4 z), gfI_e, v7, pfI_e, np1, gR (r7.wI _ _ _) 0 93 20 103 (by decide), ld_w 8 (show ln 103 = 8 from rfl) (show x < 8 by omega) (by decide), wI_at, if_neg (show ¬ (103 = 93 ∧ x = 14) by omega), X7.2.2.2.1 x a5, or_all _ ex y (by omega), st_w 8 (show ln 103 = 8 from rfl) (show x < 8 by omega) (by decide), gR ((r7.wI _ _ _).wI _ _ _) 0 93 20 103 (by decide), ld_w 8 (show ln 103 = 8 from rfl) (show y < 8 by omega) (by decide), wI_at, if_neg (show ¬ (103 = 103 ∧ y = x) by omega), wI_at, if_neg (show ¬ (103 = 93 ∧ y = 14) by omega), X7.2.2.2.1 y b3, or_all _ ey x (by omega), st_w 8 (show ln 103 = 8 from rfl) (show y < 8 by omega) (by decide), gfI_e, wI_at, if_neg (show ¬ (93 = 103 ∧ 16 = y) by omega), wI_at, if_neg (show ¬ (93 = 103 ∧ 16 = x) by omega), wI_at, if_neg (show ¬ (93 = 93 ∧ 16 = 14) by omega), u16, pfI_e, np1, ← hMz]
            refine IR6.r ⟨S7.of Oz, ?_, ?_, ?_, ⟨?_, ?_, fun z hz => ?_, fun z hz => ?_, fun i hi => ?_⟩, fun z => absurd z (by decide)⟩ ((O5.tr O7).tr Oz)
            · rw [hMz, wI_at, if_neg (by omega), wI_at, if_neg (by omega), wI_at, if_neg (by omega), wI_at, if_pos ⟨rfl, rfl⟩]
            · rw [hMz, wI_at, if_pos ⟨rfl, rfl⟩]
            · rw [hMz, wI_at, if_neg (by omega), wI_at, if_neg (by omega), wI_at, if_neg (by omega), wI_at, if_neg (by omega), u18, if_neg (by decide)]
            · rw [hMz, wI_at, if_neg (by omega), wI_at, if_neg (by omega), wI_at, if_neg (by omega), wI_at, if_neg (by omega)]; exact X7.1
            · rw [hMz, wI_at, if_neg (by omega), wI_at, if_neg (by omega), wI_at, if_neg (by omega), wI_at, if_neg (by omega)]; exact X7.2.1
            · rw [hMz, wI_at, if_neg (by omega), wI_at, if_neg (by omega), wI_at, if_neg (by omega), wI_at, if_neg (by omega)]; exact X7.2.2.1 z hz
            · show _ = nI (if z = y then stb (te T y) x true else if z = x then stb (te T x) y true else te T z)
              rw [hMz, wI_at, if_neg (by omega), wI_at]
              by_cases k1 : z = y
              · rw [if_pos ⟨rfl, k1⟩, if_pos k1]
              · rw [if_neg (by omega), if_neg k1, wI_at]
                by_cases k2 : z = x
                · rw [if_pos ⟨rfl, k2⟩, if_pos k2]
                · rw [if_neg (by omega), if_neg k2, wI_at, if_neg (by omega)]
                  exact X7.2.2.2.1 z hz
            · rw [hMz, wI_at, if_neg (by omega), wI_at, if_neg (by omega), wI_at, if_neg (by omega), wI_at, if_neg (by omega)]; exact X7.2.2.2.2 i hi
      · rw [if_neg (fun z => q2 (hw.mp z)), if_pos rfl, if_neg q2]
        exact IR6.l v7 (O5.tr O7)
    · rw [if_neg q1] at v7
      rw [if_neg q1, if_neg q1, if_pos rfl]
      exact IR6.l v7 (O5.tr O7)
  · rw [if_neg (show ¬ nI (tb T) ≤ 0 by rw [nle0_F (by omega) (by omega)]; exact id), if_pos (show tn T < 2 ∨ 1 < g ∨ 14 ≤ c by
      have : ¬ ¬ 1 < g := fun z => a3 (hb0.mpr z)
      omega)]
    exact IR6.l e14 Off.rf
theorem bird6 (h : RR t n b p g c T M) (ht : t < 4) (hn : n ≤ 80) (hJ : JS n p g c T) (hp : p < n) (hg : g ≠ 3) : IR6 t n b M (itB b n p c T) (fX6_readsBird 93 (nI t) M) := by
  obtain ⟨j1, j2, j3, j4, j5, j6, j7, hT⟩ := id hJ
  have hn8 := hT.1
  have hb4 := hT.2.1
  obtain ⟨hS, e14, e16, e18, hX, -⟩ := id h
  rw [if_neg hg] at e18
  unfold fX6_readsBird bX6_readsBird_16 itB
  rw [gfI_e, hX.1]
  by_cases a1 : tn T < 2
  · rw [if_pos (show nI (tn T) < 2 by rw [show (2 : Int32) = nI 2 from rfl, nlt_T a1 (by decide)]; trivial), if_pos (Or.inl a1)]
    exact IR6.l e14 Off.rf
  rw [if_neg (show ¬ nI (tn T) < 2 by rw [show (2 : Int32) = nI 2 from rfl, nlt_F (by omega) (by omega)]; exact id), gfI_e, hX.2.1]
  by_cases a2 : tb T = 4
  · rw [if_pos (show nI (tb T) = 4 by rw [a2]; rfl), if_pos (show tn T < 2 ∨ 4 ≤ tb T by omega)]
    exact IR6.l e14 Off.rf
  rw [if_neg (show ¬ nI (tb T) = 4 from fun z => a2 (nI_inj (b := 4) (by omega) (by decide) z)), if_neg (show ¬ (tn T < 2 ∨ 4 ≤ tb T) by omega), gfI_e, e14, pfI_e, np1]
  obtain ⟨M5, hM5⟩ : ∃ M5, M5 = wI M 93 14 (nI (p + 1)) := ⟨_, rfl⟩
  have O5 : Off PR6 M M5 := by rw [hM5]; exact Off.rf.wI (Or.inl ⟨rfl, by decide, by decide⟩)
  have S5 := hS.of O5
  have X5 : RX T M5 := hX.pt (fun c j z => by rw [hM5, wI_at, if_neg (by omega)])
  have v5 : M5.1 93 14 = nI (p + 1) := by rw [hM5, wI_at, if_pos ⟨rfl, rfl⟩]
  obtain ⟨M7, e7, v7, w7, Oa⟩ := fig6 S5 ht hn v5 (by omega) (k := tn T) (by omega) (by omega)
  have O7 : Off PR6 M5 M7 := Oa.mo (fun c j z => Or.inl (by omega))
  have S7 := S5.of O7
  have X7 : RX T M7 := X5.pt (fun c j z => Oa.1 c j (by omega))
  rw [← hM5, gfI_e, X5.1, show nI (tn T) - 1 = nI (tn T - 1) from nsub (b := 1) (by omega), e7, cal_ok]
  unfold tlB
  by_cases q1 : fgP b n (p + 1) (tn T) = true
  · obtain ⟨a4, -, a5, -⟩ := fg_T (by omega) q1
    have w7 := w7 q1
    rw [if_pos q1] at v7
    obtain ⟨Mz, hMz⟩ : ∃ Mz, Mz = wI (wI M7 104 (tb T) (nI (fgV b (p + 1)))) 93 17 (nI (tb T + 1)) := ⟨_, rfl⟩
    have Oz : Off PR6 M7 Mz := by rw [hMz]; exact (Off.rf.wI (Or.inr ⟨by decide, by decide⟩)).wI (Or.inl ⟨rfl, by decide, by decide⟩)
    have u16 : M7.1 93 16 = nI c := by rw [Oa.1 _ _ (by omega), hM5, wI_at, if_neg (by omega)]; exact e16
    have u18 : M7.1 93 18 = 0 := by rw [Oa.1 _ _ (by omega), hM5, wI_at, if_neg (by omega)]; exact e18
    rw [if_pos q1, if_pos q1, if_neg (show ¬ (1 : Int32) = 0 by decide), gR S7.1 0 93 21 104 (by decide), gfI_e, X7.2.1, gfI_e, w7, st_w 4 (show ln 104 = 4 from rfl) (show tb T < 4 by omega) (by decide), gfI_e, wI_at, if_neg (show ¬ (93 = 104 ∧ 17 = tb T) by omega), X7.2.1, pfI_e, np1, ← hMz]
    refine IR6.r ⟨S7.of Oz, ?_, ?_, ?_, ⟨?_, ?_, fun z hz => ?_, fun z hz => ?_, fun i hi => ?_⟩, fun z => absurd z (by decide)⟩ ((O5.tr O7).tr Oz)
    · rw [hMz, wI_at, if_neg (by omega), wI_at, if_neg (by omega)]; exact v7
    · rw [hMz, wI_at, if_neg (by omega), wI_at, if_neg (by omega)]; exact u16
    · rw [hMz, wI_at, if_neg (by omega), wI_at, if_neg (by omega), u18, if_neg (by decide)]
    · rw [hMz, wI_at, if_neg (by omega), wI_at, if_neg (by omega)]; exact X7.1
    · rw [hMz, wI_at, if_pos ⟨rfl, rfl⟩]; rfl
    · rw [hMz, wI_at, if_neg (by omega), wI_at, if_neg (by omega)]; exact X7.2.2.1 z hz
    · rw [hMz, wI_at, if_neg (by omega), wI_at, if_neg (by omega)]; exact X7.2.2.2.1 z hz
    · have hi2 : i < tb T + 1 := hi
      show _ = nI (if i = tb T then fgV b (p + 1) else tp T i)
      rw [hMz, wI_at, if_neg (by omega), wI_at]
      by_cases k1 : i = tb T
      · rw [if_pos ⟨rfl, k1⟩, if_pos k1]
      · rw [if_neg (by omega), if_neg k1]; exact X7.2.2.2.2 i (by omega)
  · rw [if_neg q1] at v7
    rw [if_neg q1, if_neg q1, if_pos rfl]
    exact IR6.l v7 (O5.tr O7)
end

/-! READING: the class -/
def CQ (C n : Nat) : Prop := sh C = 0 ∧ ln C = 80 ∧ 13 ≤ C ∧ C < 33 ∧ n ≤ 80
def PR (c j : Nat) : Prop := c = 4 ∧ 2 ≤ j ∨ 45 ≤ c ∧ c ≤ 56
def CR (C n : Nat) (b : Nat → Int32) (p g c : Nat) (T : WT) (M : Mm) : Prop := RO M ∧ M.2.2 4 0 = C ∧ M.1 4 1 = nI n ∧ (∀ i, i < n → M.1 C i = b i) ∧ M.1 4 2 = nI p ∧ M.1 4 3 = nI g ∧ M.1 4 4 = nI c ∧ CWd 45 T M
theorem wI_sf {M : Mm} {a k : Nat} {v : Int32} (h : M.1 a k = v) : wI M a k v = M := by
  unfold wI
  have : (fun b j => if b = a ∧ j = k then v else M.1 b j) = M.1 := by
    funext b j
    by_cases q : b = a ∧ j = k
    · rw [if_pos q, q.1, q.2, h]
    · rw [if_neg q]
  rw [this]
theorem wI_ww {M : Mm} {a k : Nat} {u v : Int32} : wI (wI M a k u) a k v = wI M a k v := by
  unfold wI
  have : (fun b j => if b = a ∧ j = k then v else (fun b j => if b = a ∧ j = k then u else M.1 b j) b j) = fun b j => if b = a ∧ j = k then v else M.1 b j := by
    funext b j
    by_cases q : b = a ∧ j = k
    · rw [if_pos q, if_pos q]
    · rw [if_neg q, if_neg q]
      show (if b = a ∧ j = k then u else M.1 b j) = _
      rw [if_neg q]
  show (_, M.2.1, M.2.2) = (_, M.2.1, M.2.2)
  rw [this]
section
variable {C n : Nat} {b : Nat → Int32} {p g c : Nat} {T : WT} {M M1 : Mm}
theorem CR.ro (h : CR C n b p g c T M) : RO M := h.1
theorem CR.vn (h : CR C n b p g c T M) : M.1 4 1 = nI n := h.2.2.1
theorem CR.vp (h : CR C n b p g c T M) : M.1 4 2 = nI p := h.2.2.2.2.1
theorem CR.vg (h : CR C n b p g c T M) : M.1 4 3 = nI g := h.2.2.2.2.2.1
theorem CR.vc (h : CR C n b p g c T M) : M.1 4 4 = nI c := h.2.2.2.2.2.2.1
theorem CR.w (h : CR C n b p g c T M) : CWd 45 T M := h.2.2.2.2.2.2.2
theorem CR.of (h : CR C n b p g c T M) (hq : CQ C n) (O : Off PR M M1) {p1 g1 c1 : Nat} {T1 : WT} (e2 : M1.1 4 2 = nI p1) (e3 : M1.1 4 3 = nI g1) (e4 : M1.1 4 4 = nI c1) (hC : CWd 45 T1 M1) : CR C n b p1 g1 c1 T1 M1 := by
  obtain ⟨-, -, q1, q2, -⟩ := hq
  refine ⟨O.ro h.ro, by rw [O.2]; exact h.2.1, ?_, fun i hi => ?_, e2, e3, e4, hC⟩
  · rw [O.1 4 1 (fun z => by unfold PR at z; omega)]; exact h.vn
  · rw [O.1 C i (fun z => by unfold PR at z; omega)]; exact h.2.2.2.1 i hi
theorem CR.sg {α : Type} {K : Nat → Option α} (h : CR C n b p g c T M) (hq : CQ C n) : gfR M 0 4 0 K = K C := by
  unfold gfR
  rw [h.2.1, if_pos hq.1]
theorem CR.ld {α : Type} {K : Int32 → Option α} (h : CR C n b p g c T M) (hq : CQ C n) {i : Nat} (hi : i < n) : ldI M C (nI i) K = K (b i) := by
  have := hq.2.2.2.2
  rw [ld_w 80 hq.2.1 (by omega) (by decide), h.2.2.2.1 i hi]
theorem CR.sp (h : CR C n b p g c T M) (hq : CQ C n) (p1 : Nat) : CR C n b p1 g c T (wI M 4 2 (nI p1)) :=
  h.of hq (Off.rf.wI (Or.inl ⟨rfl, by decide⟩)) (by rw [wI_at, if_pos ⟨rfl, rfl⟩]) (by rw [wI_at, if_neg (by omega)]; exact h.vg) (by rw [wI_at, if_neg (by omega)]; exact h.vc) (h.w.pt (fun c j a b => by rw [wI_at, if_neg (by omega)]))
theorem CR.st (h : CR C n b p g c T M) (hq : CQ C n) (g1 p1 : Nat) : CR C n b p1 g1 c T (wI (wI M 4 3 (nI g1)) 4 2 (nI p1)) :=
  h.of hq ((Off.rf.wI (Or.inl ⟨rfl, by decide⟩)).wI (Or.inl ⟨rfl, by decide⟩)) (by rw [wI_at, if_pos ⟨rfl, rfl⟩]) (by rw [wI_at, if_neg (by omega), wI_at, if_pos ⟨rfl, rfl⟩]) (by rw [wI_at, if_neg (by omega), wI_at, if_neg (by omega)]; exact h.vc) (h.w.pt (fun c j a b => by rw [wI_at, if_neg (by omega), wI_at, if_neg (by omega)]))
theorem fig5 (h : CR C n b p g c T M) (hq : CQ C n) (hp : p ≤ n) {k : Nat} (hk : k < 2 ^ 31) : fX0_figureBelow 4 (nI k) M = some (if fgP b n p k = true then nI (fgV b p) else -9, M) := by
  have hn := hq.2.2.2.2
  unfold fX0_figureBelow
  rw [gfI_e, h.vp, gfI_e, h.vn]
  by_cases q : p < n
  · rw [if_pos (show nI p < nI n by rw [nlt_T q (by omega)]; trivial), h.sg hq, gfI_e, h.vp, h.ld hq q, ltI_e, isBelow_ok, cal_ok]
    by_cases r : fgP b n p k = true
    · obtain ⟨-, e, -, z⟩ := fg_T hk r
      rw [if_pos z, if_neg (show ¬ (1 : Int32) = 0 by decide), if_pos r, e]
    · rw [if_neg (fg_F q r), if_pos rfl, if_neg r]
  · rw [if_neg (show ¬ nI p < nI n by rw [nlt_F (by omega) (by omega)]; exact id), if_neg (fg_N q)]
theorem starts5 (h : CR C n b p g c T M) (hg : g ≤ 3) (hn8 : tn T ≤ 8) {s : Nat} (hs : s ≤ 3) {r : Int32} : fX0_startsItem 4 45 (nI s) r M = if tn T < 2 ∨ s < g ∨ r = 0 then some (0, M) else some (1, wI (wI M 4 3 (nI s)) 4 2 (nI (p + 1))) := by
  unfold fX0_startsItem bX0_startsItem_20
  rw [gfI_e, h.w.n]
  by_cases a1 : tn T < 2
  · rw [if_pos (show nI (tn T) < 2 by rw [show (2 : Int32) = nI 2 from rfl, nlt_T a1 (by decide)]; trivial), if_pos (Or.inl a1)]
  rw [if_neg (show ¬ nI (tn T) < 2 by rw [show (2 : Int32) = nI 2 from rfl, nlt_F (by omega) (by omega)]; exact id), gfI_e, h.vg]
  by_cases a2 : s < g
  · rw [if_pos (show nI s < nI g by rw [nlt_T a2 (by omega)]; trivial), if_pos (Or.inr (Or.inl a2))]
  rw [if_neg (show ¬ nI s < nI g by rw [nlt_F (by omega) (by omega)]; exact id)]
  by_cases a3 : r = 0
  · rw [if_pos a3, if_pos (Or.inr (Or.inr a3))]
  rw [if_neg a3, pfI_e, gfI_e, wI_at, if_neg (show ¬ (4 = 4 ∧ 2 = 3) by omega), h.vp, pfI_e, np1, if_neg (show ¬ (tn T < 2 ∨ s < g ∨ r = 0) from fun z => by
    rcases z with z | z | z
    · exact a1 z
    · exact a2 z
    · exact a3 z)]
end
def IR5 (C n : Nat) (b : Nat → Int32) (M : Mm) : Nat ⊕ RS → Option (Int32 × Mm) → Prop
  | .inl q, o => ∃ M1, o = some (0, M1) ∧ M1.1 4 2 = nI q ∧ Off PR M M1
  | .inr S, o => ∃ M1, o = some (1, M1) ∧ CR C n b S.1 S.2.1 S.2.2.1 S.2.2.2 M1 ∧ Off PR M M1
section
variable {C n : Nat} {b : Nat → Int32} {p g c : Nat} {T : WT} {M M1 : Mm}
theorem IR5.l {q : Nat} (e : M1.1 4 2 = nI q) (O : Off PR M M1) : IR5 C n b M (.inl q) (some (0, M1)) := ⟨M1, rfl, e, O⟩
theorem IR5.r (h : CR C n b p g c T M1) (O : Off PR M M1) : IR5 C n b M (.inr (p, g, c, T)) (some (1, M1)) := ⟨M1, rfl, h, O⟩
theorem IR5.mo {r : Nat ⊕ RS} {o : Option (Int32 × Mm)} (O : Off PR M M1) (h : IR5 C n b M1 r o) : IR5 C n b M r o := by
  cases r with
  | inl q =>
    obtain ⟨M2, e, e2, O2⟩ := h
    exact ⟨M2, e, e2, O.tr O2⟩
  | inr S =>
    obtain ⟨M2, e, e2, O2⟩ := h
    exact ⟨M2, e, e2, O.tr O2⟩
theorem path5 (h : CR C n b p 1 c T M) (hq : CQ C n) (hp : p ≤ n) (hV : VT T) : IR5 C n b M (tlP b n p c T) (fX0_readPath 4 45 M) := by
  have hn8 := hV.n8
  unfold fX0_readPath bX0_readPath_56 tlP
  rw [gfI_e, h.w.n, fig5 h hq hp (by omega), cal_ok]
  by_cases q1 : fgP b n p (tn T) = true
  · obtain ⟨a1, a2, a3, -⟩ := fg_T (by omega) q1
    have h1 := h.sp hq (p + 1)
    obtain ⟨M5, hM5⟩ : ∃ M5, M5 = wI M 4 2 (nI (p + 1)) := ⟨_, rfl⟩
    have O5 : Off PR M M5 := by rw [hM5]; exact Off.rf.wI (Or.inl ⟨rfl, by decide⟩)
    rw [← hM5] at h1
    rw [if_pos q1, if_pos q1, if_neg (nI_n9 (by omega)), gfI_e, h.vp, pfI_e, np1, ← hM5, gfI_e, h1.w.n, fig5 h1 hq (by omega) (by omega), cal_ok]
    by_cases q2 : fgP b n (p + 1) (tn T) = true
    · obtain ⟨b1, b2, b3, -⟩ := fg_T (by omega) q2
      rw [if_pos q2, if_pos q2, if_neg (nI_n9 (by omega))]
      by_cases q3 : fgV b (p + 1) = fgV b p
      · rw [if_pos (show nI (fgV b (p + 1)) = nI (fgV b p) from congrArg nI q3), if_pos (Or.inl q3)]
        exact IR5.l h1.vp O5
      · rw [if_neg (fun z => q3 (nI_inj (by omega) (by omega) z)), isBeside_ok h1.ro w45 h1.w hV a3 (by omega), cal_ok]
        by_cases q4 : (te T (fgV b p)).testBit (fgV b (p + 1)) = true
        · rw [if_pos q4, if_neg (show ¬ (1 : Int32) = 0 by decide), if_pos (Or.inr q4)]
          exact IR5.l h1.vp O5
        · have ej := join_ok (M := wI (wI M5 4 2 (nI (p + 2))) 4 4 (nI (c + 1))) h1.ro w45 (h1.w.pt (fun c j a b => by rw [wI_at, if_neg (by omega), wI_at, if_neg (by omega)])) hV a3 b3 (fun z => q3 z.symm) true (v := 1) rfl
          have hCj : CWd 45 (joinT T (fgV b p) (fgV b (p + 1)) true) (wI (wI (wI (wI M5 4 2 (nI (p + 2))) 4 4 (nI (c + 1))) (45 + 3) (fgV b p) (nI (stb (te T (fgV b p)) (fgV b (p + 1)) true))) (45 + 3) (fgV b (p + 1)) (nI (stb (te T (fgV b (p + 1))) (fgV b p) true))) := by
            refine CWd.sete (CWd.sete ?_)
            exact h1.w.pt (fun c j a b => by rw [wI_at, if_neg (by omega), wI_at, if_neg (by omega)])
          have Oj : Off PR M5 (wI (wI (wI (wI M5 4 2 (nI (p + 2))) 4 4 (nI (c + 1))) (45 + 3) (fgV b p) (nI (stb (te T (fgV b p)) (fgV b (p + 1)) true))) (45 + 3) (fgV b (p + 1)) (nI (stb (te T (fgV b (p + 1))) (fgV b p) true))) := (((Off.rf.wI (Or.inl ⟨rfl, by decide⟩)).wI (Or.inl ⟨rfl, by decide⟩)).wI (Or.inr ⟨by decide, by decide⟩)).wI (Or.inr ⟨by decide, by decide⟩)
          rw [if_neg q4, if_pos rfl, if_neg (fun z => by
            rcases z with z | z
            · exact q3 z
            · exact q4 z), gfI_e, h1.vp, pfI_e, np1, gfI_e, wI_at, if_neg (show ¬ (4 = 4 ∧ 4 = 2) by omega), h1.vc, pfI_e, np1, ej, cal_ok]
          refine IR5.r (h1.of hq Oj ?_ ?_ ?_ hCj) (O5.tr Oj)
          · rw [wI_at, if_neg (by omega), wI_at, if_neg (by omega), wI_at, if_neg (by omega), wI_at, if_pos ⟨rfl, rfl⟩]
          · rw [wI_at, if_neg (by omega), wI_at, if_neg (by omega), wI_at, if_neg (by omega), wI_at, if_neg (by omega)]; exact h1.vg
          · rw [wI_at, if_neg (by omega), wI_at, if_neg (by omega), wI_at, if_pos ⟨rfl, rfl⟩]
    · rw [if_neg q2, if_neg q2, if_pos rfl]
      exact IR5.l h1.vp O5
  · rw [if_neg q1, if_neg q1, if_pos rfl]
    exact IR5.l h.vp Off.rf
theorem addb_ok (h : RO M) (hC : CWd 45 T M) (hb : tb T < 4) {v : Int32} : fX4_addBird 45 v M = some ((), wI (wI M (45 + 9) (tb T) v) 45 1 (nI (tb T + 1))) := by
  unfold fX4_addBird
  rw [wP h w45, gfI_e, hC.b, st_w 4 (w_ln w45).2.2.2.2.2.1 hb (by decide), gfI_e, wI_at, if_neg (show ¬ (45 = 45 + 9 ∧ 1 = tb T) by omega), hC.b, pfI_e, np1]
theorem CWd.addb (hC : CWd 45 T M) {x : Nat} : CWd 45 (addb T x) (wI (wI M (45 + 9) (tb T) (nI x)) 45 1 (nI (tb T + 1))) := by
  obtain ⟨h0, h1, h2, h3, h4, h5, h6, h7, h8, h9, h10⟩ := hC
  refine ⟨?_, ?_, ?_, fun y hy => ?_, fun k hk => ?_, fun y hy => ?_, fun m1 y hm1 hy => ?_, fun y hy => ?_, fun i hi => ?_, fun i hi => ?_, fun i hi => ?_⟩
  · rw [wI_at, if_neg (by omega), wI_at, if_neg (by omega)]; exact h0
  · rw [wI_at, if_pos ⟨rfl, rfl⟩]; rfl
  · rw [wI_at, if_neg (by omega), wI_at, if_neg (by omega)]; exact h2
  · rw [wI_at, if_neg (by omega), wI_at, if_neg (by omega)]; exact h3 y hy
  · rw [wI_at, if_neg (by omega), wI_at, if_neg (by omega)]; exact h4 k hk
  · rw [wI_at, if_neg (by omega), wI_at, if_neg (by omega)]; exact h5 y hy
  · rw [wI_at, if_neg (by omega), wI_at, if_neg (by omega)]; exact h6 m1 y hm1 hy
  · rw [wI_at, if_neg (by omega), wI_at, if_neg (by omega)]; exact h7 y hy
  · have hi2 : i < tb T + 1 := hi
    show _ = nI (if i = tb T then x else tp T i)
    by_cases q : i = tb T
    · rw [if_pos q, wI_at, if_neg (by omega), wI_at, if_pos ⟨rfl, q⟩]
    · rw [if_neg q, wI_at, if_neg (by omega), wI_at, if_neg (by omega)]
      exact h8 i (by omega)
  · rw [wI_at, if_neg (by omega), wI_at, if_neg (by omega)]; exact h9 i hi
  · rw [wI_at, if_neg (by omega), wI_at, if_neg (by omega)]; exact h10 i hi
theorem bird5 (h : CR C n b p 2 c T M) (hq : CQ C n) (hp : p ≤ n) (hb : tb T < 4) (hn8 : tn T ≤ 8) : IR5 C n b M (tlB b n p c T) (fX0_readBird 4 45 M) := by
  unfold fX0_readBird tlB
  rw [gfI_e, h.w.n, fig5 h hq hp (by omega), cal_ok]
  by_cases q1 : fgP b n p (tn T) = true
  · obtain ⟨a1, a2, a3, -⟩ := fg_T (by omega) q1
    have h1 := h.sp hq (p + 1)
    obtain ⟨M5, hM5⟩ : ∃ M5, M5 = wI M 4 2 (nI (p + 1)) := ⟨_, rfl⟩
    have O5 : Off PR M M5 := by rw [hM5]; exact Off.rf.wI (Or.inl ⟨rfl, by decide⟩)
    rw [← hM5] at h1
    have Oj : Off PR M5 (wI (wI M5 (45 + 9) (tb T) (nI (fgV b p))) 45 1 (nI (tb T + 1))) := (Off.rf.wI (Or.inr ⟨by decide, by decide⟩)).wI (Or.inr ⟨by decide, by decide⟩)
    rw [if_pos q1, if_pos q1, if_neg (nI_n9 (by omega)), gfI_e, h.vp, pfI_e, np1, ← hM5, addb_ok h1.ro h1.w hb, cal_ok]
    refine IR5.r (h1.of hq Oj ?_ ?_ ?_ h1.w.addb) (O5.tr Oj)
    · rw [wI_at, if_neg (by omega), wI_at, if_neg (by omega)]; exact h1.vp
    · rw [wI_at, if_neg (by omega), wI_at, if_neg (by omega)]; exact h1.vg
    · rw [wI_at, if_neg (by omega), wI_at, if_neg (by omega)]; exact h1.vc
  · rw [if_neg q1, if_neg q1, if_pos rfl]
    exact IR5.l h.vp Off.rf
theorem pk5 (h : CR C n b p g c T M) (hq : CQ C n) (hp : p ≤ n) {m : Nat} (hm : m < 3) : gX0_readPockets (1, 4, 45, nI m, M) = if fgP b n p 10 = true then some (.inl (1, 4, 45, nI (m + 1), wI (wI M 4 2 (nI (p + 1))) (45 + 10) m (nI (fgV b p)))) else some (.inr (0, M)) := by
  have ef := fig5 h hq hp (k := 10) (by decide)
  have ef : fX0_figureBelow 4 10 M = _ := ef
  show bX0_readPockets_2 4 45 (nI m) M = _
  unfold bX0_readPockets_2
  rw [show (3 : Int32) = nI 3 from rfl, if_neg (show ¬ nI 3 ≤ nI m by rw [nle_F (by omega) (by decide)]; exact id), ef, cal_ok]
  by_cases q1 : fgP b n p 10 = true
  · obtain ⟨a1, a2, a3, -⟩ := fg_T (by decide) q1
    rw [if_pos q1, if_neg (nI_n9 (by omega)), if_pos q1, gfI_e, h.vp, pfI_e, np1, wQ (h.ro.wI _ _ _) w45, st_w 3 (w_ln w45).2.2.2.2.2.2.1 hm (by decide), np1]
  · rw [if_neg q1, if_pos rfl, if_neg q1]
theorem CR.pk (h : CR C n b p g c T M) (hq : CQ C n) {m v : Nat} : CR C n b (p + 1) g c (setq T m v) (wI (wI M 4 2 (nI (p + 1))) (45 + 10) m (nI v)) ∧ Off PR M (wI (wI M 4 2 (nI (p + 1))) (45 + 10) m (nI v)) := by
  have h1 := h.sp hq (p + 1)
  have O1 : Off PR (wI M 4 2 (nI (p + 1))) (wI (wI M 4 2 (nI (p + 1))) (45 + 10) m (nI v)) := Off.rf.wI (Or.inr ⟨by decide, by decide⟩)
  refine ⟨h1.of hq O1 ?_ ?_ ?_ h1.w.setq, (Off.rf.wI (Or.inl ⟨rfl, by decide⟩)).tr O1⟩
  · rw [wI_at, if_neg (by omega)]; exact h1.vp
  · rw [wI_at, if_neg (by omega)]; exact h1.vg
  · rw [wI_at, if_neg (by omega)]; exact h1.vc
theorem pockets5 (h : CR C n b p 3 c T M) (hq : CQ C n) (hp : p ≤ n) : IR5 C n b M (tlK b n p c T) (fX0_readPockets 4 45 M) := by
  unfold fX0_readPockets bX0_readPockets_0
  rw [fen_l]
  have s0 := pk5 h hq hp (m := 0) (by decide)
  have s0 : gX0_readPockets (1, 4, 45, 0, M) = _ := s0
  unfold tlK
  by_cases q1 : fgP b n p 10 = true
  · obtain ⟨a1, -, -, -⟩ := fg_T (by decide) q1
    rw [if_pos q1] at s0 ⊢
    obtain ⟨h1, O1⟩ := h.pk hq (m := 0) (v := fgV b p)
    rw [fnl_in s0]
    have s1 := pk5 h1 hq (by omega) (m := 1) (by decide)
    by_cases q2 : fgP b n (p + 1) 10 = true
    · obtain ⟨a2, -, -, -⟩ := fg_T (by decide) q2
      rw [if_pos q2] at s1 ⊢
      obtain ⟨h2, O2⟩ := h1.pk hq (m := 1) (v := fgV b (p + 1))
      rw [fnl_in s1]
      have s2 := pk5 h2 hq (by omega) (m := 2) (by decide)
      by_cases q3 : fgP b n (p + 2) 10 = true
      · rw [if_pos (show fgP b n (p + 1 + 1) 10 = true from q3)] at s2
        rw [if_pos q3]
        obtain ⟨h3, O3⟩ := h2.pk hq (m := 2) (v := fgV b (p + 1 + 1))
        rw [fnl_in s2, fnl_out (show gX0_readPockets (1, 4, 45, nI (2 + 1), _) = some (.inr (1, _)) from by
          show bX0_readPockets_2 4 45 (nI 3) _ = _
          unfold bX0_readPockets_2
          rw [if_pos (show (3 : Int32) ≤ nI 3 by decide)])]
        exact IR5.r h3 ((O1.tr O2).tr O3)
      · rw [if_neg (show ¬ fgP b n (p + 1 + 1) 10 = true from q3)] at s2
        rw [if_neg q3, fnl_out s2]
        exact IR5.l h2.vp (O1.tr O2)
    · rw [if_neg q2] at s1 ⊢
      rw [fnl_out s1]
      exact IR5.l h1.vp O1
  · rw [if_neg q1] at s0 ⊢
    rw [fnl_out s0]
    exact IR5.l h.vp Off.rf
end

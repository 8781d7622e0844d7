/-! READING: the reference, pockets, places, the whole text -/
theorem kind6 (v : Int32) (M : Mm) : fX6_kindOf v M = some (if kdN v = 9 then -9 else nI (kdN v), M) := by
  unfold fX6_kindOf kdN
  by_cases q0 : v = 112
  · subst q0; rfl
  by_cases q1 : v = 103
  · subst q1; rfl
  by_cases q2 : v = 116
  · subst q2; rfl
  by_cases q3 : v = 98
  · subst q3; rfl
  by_cases q4 : v = 109
  · subst q4; rfl
  by_cases q5 : v = 99
  · subst q5; rfl
  simp only [if_neg q0, if_neg q1, if_neg q2, if_neg q3, if_neg q4, if_neg q5, ite_self]
  rfl
section
variable {t n : Nat} {b : Nat → Int32} {p g c : Nat} {T : WT} {M M1 : Mm}
theorem pk6 (h : SR t n b M) (ht : t < 4) (hn : n ≤ 80) (e : M.1 93 14 = nI p) (hp : p ≤ n) {m : Nat} (hm : m < 3) : ∃ M1, gX6_readsPockets (1, 93, nI t, nI m, M) = (if fgP b n p 10 = true then some (.inl (1, 93, nI t, nI (m + 1), M1)) else some (.inr (0, M1))) ∧ M1.1 93 14 = nI (if fgP b n p 10 = true then p + 1 else p) ∧ (fgP b n p 10 = true → M1.1 105 m = nI (fgV b p)) ∧ Off (fun c j => c = 93 ∧ (j = 14 ∨ j = 23) ∨ c = 105 ∧ j = m) M M1 := by
  obtain ⟨M7, e7, v7, w7, Oa⟩ := fig6 h ht hn e hp (k := 10) (by decide) (by decide)
  have e7 : fX6_figure 93 (nI t) 9 M = _ := e7
  have r7 := Oa.ro h.1
  show ∃ M1, bX6_readsPockets_22 93 (nI t) (nI m) M = _ ∧ _
  unfold bX6_readsPockets_22
  rw [show (3 : Int32) = nI 3 from rfl, if_neg (show ¬ nI 3 ≤ nI m by rw [nle_F (by omega) (by decide)]; exact id), e7, cal_ok]
  by_cases q : fgP b n p 10 = true
  · have w7 := w7 q
    rw [if_pos q] at v7
    simp only [if_pos q]
    rw [if_neg (show ¬ (1 : Int32) = 0 by decide), gR r7 0 93 22 105 (by decide), gfI_e, w7, st_w 3 (show ln 105 = 3 from rfl) hm (by decide), np1]
    refine ⟨_, rfl, ?_, fun _ => ?_, (Oa.mo (fun c j z => Or.inl z)).wI (Or.inr ⟨rfl, rfl⟩)⟩
    · rw [wI_at, if_neg (by omega)]; exact v7
    · rw [wI_at, if_pos ⟨rfl, rfl⟩]
  · rw [if_neg q] at v7
    simp only [if_neg q]
    rw [if_pos trivial]
    exact ⟨M7, rfl, v7, fun z => absurd z q, Oa.mo (fun c j z => Or.inl z)⟩
theorem pockets6 (h : RR t n b p g c T M) (ht : t < 4) (hn : n ≤ 80) (hJ : JS n p g c T) (hp : p < n) : IR6 t n b M (itK b n p c T) (fX6_readsPockets 93 (nI t) M) := by
  obtain ⟨j1, j2, j3, j4, j5, j6, j7, hT⟩ := id hJ
  have hn8 := hT.1
  obtain ⟨hS, e14, e16, e18, hX, -⟩ := id h
  unfold fX6_readsPockets bX6_readsPockets_0 itK
  rw [gfI_e, hX.1]
  by_cases a1 : tn T < 2
  · rw [if_neg (show ¬ 2 ≤ nI (tn T) by rw [show (2 : Int32) = nI 2 from rfl, nle_F a1 (by decide)]; exact id), if_pos a1, fen_r]
    exact IR6.l e14 Off.rf
  rw [if_pos (show 2 ≤ nI (tn T) by rw [show (2 : Int32) = nI 2 from rfl, nle_T (by omega) (by omega)]; trivial), if_neg a1, gfI_e, e14, pfI_e, np1, fen_l]
  obtain ⟨M5, hM5⟩ : ∃ M5, M5 = wI M 93 14 (nI (p + 1)) := ⟨_, rfl⟩
  have O5 : Off PR6 M M5 := by rw [hM5]; exact Off.rf.wI (Or.inl ⟨rfl, by decide, by decide⟩)
  have P5 : ∀ c j, ¬ (c = 93 ∧ j = 14) → M5.1 c j = M.1 c j := fun c j q => by rw [hM5, wI_at, if_neg q]
  have v5 : M5.1 93 14 = nI (p + 1) := by rw [hM5, wI_at, if_pos ⟨rfl, rfl⟩]
  rw [← hM5]
  have S5 := hS.of O5
  obtain ⟨Ma, ea, va, wa, Oa⟩ := pk6 S5 ht hn v5 (by omega) (m := 0) (by decide)
  have ea : gX6_readsPockets (1, 93, nI t, 0, M5) = _ := ea
  have Oa2 : Off PR6 M5 Ma := Oa.mo (fun c j z => by unfold PR6; omega)
  unfold tlK
  by_cases q1 : fgP b n (p + 1) 10 = true
  · obtain ⟨k1, -, -, -⟩ := fg_T (by decide) q1
    have wa := wa q1
    rw [if_pos q1] at ea va
    rw [if_pos q1, fnl_in ea]
    have Sa := S5.of Oa2
    obtain ⟨Mb, eb, vb, wb, Ob⟩ := pk6 Sa ht hn va (by omega) (m := 1) (by decide)
    have Ob2 : Off PR6 Ma Mb := Ob.mo (fun c j z => by unfold PR6; omega)
    by_cases q2 : fgP b n (p + 1 + 1) 10 = true
    · obtain ⟨k2, -, -, -⟩ := fg_T (by decide) q2
      have wb := wb q2
      rw [if_pos q2] at eb vb
      rw [if_pos q2, fnl_in eb]
      have Sb := Sa.of Ob2
      obtain ⟨Mc, ec, vc, wc, Oc⟩ := pk6 Sb ht hn vb (by omega) (m := 2) (by decide)
      have Oc2 : Off PR6 Mb Mc := Oc.mo (fun c j z => by unfold PR6; omega)
      by_cases q3 : fgP b n (p + 1 + 2) 10 = true
      · have q3' : fgP b n (p + 1 + 1 + 1) 10 = true := q3
        have wc := wc q3'
        rw [if_pos q3'] at ec vc
        have Sc := Sb.of Oc2
        have en : gX6_readsPockets (1, 93, nI t, nI (2 + 1), Mc) = some (.inr (1, wI Mc 93 18 1)) := by
          show bX6_readsPockets_22 93 (nI t) (nI 3) Mc = _
          unfold bX6_readsPockets_22
          rw [if_pos (show (3 : Int32) ≤ nI 3 by decide), pfI_e]
        have Oz : Off PR6 Mc (wI Mc 93 18 1) := Off.rf.wI (Or.inl ⟨rfl, by decide, by decide⟩)
        have oo : ∀ c j, ¬ (c = 93 ∧ (j = 14 ∨ j = 23 ∨ j = 18)) → c ≠ 105 → (wI Mc 93 18 1).1 c j = M.1 c j := fun c j u w => by rw [wI_at, if_neg (by omega), Oc.1 c j (by omega), Ob.1 c j (by omega), Oa.1 c j (by omega), P5 c j (by omega)]
        rw [if_pos q3, fnl_in ec, fnl_out en]
        refine IR6.r ⟨Sc.of Oz, ?_, ?_, ?_, hX.pt (fun c j z => oo c j (by omega) (by omega)), fun _ m hm => ?_⟩ ((((O5.tr Oa2).tr Ob2).tr Oc2).tr Oz)
        · rw [wI_at, if_neg (by omega)]; exact vc
        · rw [oo _ _ (by omega) (by omega)]; exact e16
        · rw [wI_at, if_pos ⟨rfl, rfl⟩, if_pos rfl]
        · show _ = nI (if m = 2 then fgV b (p + 1 + 2) else if m = 1 then fgV b (p + 1 + 1) else if m = 0 then fgV b (p + 1) else tq T m)
          rw [wI_at, if_neg (by omega)]
          by_cases k2 : m = 2
          · rw [if_pos k2, k2]; exact wc
          rw [if_neg k2, Oc.1 _ _ (by omega)]
          by_cases k3 : m = 1
          · rw [if_pos k3, k3]; exact wb
          rw [if_neg k3, Ob.1 _ _ (by omega), if_pos (show m = 0 by omega), show m = 0 by omega]
          exact wa
      · have q3' : ¬ fgP b n (p + 1 + 1 + 1) 10 = true := q3
        rw [if_neg q3'] at ec vc
        rw [if_neg q3, fnl_out ec]
        exact IR6.l vc (((O5.tr Oa2).tr Ob2).tr Oc2)
    · rw [if_neg q2] at eb vb
      rw [if_neg q2, fnl_out eb]
      exact IR6.l vb ((O5.tr Oa2).tr Ob2)
  · rw [if_neg q1] at ea va
    rw [if_neg q1, fnl_out ea]
    exact IR6.l va (O5.tr Oa2)
theorem place6 (h : RR t n b p g c T M) (hJ : JS n p g c T) (hg : g ≠ 3) : IR6 t n b M (itL b p g c T) (fX6_readsPlace 93 (b p) M) := by
  obtain ⟨j1, j2, j3, j4, j5, j6, j7, hT⟩ := id hJ
  have hn8 := hT.1
  have hb4 := hT.2.1
  obtain ⟨hS, e14, e16, e18, hX, -⟩ := id h
  rw [if_neg hg] at e18
  have hb0 : c + tb T = 0 ↔ g = 0 := by
    rcases (show g = 0 ∨ g = 1 ∨ g = 2 by omega) with z | z | z
    · have := j4 z; omega
    · have := j5 z; omega
    · have := j6 z; omega
  unfold fX6_readsPlace bX6_readsPlace_32 itL
  rw [kind6, cal_ok]
  by_cases a1 : kdN (b p) = 9
  · rw [if_pos a1, if_pos rfl, if_pos (Or.inl a1)]
    exact IR6.l e14 Off.rf
  have hk := kd_le a1
  rw [if_neg a1, if_neg (nI_n9 (by omega)), gfI_e, hX.1]
  by_cases a2 : tn T = 8
  · rw [if_pos (show nI (tn T) = 8 by rw [a2]; rfl), if_pos (show kdN (b p) = 9 ∨ g ≠ 0 ∨ 8 ≤ tn T by omega)]
    exact IR6.l e14 Off.rf
  rw [if_neg (show ¬ nI (tn T) = 8 from fun z => a2 (nI_inj (b := 8) (by omega) (by decide) z)), gfI_e, e16, gfI_e, hX.2.1, nI_pl]
  by_cases a3 : g = 0
  · have hc0 := hb0.mpr a3
    obtain ⟨k, ek⟩ : ∃ k, k = kdN (b p) := ⟨_, rfl⟩
    obtain ⟨Mz, hMz⟩ : ∃ Mz, Mz = wI (wI (wI (wI M 102 (tn T) (nI k)) 103 (tn T) 0) 93 15 (nI (tn T + 1))) 93 14 (nI (p + 1)) := ⟨_, rfl⟩
    have Oz : Off PR6 M Mz := by rw [hMz]; exact (((Off.rf.wI (Or.inr ⟨by decide, by decide⟩)).wI (Or.inr ⟨by decide, by decide⟩)).wI (Or.inl ⟨rfl, by decide, by decide⟩)).wI (Or.inl ⟨rfl, by decide, by decide⟩)
    have r0 := hS.1
    rw [if_pos (show nI (c + tb T) ≤ 0 by rw [nle0_T hc0]; trivial), if_neg (show ¬ (kdN (b p) = 9 ∨ g ≠ 0 ∨ 8 ≤ tn T) by omega), ← ek, gR r0 0 93 19 102 (by decide), gfI_e, hX.1, st_w 8 (show ln 102 = 8 from rfl) (show tn T < 8 by omega) (by decide), gR (r0.wI _ _ _) 0 93 20 103 (by decide), gfI_e, wI_at, if_neg (show ¬ (93 = 102 ∧ 15 = tn T) by omega), hX.1, st_w 8 (show ln 103 = 8 from rfl) (show tn T < 8 by omega) (by decide), gfI_e, wI_at, if_neg (show ¬ (93 = 103 ∧ 15 = tn T) by omega), wI_at, if_neg (show ¬ (93 = 102 ∧ 15 = tn T) by omega), hX.1, pfI_e, np1, gfI_e, wI_at, if_neg (show ¬ (93 = 93 ∧ 14 = 15) by omega), wI_at, if_neg (show ¬ (93 = 103 ∧ 14 = tn T) by omega), wI_at, if_neg (show ¬ (93 = 102 ∧ 14 = tn T) by omega), e14, pfI_e, np1, ← hMz]
    refine IR6.r ⟨hS.of Oz, ?_, ?_, ?_, ⟨?_, ?_, fun z hz => ?_, fun z hz => ?_, fun i hi => ?_⟩, fun z => absurd z (by decide)⟩ Oz
    · rw [hMz, wI_at, if_pos ⟨rfl, rfl⟩]
    · rw [hMz, wI_at, if_neg (by omega), wI_at, if_neg (by omega), wI_at, if_neg (by omega), wI_at, if_neg (by omega)]; exact e16
    · rw [hMz, wI_at, if_neg (by omega), wI_at, if_neg (by omega), wI_at, if_neg (by omega), wI_at, if_neg (by omega), e18, if_neg (by decide)]
    · rw [hMz, wI_at, if_neg (by omega), wI_at, if_pos ⟨rfl, rfl⟩]; rfl
    · rw [hMz, wI_at, if_neg (by omega), wI_at, if_neg (by omega), wI_at, if_neg (by omega), wI_at, if_neg (by omega)]; exact hX.2.1
    · have hz2 : z < tn T + 1 := hz
      show _ = nI (if z = tn T then k else tk T z)
      rw [hMz, wI_at, if_neg (by omega), wI_at, if_neg (by omega), wI_at, if_neg (by omega), wI_at]
      by_cases k1 : z = tn T
      · rw [if_pos ⟨rfl, k1⟩, if_pos k1]
      · rw [if_neg (by omega), if_neg k1]; exact hX.2.2.1 z (by omega)
    · have hz2 : z < tn T + 1 := hz
      show _ = nI (if z = tn T then 0 else te T z)
      rw [hMz, wI_at, if_neg (by omega), wI_at, if_neg (by omega), wI_at]
      by_cases k1 : z = tn T
      · rw [if_pos ⟨rfl, k1⟩, if_pos k1]; rfl
      · rw [if_neg (by omega), if_neg k1, wI_at, if_neg (by omega)]; exact hX.2.2.2.1 z (by omega)
    · rw [hMz, wI_at, if_neg (by omega), wI_at, if_neg (by omega), wI_at, if_neg (by omega), wI_at, if_neg (by omega)]; exact hX.2.2.2.2 i hi
  · have : ¬ c + tb T = 0 := fun z => a3 (hb0.mp z)
    rw [if_neg (show ¬ nI (c + tb T) ≤ 0 by rw [nle0_F (by omega) (by omega)]; exact id), if_pos (show kdN (b p) = 9 ∨ g ≠ 0 ∨ 8 ≤ tn T from Or.inr (Or.inl a3))]
    exact IR6.l e14 Off.rf
theorem item6 (h : RR t n b p g c T M) (ht : t < 4) (hn : n ≤ 80) (hJ : JS n p g c T) (hp : p < n) (hg : g ≠ 3) : ∃ o, (if b p = 45 then cal (fX6_readsPath 93 (nI t) M) fun v19 M18 => if v19 = 0 then bX6_faultOf_133 93 M18 else bX6_faultOf_138 93 (nI t) M18 else if b p = 118 then cal (fX6_readsBird 93 (nI t) M) fun v17 M16 => if v17 = 0 then bX6_faultOf_133 93 M16 else bX6_faultOf_138 93 (nI t) M16 else if b p = 107 then cal (fX6_readsPockets 93 (nI t) M) fun v15 M14 => if v15 = 0 then bX6_faultOf_133 93 M14 else bX6_faultOf_138 93 (nI t) M14 else cal (fX6_readsPlace 93 (b p) M) fun v13 M12 => if v13 = 0 then bX6_faultOf_133 93 M12 else bX6_faultOf_138 93 (nI t) M12) = (cal o fun v13 M12 => if v13 = 0 then bX6_faultOf_133 93 M12 else bX6_faultOf_138 93 (nI t) M12) ∧ IR6 t n b M (itm b n p g c T) o := by
  unfold itm
  rw [if_neg hg]
  by_cases r1 : b p = 45
  · refine ⟨fX6_readsPath 93 (nI t) M, by rw [if_pos r1], ?_⟩
    rw [if_pos r1]
    exact path6 h ht hn hJ hp hg
  by_cases r2 : b p = 118
  · refine ⟨fX6_readsBird 93 (nI t) M, by rw [if_neg r1, if_pos r2], ?_⟩
    rw [if_neg r1, if_pos r2]
    exact bird6 h ht hn hJ hp hg
  by_cases r3 : b p = 107
  · refine ⟨fX6_readsPockets 93 (nI t) M, by rw [if_neg r1, if_neg r2, if_pos r3], ?_⟩
    rw [if_neg r1, if_neg r2, if_pos r3]
    exact pockets6 h ht hn hJ hp
  refine ⟨fX6_readsPlace 93 (b p) M, by rw [if_neg r1, if_neg r2, if_neg r3], ?_⟩
  rw [if_neg r1, if_neg r2, if_neg r3]
  exact place6 h hJ hg
theorem read6_go (ht : t < 4) (hn : n ≤ 80) : ∀ d p g c (T : WT) (M : Mm), n < d + p → JS n p g c T → RR t n b p g c T M → ∃ M1, fnl gX6_faultOf (1, 93, nI t, M) = some (ansR (rdF b n d p g c T), M1) ∧ (∀ T1, rdF b n d p g c T = .inr T1 → RX T1 M1 ∧ ∀ m, m < 3 → M1.1 105 m = nI (tq T1 m)) ∧ Off PR6 M M1 := by
  intro d
  induction d with
  | zero =>
    intro p g c T M hd hJ h
    exact absurd hJ.1 (by omega)
  | succ d ih =>
    intro p g c T M hd hJ h
    have e0 : rdF b n (d + 1) p g c T = if n ≤ p then (if g = 3 then .inr T else .inl n) else if b p = 32 then rdF b n d (p + 1) g c T else rdN (rdF b n d) (itm b n p g c T) := rfl
    have hp := hJ.1
    obtain ⟨hS, e14, e16, e18, hX, hQ⟩ := id h
    have ld98 : ∀ {K : Int32 → Option ((Nat × Nat × Int32 × Mm) ⊕ Int32 × Mm)}, ldI M 98 (nI t) K = K (nI n) := fun {K} => by rw [ld_w 4 (show ln 98 = 4 from rfl) ht (by decide), hS.2.1]
    rw [e0]
    by_cases q1 : n ≤ p
    · rw [if_pos q1]
      by_cases q2 : g = 3
      · rw [if_pos q2] at e18
        rw [if_pos q2]
        refine ⟨M, fnl_out ?_, fun T1 e => ?_, Off.rf⟩
        · show bX6_faultOf_25 93 (nI t) M = some (.inr (-9, M))
          unfold bX6_faultOf_25
          rw [gfI_e, e14, r93_98 hS.1, ld98, if_pos (nI_le q1 (by omega)), gfI_e, e18, if_neg (show ¬ (1 : Int32) = 0 by decide)]
        · cases e; exact ⟨hX, hQ q2⟩
      · rw [if_neg q2] at e18
        rw [if_neg q2]
        refine ⟨M, fnl_out ?_, fun T1 e => ?_, Off.rf⟩
        · show bX6_faultOf_25 93 (nI t) M = some (.inr (nI n, M))
          unfold bX6_faultOf_25
          rw [gfI_e, e14, r93_98 hS.1, ld98, if_pos (nI_le q1 (by omega)), gfI_e, e18, if_pos rfl, r93_98 hS.1, ld98]
        · cases e
    · rw [if_neg q1]
      have hlt : p < n := by omega
      have eb := byte6 hS ht hn (i := p) (by omega)
      rw [if_pos hlt] at eb
      by_cases q2 : b p = 32
      · rw [if_pos q2]
        have O1 : Off PR6 M (wI M 93 14 (nI (p + 1))) := Off.rf.wI (Or.inl ⟨rfl, by decide, by decide⟩)
        have h1 : RR t n b (p + 1) g c T (wI M 93 14 (nI (p + 1))) := by
          refine ⟨hS.of O1, by rw [wI_at, if_pos ⟨rfl, rfl⟩], by rw [wI_at, if_neg (by omega)]; exact e16, by rw [wI_at, if_neg (by omega)]; exact e18, hX.pt (fun c j z => by rw [wI_at, if_neg (by omega)]), fun z m hm => ?_⟩
          rw [wI_at, if_neg (by omega)]
          exact hQ z m hm
        obtain ⟨M1, e1, c1, O2⟩ := ih (p + 1) g c T (wI M 93 14 (nI (p + 1))) (by omega) ⟨by omega, hJ.2⟩ h1
        refine ⟨M1, (fnl_in ?_).trans e1, c1, O1.tr O2⟩
        show bX6_faultOf_25 93 (nI t) M = some (.inl (1, 93, nI t, wI M 93 14 (nI (p + 1))))
        unfold bX6_faultOf_25
        rw [gfI_e, e14, r93_98 hS.1, ld98, if_neg (show ¬ nI n ≤ nI p by rw [nle_F hlt (by omega)]; exact id), gfI_e, e14, eb, cal_ok, if_pos q2, gfI_e, e14, pfI_e, np1]
        rfl
      · rw [if_neg q2]
        by_cases q3 : g = 3
        · rw [if_pos q3] at e18
          have er : itm b n p g c T = .inl p := by unfold itm; rw [if_pos q3]
          rw [er]
          refine ⟨M, fnl_out ?_, fun T1 e => ?_, Off.rf⟩
          · show bX6_faultOf_25 93 (nI t) M = some (.inr (nI p, M))
            unfold bX6_faultOf_25 bX6_faultOf_133
            rw [gfI_e, e14, r93_98 hS.1, ld98, if_neg (show ¬ nI n ≤ nI p by rw [nle_F hlt (by omega)]; exact id), gfI_e, e14, eb, cal_ok, if_neg q2, gfI_e, e18, if_neg (show ¬ (1 : Int32) = 0 by decide), gfI_e, e14]
          · cases e
        · rw [if_neg q3] at e18
          obtain ⟨o, eo, hi⟩ := item6 h ht hn hJ hlt q3
          have hok := itm_ok (b := b) hJ hlt
          have hd6 : gX6_faultOf (1, 93, nI t, M) = (cal o fun v13 M12 => if v13 = 0 then bX6_faultOf_133 93 M12 else bX6_faultOf_138 93 (nI t) M12) := by
            rw [← eo]
            show bX6_faultOf_25 93 (nI t) M = _
            unfold bX6_faultOf_25
            rw [gfI_e, e14, r93_98 hS.1, ld98, if_neg (show ¬ nI n ≤ nI p by rw [nle_F hlt (by omega)]; exact id), gfI_e, e14, eb, cal_ok, if_neg q2, gfI_e, e18, if_pos rfl]
          cases hr : itm b n p g c T with
          | inl q =>
            rw [hr] at hi
            obtain ⟨M2, e2, v2, O2⟩ := hi
            refine ⟨M2, fnl_out ?_, fun T1 e => ?_, O2⟩
            · show gX6_faultOf (1, 93, nI t, M) = some (.inr (nI q, M2))
              rw [hd6, e2, cal_ok, if_pos rfl]
              unfold bX6_faultOf_133
              rw [gfI_e, v2]
            · cases e
          | inr S =>
            rw [hr] at hi
            obtain ⟨M2, e2, h2, O2⟩ := hi
            obtain ⟨jS, hpS⟩ := hok.2 S hr
            obtain ⟨M3, e3, c3, O3⟩ := ih S.1 S.2.1 S.2.2.1 S.2.2.2 M2 (by omega) jS h2
            refine ⟨M3, (fnl_in ?_).trans e3, c3, O2.tr O3⟩
            rw [hd6, e2, cal_ok, if_neg (show ¬ (1 : Int32) = 0 by decide)]
            rfl
end
theorem read6 {M : Mm} {t n : Nat} {b : Nat → Int32} (ht : t < 4) (hn : n ≤ 80) (hS : SR t n b M) : ∃ M1, fX6_faultOf 93 (nI t) M = some (ansR (rdF b n (n + 1) 0 0 0 T0), M1) ∧ (∀ T1, rdF b n (n + 1) 0 0 0 T0 = .inr T1 → RX T1 M1 ∧ ∀ m, m < 3 → M1.1 105 m = nI (tq T1 m)) ∧ Off PR6 M M1 := by
  obtain ⟨Ma, hMa⟩ : ∃ Ma, Ma = wI (wI (wI (wI (wI M 93 14 0) 93 15 0) 93 16 0) 93 17 0) 93 18 0 := ⟨_, rfl⟩
  have Oa : Off PR6 M Ma := by rw [hMa]; exact ((((Off.rf.wI (Or.inl ⟨rfl, by decide, by decide⟩)).wI (Or.inl ⟨rfl, by decide, by decide⟩)).wI (Or.inl ⟨rfl, by decide, by decide⟩)).wI (Or.inl ⟨rfl, by decide, by decide⟩)).wI (Or.inl ⟨rfl, by decide, by decide⟩)
  have hR : RR t n b 0 0 0 T0 Ma := by
    refine ⟨hS.of Oa, ?_, ?_, ?_, ⟨?_, ?_, fun x hx => absurd hx (Nat.not_lt_zero _), fun x hx => absurd hx (Nat.not_lt_zero _), fun x hx => absurd hx (Nat.not_lt_zero _)⟩, fun z => absurd z (by decide)⟩
    · rw [hMa, wI_at, if_neg (by omega), wI_at, if_neg (by omega), wI_at, if_neg (by omega), wI_at, if_neg (by omega), wI_at, if_pos ⟨rfl, rfl⟩]; rfl
    · rw [hMa, wI_at, if_neg (by omega), wI_at, if_neg (by omega), wI_at, if_pos ⟨rfl, rfl⟩]; rfl
    · rw [hMa, wI_at, if_pos ⟨rfl, rfl⟩]; rfl
    · rw [hMa, wI_at, if_neg (by omega), wI_at, if_neg (by omega), wI_at, if_neg (by omega), wI_at, if_pos ⟨rfl, rfl⟩]; rfl
    · rw [hMa, wI_at, if_neg (by omega), wI_at, if_pos ⟨rfl, rfl⟩]; rfl
  obtain ⟨M1, e3, c3, O3⟩ := read6_go ht hn (n + 1) 0 0 0 T0 Ma (by omega) (JS.z n) hR
  refine ⟨M1, ?_, c3, Oa.tr O3⟩
  unfold fX6_faultOf bX6_faultOf_0
  rw [pfI_e, pfI_e, pfI_e, pfI_e, pfI_e, ← hMa, fen_l]
  exact e3

/-! READING: the class, the whole text -/
theorem st_0 {α : Type} {M : Mm} {K : Mm → Option α} {c : Nat} {v : Int32} (n : Nat) (hl : ln c = n) (h0 : 0 < n) (hn : n < 2 ^ 31) : stI M c 0 v K = K (wI M c 0 v) := st_w (x := 0) n hl h0 hn
def skF (b : Nat → Int32) (n : Nat) : Nat → Nat → Nat
  | 0, p => p
  | d + 1, p => if p < n ∧ b p = 32 then skF b n d (p + 1) else p
section
variable {C n : Nat} {b : Nat → Int32} {p g c : Nat} {T : WT} {M M1 : Mm}
theorem clear5 (h : RO M) : ∃ M1, fX4_clear 45 M = some ((), M1) ∧ CWd 45 T0 M1 ∧ Off (fun c _ => 45 ≤ c ∧ c ≤ 56) M M1 := by
  obtain ⟨M9, hM9⟩ : ∃ M9, M9 = wI (wI (wI (wI M 45 0 0) 45 1 0) 45 2 0) (45 + 11) 0 0 := ⟨_, rfl⟩
  have r9 : RO M9 := by rw [hM9]; exact h
  have O9 : Off (fun c _ => 45 ≤ c ∧ c ≤ 56) M M9 := by rw [hM9]; exact (((Off.rf.wI ⟨by decide, by decide⟩).wI ⟨by decide, by decide⟩).wI ⟨by decide, by decide⟩).wI ⟨by decide, by decide⟩
  have s0 : fX4_clear 45 M = fnl gX4_clear (1, 45, nI 0, M9) := by
    unfold fX4_clear bX4_clear_0
    rw [pfI_e, pfI_e, pfI_e, wY (((h.wI _ _ _).wI _ _ _).wI _ _ _) w45, st_0 31 (w_ln w45).2.2.2.2.2.2.2 (by decide) (by decide), ← hM9, fen_l]
    rfl
  obtain ⟨st, e1, M2, rfl, x1, O1⟩ := fnl_go (g := gX4_clear) (fun j st => ∃ M2, st = (1, 45, nI j, M2) ∧ (∀ i, i < j → M2.1 (45 + 2) i = 0) ∧ Off (fun c _ => c = 45 + 2) M9 M2) 6 (fun j st hj hI => by
    obtain ⟨M2, rfl, x1, O1⟩ := hI
    have r1 := O1.ro r9
    refine ⟨(1, 45, nI (j + 1), wI M2 (45 + 2) j 0), ?_, _, rfl, fun i hi => ?_, O1.wI rfl⟩
    · show bX4_clear_24 45 (nI j) M2 = _
      unfold bX4_clear_24
      rw [show (6 : Int32) = nI 6 from rfl, if_neg (show ¬ nI 6 ≤ nI j by rw [nle_F (by omega) (by decide)]; exact id), wO r1 w45, st_w 6 (w_ln w45).2.1 hj (by decide), np1]
    · by_cases q : i = j
      · rw [q, wI_at, if_pos ⟨rfl, rfl⟩]
      · rw [wI_at, if_neg (by omega)]; exact x1 i (by omega)) (s := (1, 45, nI 0, M9)) ⟨M9, rfl, fun i hi => absurd hi (by omega), Off.rf⟩
  have r2 := O1.ro r9
  have s1 : fnl gX4_clear (1, 45, nI 6, M2) = fnl gX4_clear (2, 45, nI 0, M2) := by
    refine fnl_in ?_
    show bX4_clear_24 45 (nI 6) M2 = _
    unfold bX4_clear_24
    rw [if_pos (show (6 : Int32) ≤ nI 6 by decide)]
    rfl
  obtain ⟨st, e2, M3, rfl, x2, O2⟩ := fnl_go (g := gX4_clear) (fun j st => ∃ M3, st = (2, 45, nI j, M3) ∧ (∀ i, i < j → M3.1 (45 + 10) i = 0) ∧ Off (fun c _ => c = 45 + 10) M2 M3) 3 (fun j st hj hI => by
    obtain ⟨M3, rfl, x2, O2⟩ := hI
    have r3 := O2.ro r2
    refine ⟨(2, 45, nI (j + 1), wI M3 (45 + 10) j 0), ?_, _, rfl, fun i hi => ?_, O2.wI rfl⟩
    · show bX4_clear_45 45 (nI j) M3 = _
      unfold bX4_clear_45
      rw [show (3 : Int32) = nI 3 from rfl, if_neg (show ¬ nI 3 ≤ nI j by rw [nle_F (by omega) (by decide)]; exact id), wQ r3 w45, st_w 3 (w_ln w45).2.2.2.2.2.2.1 hj (by decide), np1]
    · by_cases q : i = j
      · rw [q, wI_at, if_pos ⟨rfl, rfl⟩]
      · rw [wI_at, if_neg (by omega)]; exact x2 i (by omega)) (s := (2, 45, nI 0, M2)) ⟨M2, rfl, fun i hi => absurd hi (by omega), Off.rf⟩
  have s2 : fnl gX4_clear (2, 45, nI 3, M3) = some ((), M3) := by
    refine fnl_out ?_
    show bX4_clear_45 45 (nI 3) M3 = _
    unfold bX4_clear_45
    rw [if_pos (show (3 : Int32) ≤ nI 3 by decide)]
  have o3 : ∀ c j, c ≠ 45 + 2 → c ≠ 45 + 10 → M3.1 c j = M9.1 c j := fun c j a b => by rw [O2.1 c j b, O1.1 c j a]
  refine ⟨M3, s0.trans (e1.trans (s1.trans (e2.trans s2))), ⟨?_, ?_, ?_, fun y hy => absurd hy (Nat.not_lt_zero _), fun j hj => ?_, fun y hy => absurd hy (Nat.not_lt_zero _), fun m y hm hy => absurd hy (Nat.not_lt_zero _), fun y hy => absurd hy (Nat.not_lt_zero _), fun i hi => absurd hi (Nat.not_lt_zero _), fun i hi => ?_, fun i hi => ?_⟩, O9.tr ((O1.mo (fun c j z => by omega)).tr (O2.mo (fun c j z => by omega)))⟩
  · rw [o3 _ _ (by omega) (by omega), hM9, wI_at, if_neg (by omega), wI_at, if_neg (by omega), wI_at, if_neg (by omega), wI_at, if_pos ⟨rfl, rfl⟩]; rfl
  · rw [o3 _ _ (by omega) (by omega), hM9, wI_at, if_neg (by omega), wI_at, if_neg (by omega), wI_at, if_pos ⟨rfl, rfl⟩]; rfl
  · rw [o3 _ _ (by omega) (by omega), hM9, wI_at, if_neg (by omega), wI_at, if_pos ⟨rfl, rfl⟩]; rfl
  · rw [O2.1 _ _ (by omega), x1 j hj]; rfl
  · rw [x2 i hi]; rfl
  · have hi : i ≤ 0 := hi
    rw [show i = 0 by omega, o3 _ _ (by omega) (by omega), hM9, wI_at, if_pos ⟨rfl, rfl⟩]; rfl
theorem skip5_go (h : CR C n b p g c T M) (hq : CQ C n) : ∀ d j, p + j + d = n → fnl gX0_skipBlanks (1, 4, nI j, wI M 4 2 (nI (p + j))) = some ((), wI M 4 2 (nI (skF b n d (p + j)))) := by
  have hn := hq.2.2.2.2
  intro d
  induction d with
  | zero =>
    intro j hj
    have h1 := h.sp hq (p + j)
    refine fnl_out ?_
    show bX0_skipBlanks_2 4 (nI j) (wI M 4 2 (nI (p + j))) = _
    unfold bX0_skipBlanks_2
    rw [gfI_e, h1.vn]
    by_cases q : n ≤ j
    · rw [if_pos (nI_le q (by omega))]; rfl
    · rw [if_neg (show ¬ nI n ≤ nI j by rw [nle_F (by omega) (by omega)]; exact id), gfI_e, h1.vp, gfI_e, h1.vn, if_pos (nI_le (show n ≤ p + j by omega) (by omega))]; rfl
  | succ d ih =>
    intro j hj
    have h1 := h.sp hq (p + j)
    have hlt : p + j < n := by omega
    have e0 : skF b n (d + 1) (p + j) = if p + j < n ∧ b (p + j) = 32 then skF b n d (p + j + 1) else p + j := rfl
    have pre : ∀ z, gX0_skipBlanks (1, 4, nI j, wI M 4 2 (nI (p + j))) = z ↔ (if b (p + j) = 32 then some (.inl (1, 4, nI (j + 1), wI M 4 2 (nI (p + j + 1)))) else some (.inr ((), wI M 4 2 (nI (p + j))))) = z := by
      intro z
      show bX0_skipBlanks_2 4 (nI j) (wI M 4 2 (nI (p + j))) = z ↔ _
      unfold bX0_skipBlanks_2
      rw [gfI_e, h1.vn, if_neg (show ¬ nI n ≤ nI j by rw [nle_F (by omega) (by omega)]; exact id), gfI_e, h1.vp, gfI_e, h1.vn, if_neg (show ¬ nI n ≤ nI (p + j) by rw [nle_F (by omega) (by omega)]; exact id), h1.sg hq, gfI_e, h1.vp, h1.ld hq hlt, gfI_e, h1.vp, pfI_e, np1 (a := p + j), np1 (a := j), wI_ww]
    rw [e0]
    by_cases q : b (p + j) = 32
    · rw [if_pos ⟨hlt, q⟩]
      have i1 := ih (j + 1) (by omega)
      exact (fnl_in ((pre _).mpr (by rw [if_pos q]; rfl))).trans i1
    · rw [if_neg (fun z => q z.2)]
      exact fnl_out ((pre _).mpr (by rw [if_neg q]))
theorem skip5 (h : CR C n b p g c T M) (hq : CQ C n) (hp : p ≤ n) : fX0_skipBlanks 4 M = some ((), wI M 4 2 (nI (skF b n (n - p) p))) := by
  have i1 := skip5_go h hq (n - p) 0 (by omega)
  have i1 : fnl gX0_skipBlanks (1, 4, 0, wI M 4 2 (nI p)) = some ((), wI M 4 2 (nI (skF b n (n - p) p))) := i1
  rw [wI_sf h.vp] at i1
  unfold fX0_skipBlanks bX0_skipBlanks_0
  rw [fen_l]
  exact i1
theorem head5 (h : CR C n b p g c T M) {i : Nat} (hni : ¬ nI n < nI i) : bX0_read_37 4 45 (nI i) M = cal (fX0_skipBlanks 4 M) fun _ M3 => gfI M3 4 2 fun v4 => gfI M3 4 1 fun v5 => if v4 < v5 then cal (fX0_readItem 4 45 M3) fun v7 M6 => if v7 = 0 then gfI M6 4 2 fun v8 => some (.inr (v8, M6)) else some (.inl (1, 4, 45, (nI i + 1), M6)) else gfI M3 4 3 fun v9 => if v9 = 3 then some (.inr ((-9), M3)) else gfI M3 4 1 fun v10 => some (.inr (v10, M3)) := by
  unfold bX0_read_37
  rw [gfI_e, h.vn, if_neg hni]
theorem read5_go (hq : CQ C n) : ∀ d p g c (T : WT) i (M : Mm), n < d + p → i ≤ p → JS n p g c T → CR C n b p g c T M → ∃ M1, fnl gX0_read (1, 4, 45, nI i, M) = some (ansR (rdF b n d p g c T), M1) ∧ (∀ T1, rdF b n d p g c T = .inr T1 → CWd 45 T1 M1) ∧ Off PR M M1 := by
  have hn80 := hq.2.2.2.2
  intro d
  induction d with
  | zero =>
    intro p g c T i M hd hi hJ h
    exact absurd hJ.1 (by omega)
  | succ d ih =>
    intro p g c T i M hd hi hJ h
    have e0 : rdF b n (d + 1) p g c T = if n ≤ p then (if g = 3 then .inr T else .inl n) else if b p = 32 then rdF b n d (p + 1) g c T else rdN (rdF b n d) (itm b n p g c T) := rfl
    have hp := hJ.1
    have hg3 := hJ.2.2.1
    have hni : ¬ nI n < nI i := by rw [nlt_F (by omega) (by omega)]; exact id
    have es := skip5 h hq hp
    rw [e0]
    by_cases q1 : n ≤ p
    · rw [show n - p = 0 by omega, show skF b n 0 p = p from rfl, wI_sf h.vp] at es
      have hlt : ¬ nI p < nI n := by rw [nlt_F (by omega) (by omega)]; exact id
      rw [if_pos q1]
      by_cases q2 : g = 3
      · rw [if_pos q2]
        refine ⟨M, fnl_out ?_, fun T1 e => ?_, Off.rf⟩
        · show bX0_read_37 4 45 (nI i) M = some (.inr (-9, M))
          rw [head5 h hni, es, cal_ok, gfI_e, h.vp, gfI_e, h.vn, if_neg hlt, gfI_e, h.vg, if_pos (show nI g = 3 by rw [q2]; rfl)]
        · cases e; exact h.w
      · rw [if_neg q2]
        refine ⟨M, fnl_out ?_, fun T1 e => ?_, Off.rf⟩
        · show bX0_read_37 4 45 (nI i) M = some (.inr (nI n, M))
          rw [head5 h hni, es, cal_ok, gfI_e, h.vp, gfI_e, h.vn, if_neg hlt, gfI_e, h.vg, if_neg (show ¬ nI g = 3 from fun z => q2 (nI_inj (b := 3) (by omega) (by decide) z)), gfI_e, h.vn]
        · cases e
    · obtain ⟨k, hk⟩ : ∃ k, n - p = k + 1 := ⟨n - p - 1, by omega⟩
      have ek : skF b n (k + 1) p = if p < n ∧ b p = 32 then skF b n k (p + 1) else p := rfl
      rw [hk, ek] at es
      rw [if_neg q1]
      by_cases q2 : b p = 32
      · rw [if_pos ⟨by omega, q2⟩] at es
        rw [if_pos q2]
        have h1 := h.sp hq (p + 1)
        have O1 : Off PR M (wI M 4 2 (nI (p + 1))) := Off.rf.wI (Or.inl ⟨rfl, by decide⟩)
        have es1 := skip5 h1 hq (by omega)
        rw [show n - (p + 1) = k by omega, wI_ww] at es1
        obtain ⟨M1, e1, c1, O2⟩ := ih (p + 1) g c T i (wI M 4 2 (nI (p + 1))) (by omega) (by omega) ⟨by omega, hJ.2⟩ h1
        refine ⟨M1, (fnl_ee ?_).trans e1, c1, O1.tr O2⟩
        show bX0_read_37 4 45 (nI i) M = bX0_read_37 4 45 (nI i) (wI M 4 2 (nI (p + 1)))
        rw [head5 h hni, head5 h1 hni, es, es1]
      · rw [if_neg (fun z => q2 z.2), wI_sf h.vp] at es
        rw [if_neg q2]
        have hlt : nI p < nI n := by rw [nlt_T (by omega) (by omega)]; trivial
        have hi5 := item5 h hq (by omega) hJ
        have hok := itm_ok (b := b) hJ (by omega)
        cases hr : itm b n p g c T with
        | inl q =>
          rw [hr] at hi5
          obtain ⟨M2, e2, v2, O2⟩ := hi5
          refine ⟨M2, fnl_out ?_, fun T1 e => ?_, O2⟩
          · show bX0_read_37 4 45 (nI i) M = some (.inr (nI q, M2))
            rw [head5 h hni, es, cal_ok, gfI_e, h.vp, gfI_e, h.vn, if_pos hlt, e2, cal_ok, if_pos rfl, gfI_e, v2]
          · cases e
        | inr S =>
          rw [hr] at hi5
          obtain ⟨M2, e2, h2, O2⟩ := hi5
          obtain ⟨jS, hpS⟩ := hok.2 S hr
          obtain ⟨M3, e3, c3, O3⟩ := ih S.1 S.2.1 S.2.2.1 S.2.2.2 (i + 1) M2 (by omega) (by omega) jS h2
          refine ⟨M3, (fnl_in ?_).trans e3, c3, O2.tr O3⟩
          show bX0_read_37 4 45 (nI i) M = some (.inl (1, 4, 45, nI (i + 1), M2))
          rw [head5 h hni, es, cal_ok, gfI_e, h.vp, gfI_e, h.vn, if_pos hlt, e2, cal_ok, if_neg (show ¬ (1 : Int32) = 0 by decide), np1]
end
theorem JS.z (n : Nat) : JS n 0 0 0 T0 := ⟨Nat.zero_le _, by decide, by decide, fun _ => ⟨rfl, rfl⟩, fun z => absurd z (by decide), fun z => absurd z (by decide), fun z => absurd z (by decide), PT.z⟩
theorem read5 {M : Mm} {t n : Nat} (ht : t < 4) (h : RO M) (hn : n ≤ 80) (hz : M.1 (25 + 2 * t) 1 = nI n) : ∃ M1, fX0_read 4 (25 + 2 * t) 45 M = some (ansR (rdF (M.1 (25 + 2 * t + 1)) n (n + 1) 0 0 0 T0), M1) ∧ (∀ T1, rdF (M.1 (25 + 2 * t + 1)) n (n + 1) 0 0 0 T0 = .inr T1 → CWd 45 T1 M1) ∧ RO M1 ∧ (∀ c j, c ≠ 4 → ¬ (45 ≤ c ∧ c ≤ 56) → M1.1 c j = M.1 c j) ∧ M1.2.1 = M.2.1 := by
  obtain ⟨s1, s2, s3⟩ := strip_shT t ht
  have hq : CQ (25 + 2 * t + 1) n := ⟨s2, strip_ln.2 t ht, by omega, by omega, hn⟩
  obtain ⟨Mr, hMr⟩ : ∃ Mr, Mr = wR M 4 0 (25 + 2 * t + 1) := ⟨_, rfl⟩
  have rr : RO Mr := fun a f h1 h2 => by
    rw [hMr]
    show (if a = 4 ∧ f = 0 then 25 + 2 * t + 1 else M.2.2 a f) = _
    rw [if_neg h1]
    exact h a f h1 h2
  obtain ⟨Ma, hMa⟩ : ∃ Ma, Ma = wI (wI (wI (wI Mr 4 1 (nI n)) 4 2 0) 4 3 0) 4 4 0 := ⟨_, rfl⟩
  have ra : RO Ma := by rw [hMa]; exact rr
  have e22 : Ma.2.2 4 0 = 25 + 2 * t + 1 := by rw [hMa, hMr]; rfl
  have e1 : Mr.1 = M.1 := by rw [hMr]; rfl
  have oa : ∀ c j, c ≠ 4 → Ma.1 c j = M.1 c j := fun c j q => by rw [hMa, wI_at, if_neg (fun z => q z.1), wI_at, if_neg (fun z => q z.1), wI_at, if_neg (fun z => q z.1), wI_at, if_neg (fun z => q z.1), e1]
  obtain ⟨Mb, eb, hC, Ob⟩ := clear5 ra
  have hR : CR (25 + 2 * t + 1) n (M.1 (25 + 2 * t + 1)) 0 0 0 T0 Mb := by
    refine ⟨Ob.ro ra, by rw [Ob.2]; exact e22, ?_, fun i hi => ?_, ?_, ?_, ?_, hC⟩
    · rw [Ob.1 _ _ (by omega), hMa, wI_at, if_neg (by omega), wI_at, if_neg (by omega), wI_at, if_neg (by omega), wI_at, if_pos ⟨rfl, rfl⟩]
    · rw [Ob.1 _ _ (by omega), oa _ _ (by omega)]
    · rw [Ob.1 _ _ (by omega), hMa, wI_at, if_neg (by omega), wI_at, if_neg (by omega), wI_at, if_pos ⟨rfl, rfl⟩]; rfl
    · rw [Ob.1 _ _ (by omega), hMa, wI_at, if_neg (by omega), wI_at, if_pos ⟨rfl, rfl⟩]; rfl
    · rw [Ob.1 _ _ (by omega), hMa, wI_at, if_pos ⟨rfl, rfl⟩]; rfl
  obtain ⟨M1, e3, c3, O3⟩ := read5_go hq (n + 1) 0 0 0 T0 0 Mb (by omega) (by omega) (JS.z n) hR
  refine ⟨M1, ?_, c3, O3.ro (Ob.ro ra), fun c j a d => ?_, ?_⟩
  · unfold fX0_read bX0_read_0
    rw [gR h 0 (25 + 2 * t) 0 (25 + 2 * t + 1) ⟨s3, s2, by omega, by omega⟩, pfR_e, ← hMr, gfI_e, e1, hz, pfI_e, pfI_e, pfI_e, pfI_e, ← hMa, eb, cal_ok, fen_l]
    exact e3
  · rw [O3.1 c j (fun z => by unfold PR at z; omega), Ob.1 c j d, oa c j a]
  · rw [O3.2, Ob.2, hMa, hMr]; rfl

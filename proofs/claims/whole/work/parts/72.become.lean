/-! A WOOD BECOMES ANOTHER; waits, bare, astray, helps -/
section
variable {M : Mm} {a b : Nat} {T : WT}
theorem cp_ok {α : Type} {K : Mm → Option α} {c0 c n : Nat} {v : Int32} (hv : v = nI n) (h1 : ln c0 = n) (h2 : ln c = n) (hn : n < 2 ^ 31) : cpA M c0 0 c 0 v K = K (wC M c0 c 0 0 n) := by
  rw [hv]
  exact cpA_ok (i := 0) (j := 0) (by omega) (by omega) (by omega) (by omega)
def Bc (a b : Nat) (M M1 : Mm) (S : Nat → Nat → Prop) : Prop := (∀ i j, i ≤ 11 → S i j → M1.1 (a + i) j = M.1 (b + i) j) ∧ Off (fun c _ => a ≤ c ∧ c ≤ a + 11) M M1
theorem Bc.f {M1 : Mm} {S : Nat → Nat → Prop} (h : Bc a b M M1 S) (hd : b + 11 < a ∨ a + 11 < b) (j : Nat) : Bc a b M (wI M1 a j (M1.1 b j)) (fun i k => S i k ∨ i = 0 ∧ k = j) := by
  refine ⟨fun i k hi hs => ?_, h.2.wI (by omega)⟩
  by_cases q : i = 0 ∧ k = j
  · rw [q.1, q.2, wI_at, if_pos ⟨rfl, rfl⟩]
    exact h.2.1 b j (by omega)
  · rw [wI_at, if_neg (by omega)]
    exact h.1 i k hi (hs.resolve_right q)
theorem Bc.c {M1 : Mm} {S : Nat → Nat → Prop} (h : Bc a b M M1 S) (hd : b + 11 < a ∨ a + 11 < b) {c0 c : Nat} (n i : Nat) (hi : i ≤ 11) (hc0 : c0 = b + i) (hc : c = a + i) : Bc a b M (wC M1 c0 c 0 0 n) (fun i1 k => S i1 k ∨ i1 = i ∧ k < n) := by
  refine ⟨fun i1 k hi1 hs => ?_, ⟨fun e k q => ?_, h.2.2⟩⟩
  · by_cases q : i1 = i ∧ k < n
    · rw [wC_at, if_pos (by omega), hc0, q.1, show 0 + (k - 0) = k by omega]
      exact h.2.1 (b + i) k (by omega)
    · rw [wC_at, if_neg (by omega)]
      exact h.1 i1 k hi1 (hs.resolve_right q)
  · rw [wC_at, if_neg (by omega)]
    exact h.2.1 e k q
theorem become_ok (h : RO M) (ha : isW a) (hb : isW b) (hne : a ≠ b) (hC : CWd b T M) (hV : VT T) : ∃ M1, fX4_become a b M = some ((), M1) ∧ CWd a T M1 ∧ Off (fun c _ => a ≤ c ∧ c ≤ a + 11) M M1 := by
  have hd : b + 11 < a ∨ a + 11 < b := by unfold isW at ha hb; omega
  obtain ⟨la1, la2, la3, la5, la8, la9, la10, la11⟩ := w_ln ha
  obtain ⟨lb1, lb2, lb3, lb5, lb8, lb9, lb10, lb11⟩ := w_ln hb
  have B0 : Bc a b M M (fun _ _ => False) := ⟨fun _ _ _ q => q.elim, Off.rf⟩
  have B1 := B0.f hd 0
  have B2 := B1.f hd 1
  have B3 := B2.f hd 2
  have B4 := B3.c hd 8 1 (by decide) rfl rfl
  have B5 := B4.c hd 6 2 (by decide) rfl rfl
  have B6 := B5.c hd 8 3 (by decide) rfl rfl
  have r0 : ∀ {M1 : Mm} {S : Nat → Nat → Prop}, Bc a b M M1 S → RO M1 := fun q => q.2.ro h
  unfold fX4_become bX4_become_0
  rw [gfI_e, pfI_e, gfI_e, pfI_e, gfI_e, pfI_e, wK (r0 B3) hb, wK (r0 B3) ha, cp_ok (v := 8) (n := 8) rfl lb1 la1 (by decide), wO (r0 B4) hb, wO (r0 B4) ha, cp_ok (v := 6) (n := 6) rfl lb2 la2 (by decide), wB (r0 B5) hb, wB (r0 B5) ha, cp_ok (v := 8) (n := 8) rfl lb3 la3 (by decide), fen_l]
  revert B6
  generalize wC (wC (wC (wI (wI (wI M a 0 (M.1 b 0)) a 1 ((wI M a 0 (M.1 b 0)).1 b 1)) a 2 ((wI (wI M a 0 (M.1 b 0)) a 1 ((wI M a 0 (M.1 b 0)).1 b 1)).1 b 2)) (b + 1) (a + 1) 0 0 8) (b + 2) (a + 2) 0 0 6) (b + 3) (a + 3) 0 0 8 = N6
  intro B6
  have rnd : ∀ (m : Nat) (M1 : Mm), m < 3 → RO M1 → bX4_become_71 a b (nI m) M1 = some (.inl (1, a, b, nI (m + 1), wC M1 (b + 5 + m) (a + 5 + m) 0 0 8)) := by
    intro m M1 hm r1
    unfold bX4_become_71
    rw [if_neg (show ¬ (3 : Int32) ≤ nI m by rw [L3, nle_F (by omega) (by omega)]; exact id), wL r1 hb, wLr r1 hb m rfl hm, wL r1 ha, wLr r1 ha m rfl hm, cp_ok (v := 8) (n := 8) rfl (lb5 m hm) (la5 m hm) (by decide), np1]
  have B7 := B6.c hd (c0 := b + 5 + 0) (c := a + 5 + 0) 8 5 (by decide) (by omega) (by omega)
  have B8 := B7.c hd (c0 := b + 5 + 1) (c := a + 5 + 1) 8 6 (by decide) (by omega) (by omega)
  have B9 := B8.c hd (c0 := b + 5 + 2) (c := a + 5 + 2) 8 7 (by decide) (by omega) (by omega)
  have B10 := B9.c hd 8 8 (by decide) rfl rfl
  have B11 := B10.c hd 4 9 (by decide) rfl rfl
  have B12 := B11.c hd 3 10 (by decide) rfl rfl
  have B13 := B12.c hd 31 11 (by decide) rfl rfl
  refine ⟨_, ((fnl_in (rnd 0 N6 (by decide) (r0 B6))).trans ((fnl_in (rnd 1 _ (by decide) (r0 B7))).trans ((fnl_in (rnd 2 _ (by decide) (r0 B8))).trans (fnl_out (r := ((), wC (wC (wC (wC (wC (wC (wC N6 (b + 5 + 0) (a + 5 + 0) 0 0 8) (b + 5 + 1) (a + 5 + 1) 0 0 8) (b + 5 + 2) (a + 5 + 2) 0 0 8) (b + 8) (a + 8) 0 0 8) (b + 9) (a + 9) 0 0 4) (b + 10) (a + 10) 0 0 3) (b + 11) (a + 11) 0 0 31)) ?_)))), ?_, B13.2⟩
  · show bX4_become_71 a b (nI 3) _ = _
    unfold bX4_become_71
    rw [if_pos (show (3 : Int32) ≤ nI 3 by decide), wS (r0 B9) hb, wS (r0 B9) ha, cp_ok (v := 8) (n := 8) rfl lb8 la8 (by decide), wP (r0 B10) hb, wP (r0 B10) ha, cp_ok (v := 4) (n := 4) rfl lb9 la9 (by decide), wQ (r0 B11) hb, wQ (r0 B11) ha, cp_ok (v := 3) (n := 3) rfl lb10 la10 (by decide), wY (r0 B12) hb, wY (r0 B12) ha, cp_ok (v := 31) (n := 31) rfl lb11 la11 (by decide)]
  · have hn8 := hV.n8
    have hb4 := hV.b4
    have hs30 := hV.s30
    obtain ⟨h0, h1, h2, h3, h4, h5, h6, h7, h8, h9, h10⟩ := hC
    have P := B13.1
    refine ⟨(P 0 0 (by decide) ?_).trans h0, (P 0 1 (by decide) ?_).trans h1, (P 0 2 (by decide) ?_).trans h2, fun x hx => (P 1 x (by decide) ?_).trans (h3 x hx), fun x hx => (P 2 x (by decide) ?_).trans (h4 x hx), fun x hx => (P 3 x (by decide) ?_).trans (h5 x hx), fun m x hm hx => ?_, fun x hx => (P 8 x (by decide) ?_).trans (h7 x hx), fun x hx => (P 9 x (by decide) ?_).trans (h8 x hx), fun x hx => (P 10 x (by decide) ?_).trans (h9 x hx), fun x hx => (P 11 x (by decide) ?_).trans (h10 x hx)⟩
    all_goals try (repeat (first | exact Or.inr ⟨rfl, by omega⟩ | apply Or.inl))
    have e := P (5 + m) x (by omega) (by
      have : m = 0 ∨ m = 1 ∨ m = 2 := by omega
      rcases this with z | z | z <;> subst z <;> (repeat (first | exact Or.inr ⟨rfl, by omega⟩ | apply Or.inl)))
    rw [← Nat.add_assoc, ← Nat.add_assoc] at e
    exact e.trans (h6 m x hm hx)
theorem copyTo_ok (h : RO M) {f g : Nat} (hf : f < 4) (hg : g < 4) (hfg : f ≠ g) : ∃ M1, fX6_copyTo 93 (nI f) (nI g) M = some ((), M1) ∧ (∀ i, i < 39 → M1.1 106 (39 * g + i) = M.1 106 (39 * f + i)) ∧ Off (Pf g) M M1 := by
  unfold fX6_copyTo bX6_copyTo_0
  rw [fen_l]
  have key : ∃ r, fnl gX6_copyTo (1, 93, nI f, nI g, 0, M) = some r ∧ ((∀ i, i < 39 → r.2.1 106 (39 * g + i) = M.1 106 (39 * f + i)) ∧ Off (Pf g) M r.2) := by
    refine fnl_inv (g := gX6_copyTo) (fun j s => ∃ M1, s = (1, 93, nI f, nI g, nI j, M1) ∧ (∀ i, i < j → M1.1 106 (39 * g + i) = M.1 106 (39 * f + i)) ∧ Off (Pf g) M M1) 39 _ (fun j s hj hI => ?_) (fun s hI => ?_) 0 (Nat.zero_le _) _ ⟨M, rfl, fun i hi => absurd hi (by omega), Off.rf⟩
    · obtain ⟨M1, rfl, e1, hO⟩ := hI
      have h1 := hO.ro h
      left
      have ev := v_ok h1 (f := f) (b := j) (i := 0) (by omega)
      have es := set_ok h1 (f := g) (b := j) (i := 0) (v := M1.1 106 (39 * f + j + 0)) (by omega)
      rw [show nI 0 = (0 : Int32) from rfl] at ev es
      refine ⟨(1, 93, nI f, nI g, nI (j + 1), wI M1 106 (39 * g + j) (M1.1 106 (39 * f + j))), ?_, _, rfl, fun i hi => ?_, hO.wI ⟨rfl, by omega, by omega⟩⟩
      · show bX6_copyTo_2 93 (nI f) (nI g) (nI j) M1 = _
        unfold bX6_copyTo_2
        rw [if_neg (show ¬ (39 : Int32) ≤ nI j by rw [show (39 : Int32) = nI 39 from rfl, nle_F (by omega) (by omega)]; exact id), ev, cal_ok, es, cal_ok, np1]
        rfl
      · have ef : M1.1 106 (39 * f + j) = M.1 106 (39 * f + j) := hO.1 _ _ (fun q => by unfold Pf at q; omega)
        by_cases q : i = j
        · rw [q, wI_at, if_pos ⟨rfl, rfl⟩]; exact ef
        · rw [wI_at, if_neg (by omega)]; exact e1 i (by omega)
    · obtain ⟨M1, rfl, e1, hO⟩ := hI
      exact ⟨((), M1), rfl, e1, hO⟩
  obtain ⟨r, e, h2, h3⟩ := key
  exact ⟨r.2, e, h2, h3⟩
theorem RVd.cp {M1 : Mm} {f g : Nat} (hW : RVd f T M) (hV : VT T) (e : ∀ i, i < 39 → M1.1 106 (39 * g + i) = M.1 106 (39 * f + i)) (hO : Off (Pf g) M M1) : RVd g T M1 := by
  have hn8 := hV.n8
  have hb4 := hV.b4
  obtain ⟨w0, w1, w3, w4, w5, w6, w7, w8⟩ := hW
  have o : ∀ c j, c ≠ 106 → M1.1 c j = M.1 c j := fun c j q => hO.1 c j (fun z => q z.1)
  refine ⟨by rw [o _ _ (by omega)]; exact w0, by rw [o _ _ (by omega)]; exact w1, fun x hx => by rw [o _ _ (by omega)]; exact w3 x hx, fun x hx => by rw [o _ _ (by omega)]; exact w4 x hx, fun m x hm hx => ?_, fun x hx => ?_, fun x hx => ?_, fun x hx => ?_⟩
  · have := e (8 * m + x) (by omega)
    rw [← Nat.add_assoc, ← Nat.add_assoc] at this
    exact this.trans (w5 m x hm hx)
  · have := e (24 + x) (by omega)
    rw [← Nat.add_assoc, ← Nat.add_assoc] at this
    exact this.trans (w6 x hx)
  · have := e (32 + x) (by omega)
    rw [← Nat.add_assoc, ← Nat.add_assoc] at this
    exact this.trans (w7 x hx)
  · have := e (36 + x) (by omega)
    rw [← Nat.add_assoc, ← Nat.add_assoc] at this
    exact this.trans (w8 x hx)
theorem hs_1 (k : Nat) : hsT (hsT T k) 1 = hsT T (k + 1) := by
  show hbT (hsT T k) (tb (hsT T k)) = hbT (hsT T k) (tb T)
  rw [(hs_n k).2.1]
theorem w45 : isW 45 := Or.inr (Or.inl rfl)
def PA (c j : Nat) : Prop := c = 6 ∨ c = 8 ∨ 45 ≤ c ∧ c ≤ 56
def PB (c j : Nat) : Prop := c = 113 ∨ c = 93 ∧ j = 32 ∨ c = 106 ∧ 39 ≤ j
theorem waits5_go (hV : VT T) (h0 : tn T ≠ 0) : ∀ d k (M : Mm), k + d = 61 → RO M → CWd 45 (hsT T k) M → ∃ M1, fnl gX5_waits (1, 0, nI k, M) = some (frst (fun i => (fo (hsT T i)).2) d k, M1) ∧ Of2 PA M M1 := by
  intro d
  induction d with
  | zero =>
    intro k M hk r hC
    refine ⟨M, fnl_out ?_, Of2.rf r⟩
    show bX5_waits_26 0 (nI k) M = _
    unfold bX5_waits_26
    rw [if_pos (show (60 : Int32) < nI k by rw [show k = 61 by omega]; decide)]
    rfl
  | succ d ih =>
    intro k M hk r hC
    have hVk := hV.hs k
    have hnk : tn (hsT T k) ≠ 0 := by rw [(hs_n k).1]; exact h0
    obtain ⟨M1, e1, f1, f2, g1, O1⟩ := findsHome_ok r w45 hC hVk hnk
    have r1 := O1.2.2
    have hC1 : CWd 45 (hsT T k) M1 := hC.pt (fun c j q1 q2 => O1.1 c j (by omega))
    have hlt : ¬ (60 : Int32) < nI k := by rw [show (60 : Int32) = nI 60 from rfl, nlt_F (by omega) (by omega)]; exact id
    by_cases q : (fo (hsT T k)).2 = true
    · rw [if_pos q] at e1
      obtain ⟨M2, e2, hC2, O2⟩ := pass_ok r1 w45 hC1 hVk (n := 1) (by decide)
      rw [hs_1] at hC2
      have e2 : fX4_passHours 45 1 M1 = some (nI (hsE (hsT T k) 1), M2) := e2
      have r2 := O2.ro r1
      obtain ⟨M3, e3, O3⟩ := ih (k + 1) M2 (by omega) r2 hC2
      refine ⟨M3, ?_, ?_⟩
      · rw [show frst (fun i => (fo (hsT T i)).2) (d + 1) k = frst (fun i => (fo (hsT T i)).2) d (k + 1) from if_pos q]
        refine (fnl_in ?_).trans e3
        show bX5_waits_26 0 (nI k) M = _
        unfold bX5_waits_26
        rw [if_neg hlt, g6s r, g45 r, e1, cal_ok, if_neg (by decide), g45 r1, e2, cal_ok, np1]
      · exact ((O1.mo (fun c j z => by unfold PA; omega)).tr ((O2.of2 r1).mo (fun c j z => by unfold PA; omega))).tr O3
    · rw [if_neg q] at e1
      refine ⟨M1, ?_, O1.mo (fun c j z => by unfold PA; omega)⟩
      rw [show frst (fun i => (fo (hsT T i)).2) (d + 1) k = nI k from if_neg q]
      refine fnl_out ?_
      show bX5_waits_26 0 (nI k) M = _
      unfold bX5_waits_26
      rw [if_neg hlt, g6s r, g45 r, e1, cal_ok, if_pos rfl]
theorem here_hs (k : Nat) : hereN (hsT T k) = hereN T := by
  unfold hereN
  rw [(hs_n k).2.2.2.2.2.1, (hs_n k).2.2.2.1]
theorem waits6_go (hV : VT T) (h0 : tn T ≠ 0) : ∀ d k (M : Mm), k + d = 61 → RO M → RWd T M → RVd 1 (hsT T k) M → ∃ M1, fnl gX6_waits (1, 93, nI k, M) = some (frst (fun i => (fo (hsT T i)).2) d k, M1) ∧ Off PB M M1 := by
  intro d
  induction d with
  | zero =>
    intro k M hk r hW hC
    refine ⟨M, fnl_out ?_, Off.rf⟩
    show bX6_waits_18 93 (nI k) M = _
    unfold bX6_waits_18
    rw [if_pos (show (60 : Int32) < nI k by rw [show k = 61 by omega]; decide)]
    rfl
  | succ d ih =>
    intro k M hk r hW hC
    have hVk := hV.hs k
    have hnk : tn (hsT T k) ≠ 0 := by rw [(hs_n k).1]; exact h0
    obtain ⟨M1, e1, p1, p2, O1⟩ := follows_ok r (f := 1) (by decide) hC hVk.vw hVk.b4 (here_lt hVk hnk)
    rw [here_hs] at e1
    have e1 : fX6_follows 93 1 (nI (hereN T)) M = some (if (foL (fwT (hsT T k)) (hereN T)).2 = true then 1 else 0, M1) := e1
    rw [show (foL (fwT (hsT T k)) (hereN T)).2 = (fo (hsT T k)).2 by unfold fo; rw [here_hs]] at e1
    have r1 := O1.ro r
    have hW1 : RWd T M1 := hW.same2 hV (fun c j q => O1.1 c j (by omega))
    have hC1 : RVd 1 (hsT T k) M1 := hC.off hVk.n8 hVk.b4 O1.1 (fun c j q => by omega)
    have hlt : ¬ (60 : Int32) < nI k := by rw [show (60 : Int32) = nI 60 from rfl, nlt_F (by omega) (by omega)]; exact id
    by_cases q : (fo (hsT T k)).2 = true
    · rw [if_pos q] at e1
      obtain ⟨M2, e2, hC2, O2⟩ := hour6_ok r1 (f := 1) (by decide) hC1 hVk
      rw [show hbT (hsT T k) (tb (hsT T k)) = hsT T (k + 1) from hs_1 k] at hC2
      have e2 : fX6_hourOf 93 1 M1 = some (nI (hbE (hsT T k) (tb (hsT T k))), M2) := e2
      have r2 := O2.ro r1
      have hW2 : RWd T M2 := hW1.same2 hV (fun c j q => O2.1 c j (fun z => by unfold Pf at z; omega))
      obtain ⟨M3, e3, O3⟩ := ih (k + 1) M2 (by omega) r2 hW2 hC2
      refine ⟨M3, ?_, ?_⟩
      · rw [show frst (fun i => (fo (hsT T i)).2) (d + 1) k = frst (fun i => (fo (hsT T i)).2) d (k + 1) from if_pos q]
        refine (fnl_in ?_).trans e3
        show bX6_waits_18 93 (nI k) M = _
        unfold bX6_waits_18
        rw [if_neg hlt, hereNow2 r hW hV, cal_ok, e1, cal_ok, if_neg (by decide), e2, cal_ok, np1]
      · exact ((O1.mo (fun c j z => by unfold PB; omega)).tr (O2.mo (fun c j z => by unfold Pf at z; unfold PB; omega))).tr O3
    · rw [if_neg q] at e1
      refine ⟨M1, ?_, O1.mo (fun c j z => by unfold PB; omega)⟩
      rw [show frst (fun i => (fo (hsT T i)).2) (d + 1) k = nI k from if_neg q]
      refine fnl_out ?_
      show bX6_waits_18 93 (nI k) M = _
      unfold bX6_waits_18
      rw [if_neg hlt, hereNow2 r hW hV, cal_ok, e1, cal_ok, if_pos rfl]
/-- what is tried aside doesn't matter -/
theorem Rel.ab {M M1 M2 : Mm} (h : Rel M) (h1 : Of2 PA M M1) (r2 : RO M2) (h2 : ∀ c j, ¬ PB c j → ¬ PA c j → M2.1 c j = M1.1 c j) (hL : M2.2.1 = M1.2.1) : Rel M2 := by
  refine h.sc r2 (fun c j hi => ?_) (hL.trans h1.2.1)
  unfold imp at hi
  rw [h2 c j (by unfold PB; omega) (by unfold PA; omega), h1.1 c j (by unfold PA; omega)]
end
theorem op_waits (M : Mm) (h : Rel M) : Good Rel (fX5_waits 0 M) (fX6_waits 93) := by
  obtain ⟨hRO, hF, hR, hX, T, hV, hC, hW, hK⟩ := id h
  have hn8 := hV.n8
  by_cases h0 : tn T = 0
  · refine ⟨-4, M, M, ?_, ?_, h⟩
    · unfold fX5_waits bX5_waits_0
      rw [g33 hRO, emp1 hC hV h0, cal_ok, if_neg (by decide), fen_r]
    · show fX6_waits 93 M = _
      unfold fX6_waits bX6_waits_0
      rw [gfI_e, hW.1, h0, if_pos nI_0, fen_r]
  · have hne : ¬ nI (tn T) = 0 := nI_ne0 (by omega) (by omega)
    obtain ⟨M1, e1, hC1, O1⟩ := become_ok hRO w45 w33 (by decide) hC hV
    have r1 := O1.ro hRO
    obtain ⟨M2, e2, O2⟩ := waits5_go hV h0 61 0 M1 rfl r1 hC1
    have r2 := O2.2.2
    have O12 : Of2 PA M M2 := ((O1.of2 hRO).mo (fun c j z => by unfold PA; omega)).tr O2
    have hW2 : RWd T M2 := hW.same2 hV (fun c j q => O12.1 c j (fun z => by unfold PA at z; omega))
    obtain ⟨M3, e3, c3, O3⟩ := copyTo_ok r2 (f := 0) (g := 1) (by decide) (by decide) (by decide)
    have r3 := O3.ro r2
    have hW3 : RWd T M3 := hW2.same2 hV (fun c j q => O3.1 c j (fun z => by unfold Pf at z; omega))
    obtain ⟨M4, e4, O4⟩ := waits6_go hV h0 61 0 M3 rfl r3 hW3 (hW2.v.cp hV c3 O3)
    have e3 : fX6_copyTo 93 0 1 M2 = some ((), M3) := e3
    refine ⟨frst (fun i => (fo (hsT T i)).2) 61 0, M2, M4, ?_, ?_, ?_⟩
    · unfold fX5_waits bX5_waits_0
      rw [g33 hRO, emp0 hC hV h0, cal_ok, if_pos rfl, g45 hRO, g33 hRO, e1, cal_ok, fen_l]
      exact e2
    · show fX6_waits 93 M2 = _
      unfold fX6_waits bX6_waits_0
      rw [gfI_e, hW2.1, if_neg hne, e3, cal_ok, fen_l]
      exact e4
    · refine h.ab O12 (O4.ro r3) (fun c j q1 q2 => ?_) (by rw [O4.2, O3.2])
      rw [O4.1 c j q1, O3.1 c j (fun z => q1 (by unfold Pf at z; unfold PB; omega))]

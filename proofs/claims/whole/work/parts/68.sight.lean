/-! SIGHT: what is seen, as sets -/
def VW (T : WT) : Prop := tn T ≤ 8 ∧ (∀ x, x < tn T → tk T x ≤ 5) ∧ (∀ x, x < tn T → te T x < 2 ^ tn T) ∧ (∀ m x, m < 3 → x < tn T → tm T m x < 2 ^ 31)
theorem VT.vw {T : WT} (h : VT T) : VW T := ⟨h.n8, fun _ hx => h.k5 hx, fun _ hx => h.en hx, fun _ _ hm hx => by have := h.mk hm hx; omega⟩
def stB (T : WT) (x : Nat) : Bool := decide (tk T x ≠ 5 ∧ tm T 1 x ≠ 0)
def crB (T : WT) (x : Nat) : Bool := decide (tk T x ≠ 5 ∧ tk T x ≠ 2 ∧ tm T 0 x ≠ 0)
def knB (T : WT) (x : Nat) : Bool := decide (tk T x ≠ 5 ∧ tk T x ≠ 2 ∧ (tm T 2 x ≠ 0 ∨ tk T x = 4))
def stS (T : WT) : Nat := setN (stB T) (tn T)
def crS (T : WT) : Nat := setN (crB T) (tn T)
def knS (T : WT) : Nat := setN (knB T) (tn T)
def seenN (T : WT) (x : Nat) : Nat := (crB T x).toNat + 2 * (stB T x).toNat + 4 * (knB T x).toNat
theorem seen_num (T : WT) (x : Nat) : seenI T x = nI (seenN T x) := by
  unfold seenI seenN crB stB knB
  by_cases h5 : tk T x = 5
  · simp [h5]; rfl
  · by_cases h2 : tk T x = 2
    · by_cases q : tm T 1 x = 0
      · simp [h2, q]; rfl
      · simp [h2, q]; rfl
    · by_cases h4 : tk T x = 4
      · by_cases q : tm T 1 x = 0
        · by_cases r : tm T 0 x = 0
          · simp [h4, q, r]; rfl
          · simp [h4, q, r]; rfl
        · by_cases r : tm T 0 x = 0
          · simp [h4, q, r]; rfl
          · simp [h4, q, r]; rfl
      · by_cases q : tm T 1 x = 0
        · by_cases r : tm T 0 x = 0
          · by_cases s : tm T 2 x = 0
            · simp [h5, h2, h4, q, r, s]; rfl
            · simp [h5, h2, h4, q, r, s]; rfl
          · by_cases s : tm T 2 x = 0
            · simp [h5, h2, h4, q, r, s]; rfl
            · simp [h5, h2, h4, q, r, s]; rfl
        · by_cases r : tm T 0 x = 0
          · by_cases s : tm T 2 x = 0
            · simp [h5, h2, h4, q, r, s]; rfl
            · simp [h5, h2, h4, q, r, s]; rfl
          · by_cases s : tm T 2 x = 0
            · simp [h5, h2, h4, q, r, s]; rfl
            · simp [h5, h2, h4, q, r, s]; rfl
theorem sn_all : ∀ c s k : Bool, ∀ x, x < 8 → (((nI (c.toNat + 2 * s.toNat + 4 * k.toNat) &&& 1) <<< (nI x &&& 31)) = nI (if c then 2 ^ x else 0)) ∧ ((((nI (c.toNat + 2 * s.toNat + 4 * k.toNat) >>> ((1 : Int32) &&& 31)) &&& 1) <<< (nI x &&& 31)) = nI (if s then 2 ^ x else 0)) ∧ ((((nI (c.toNat + 2 * s.toNat + 4 * k.toNat) >>> ((2 : Int32) &&& 31)) &&& 1) <<< (nI x &&& 31)) = nI (if k then 2 ^ x else 0)) := by decide +kernel
theorem sn_bit : ∀ c s k : Bool, (decide (nI (c.toNat + 2 * s.toNat + 4 * k.toNat) &&& 1 = 0) = !c) ∧ (decide (nI (c.toNat + 2 * s.toNat + 4 * k.toNat) &&& 2 = 0) = !s) ∧ (decide (nI (c.toNat + 2 * s.toNat + 4 * k.toNat) &&& 4 = 0) = !k) := by decide +kernel
/-- what a step leaves alone, but references of the sight -/
def Of2 (P : Nat → Nat → Prop) (M M1 : Mm) : Prop := (∀ c j, ¬ P c j → M1.1 c j = M.1 c j) ∧ M1.2.1 = M.2.1 ∧ RO M1
theorem Off.of2 {P : Nat → Nat → Prop} {M M1 : Mm} (h : Off P M M1) (hr : RO M) : Of2 P M M1 := ⟨h.1, by rw [h.2], h.ro hr⟩
theorem Of2.tr {P : Nat → Nat → Prop} {M M1 M2 : Mm} (h : Of2 P M M1) (h2 : Of2 P M1 M2) : Of2 P M M2 := ⟨fun c j q => (h2.1 c j q).trans (h.1 c j q), h2.2.1.trans h.2.1, h2.2.2⟩
theorem Of2.mo {P Q : Nat → Nat → Prop} {M M1 : Mm} (h : Of2 P M M1) (hq : ∀ c j, P c j → Q c j) : Of2 Q M M1 := ⟨fun c j q => h.1 c j (fun z => q (hq c j z)), h.2⟩
theorem Of2.c {P : Nat → Nat → Prop} {M M1 : Mm} (h : Of2 P M M1) {c : Nat} (hc : ∀ j, ¬ P c j) : M1.1 c = M.1 c := funext fun j => h.1 c j (hc j)
theorem Of2.rf {P : Nat → Nat → Prop} {M : Mm} (h : RO M) : Of2 P M M := ⟨fun _ _ _ => rfl, rfl, h⟩
/-- the sight on a wood -/
def SG (a : Nat) (T : WT) (M : Mm) : Prop := M.2.2 6 0 = a + 3 ∧ M.1 6 1 = nI (tn T) ∧ M.1 6 2 = nI (ofK T 5) ∧ M.1 6 3 = nI (ofK T 4) ∧ M.1 6 4 = nI (crS T) ∧ M.1 6 5 = nI (stS T) ∧ M.1 6 6 = nI (knS T)
section
variable {M : Mm} {a : Nat} {T : WT}
theorem CWd.pt {M1 : Mm} (hC : CWd a T M) (h : ∀ c j, a ≤ c → c ≤ a + 11 → M1.1 c j = M.1 c j) : CWd a T M1 := hC.same (fun c a b => funext fun j => h c j a b)
theorem RO.wR6 {v : Nat} (h : RO M) : RO (wR M 6 0 v) := by
  intro b f h1 h2
  show (if b = 6 ∧ f = 0 then v else M.2.2 b f) = _
  rw [if_neg h2]
  exact h b f h1 h2
theorem look_ok (h : RO M) (hw : isW a) (hC : CWd a T M) (hV : VT T) : ∃ M1, fX1_look 6 a M = some ((), M1) ∧ SG a T M1 ∧ Of2 (fun c j => c = 6 ∧ j < 7) M M1 := by
  have hn8 := hV.n8
  have haw := isW_lt hw
  unfold fX1_look bX1_look_0
  obtain ⟨M0, hM0⟩ : ∃ M0, M0 = wR M 6 0 (a + 3) := ⟨_, rfl⟩
  have r0 : RO M0 := by rw [hM0]; exact h.wR6
  have hC0 : CWd a T M0 := by rw [hM0]; exact hC
  rw [wB h hw, pfR_e, ← hM0, gfI_e, hC0.n, pfI_e]
  obtain ⟨M1, hM1⟩ : ∃ M1, M1 = wI (wI (wI (wI (wI (wI M0 6 1 (nI (tn T))) 6 2 (nI (ofK T 5))) 6 3 (nI (ofK T 4))) 6 4 0) 6 5 0) 6 6 0 := ⟨_, rfl⟩
  have e0 : fen gX1_look (gfR (wI M0 6 1 (nI (tn T))) 0 a 4 fun v14 => ldI (wI M0 6 1 (nI (tn T))) v14 5 fun v15 => pfI (wI M0 6 1 (nI (tn T))) 6 2 v15 fun M16 => gfR M16 0 a 4 fun v17 => ldI M16 v17 4 fun v18 => pfI M16 6 3 v18 fun M19 => pfI M19 6 4 0 fun M20 => pfI M20 6 5 0 fun M21 => pfI M21 6 6 0 fun M22 => some (.inl (1, 6, a, 0, M22))) = fnl gX1_look (1, 6, a, 0, M1) := by
    have r1 : RO (wI M0 6 1 (nI (tn T))) := r0
    have c1 : (wI M0 6 1 (nI (tn T))).1 (a + 2) 5 = nI (ofK T 5) := by rw [wI_at, if_neg (by omega)]; exact hC0.o (by decide)
    have r2 : RO (wI (wI M0 6 1 (nI (tn T))) 6 2 (nI (ofK T 5))) := r0
    have c2 : (wI (wI M0 6 1 (nI (tn T))) 6 2 (nI (ofK T 5))).1 (a + 2) 4 = nI (ofK T 4) := by rw [wI_at, if_neg (by omega), wI_at, if_neg (by omega)]; exact hC0.o (by decide)
    rw [wO r1 hw, show (5 : Int32) = nI 5 from rfl, ldw2 hw (by decide), c1, pfI_e, wO r2 hw, show (4 : Int32) = nI 4 from rfl, ldw2 hw (by decide), c2, pfI_e, pfI_e, pfI_e, pfI_e, fen_l, hM1]
  rw [e0]
  have hs1 : M1.2.2 6 0 = a + 3 := by
    rw [hM1, hM0]
    show (if 6 = 6 ∧ 0 = 0 then a + 3 else M.2.2 6 0) = a + 3
    rw [if_pos ⟨rfl, rfl⟩]
  have key : ∃ r, fnl gX1_look (1, 6, a, 0, M1) = some r ∧ (SG a T r.2 ∧ Of2 (fun c j => c = 6 ∧ j < 7) M r.2) := by
    refine fnl_inv (g := gX1_look) (fun k s => ∃ M2, s = (1, 6, a, nI k, M2) ∧ (M2.2.2 6 0 = a + 3 ∧ M2.1 6 1 = nI (tn T) ∧ M2.1 6 2 = nI (ofK T 5) ∧ M2.1 6 3 = nI (ofK T 4) ∧ M2.1 6 4 = nI (setN (crB T) k) ∧ M2.1 6 5 = nI (setN (stB T) k) ∧ M2.1 6 6 = nI (setN (knB T) k)) ∧ Of2 (fun c j => c = 6 ∧ j < 7) M M2) (tn T) _ (fun k s hk hI => ?_) (fun s hI => ?_) 0 (Nat.zero_le _) _ ⟨M1, rfl, ⟨hs1, ?_⟩, ⟨fun c j q => ?_, ?_, ?_⟩⟩
    · obtain ⟨M2, rfl, ⟨g0, g1, g2, g3, g4, g5, g6⟩, hO⟩ := hI
      left
      have hC2 : CWd a T M2 := hC.pt (fun c j q1 q2 => hO.1 c j (by omega))
      have es := seenAt_ok hO.2.2 hw hC2 hV hk
      rw [seen_num] at es
      obtain ⟨s1, s2, s3⟩ := sn_all (crB T k) (stB T k) (knB T k) k (by omega)
      refine ⟨(1, 6, a, nI (k + 1), wI (wI (wI M2 6 4 (nI (setN (crB T) (k + 1)))) 6 5 (nI (setN (stB T) (k + 1)))) 6 6 (nI (setN (knB T) (k + 1)))), ?_, _, rfl, ⟨g0, ?_, ?_, ?_, ?_, ?_, ?_⟩, ⟨fun c j q => ?_, hO.2.1, hO.2.2⟩⟩
      · show bX1_look_53 6 a (nI k) M2 = _
        unfold bX1_look_53
        rw [gfI_e, g1, if_neg (show ¬ nI (tn T) ≤ nI k by rw [nle_F (by omega) (by omega)]; exact id), es, cal_ok, gfI_e, g4]
        unfold seenN
        rw [s1, s2, s3, nI_or, ← setN_or, pfI_e, gfI_e, wI_at, if_neg (by omega), g5, nI_or, ← setN_or, pfI_e, gfI_e, wI_at, if_neg (by omega), wI_at, if_neg (by omega), g6, nI_or, ← setN_or, pfI_e, np1]
      · rw [wI_at, if_neg (by omega), wI_at, if_neg (by omega), wI_at, if_neg (by omega)]; exact g1
      · rw [wI_at, if_neg (by omega), wI_at, if_neg (by omega), wI_at, if_neg (by omega)]; exact g2
      · rw [wI_at, if_neg (by omega), wI_at, if_neg (by omega), wI_at, if_neg (by omega)]; exact g3
      · rw [wI_at, if_neg (by omega), wI_at, if_neg (by omega), wI_at, if_pos ⟨rfl, rfl⟩]
      · rw [wI_at, if_neg (by omega), wI_at, if_pos ⟨rfl, rfl⟩]
      · rw [wI_at, if_pos ⟨rfl, rfl⟩]
      · rw [wI_at, if_neg (by omega), wI_at, if_neg (by omega), wI_at, if_neg (by omega)]; exact hO.1 c j q
    · obtain ⟨M2, rfl, hg, hO⟩ := hI
      refine ⟨((), M2), ?_, hg, hO⟩
      show bX1_look_53 6 a (nI (tn T)) M2 = _
      unfold bX1_look_53
      rw [gfI_e, hg.2.1, if_pos (nI_le (Nat.le_refl _) (by omega))]
    · rw [hM1]
      refine ⟨?_, ?_, ?_, ?_, ?_, ?_⟩
      · rw [wI_at, if_neg (by omega), wI_at, if_neg (by omega), wI_at, if_neg (by omega), wI_at, if_neg (by omega), wI_at, if_neg (by omega), wI_at, if_pos ⟨rfl, rfl⟩]
      · rw [wI_at, if_neg (by omega), wI_at, if_neg (by omega), wI_at, if_neg (by omega), wI_at, if_neg (by omega), wI_at, if_pos ⟨rfl, rfl⟩]
      · rw [wI_at, if_neg (by omega), wI_at, if_neg (by omega), wI_at, if_neg (by omega), wI_at, if_pos ⟨rfl, rfl⟩]
      · rw [wI_at, if_neg (by omega), wI_at, if_neg (by omega), wI_at, if_pos ⟨rfl, rfl⟩]; rfl
      · rw [wI_at, if_neg (by omega), wI_at, if_pos ⟨rfl, rfl⟩]; rfl
      · rw [wI_at, if_pos ⟨rfl, rfl⟩]; rfl
    · rw [hM1, wI_at, if_neg (by omega), wI_at, if_neg (by omega), wI_at, if_neg (by omega), wI_at, if_neg (by omega), wI_at, if_neg (by omega), wI_at, if_neg (by omega), hM0]
      rfl
    · rw [hM1, hM0]; rfl
    · rw [hM1]; exact r0
  obtain ⟨r, e, h1, h2⟩ := key
  exact ⟨r.2, e, h1, h2⟩
theorem seen6_ok (h : RO M) {f : Nat} (hf : f < 4) (hW : RVd f T M) (hV : VW T) {x : Nat} (hx : x < tn T) : fX6_seen 93 (nI f) (nI x) M = some (seenI T x, M) := by
  have hn8 := hV.1
  have hk5 := hV.2.1 x hx
  have m0 := hV.2.2.2 0 x (by decide) hx
  have m1 := hV.2.2.2 1 x (by decide) hx
  have m2 := hV.2.2.2 2 x (by decide) hx
  have e0 := marks_ok h (f := f) (m := 0) (x := x) (by omega)
  have e1 := marks_ok h (f := f) (m := 1) (x := x) (by omega)
  have e2 := marks_ok h (f := f) (m := 2) (x := x) (by omega)
  rw [hW.2.2.2.2.1 _ x (by decide) hx] at e0 e1 e2
  have ek : ∀ {α : Type} (K : Int32 → Option α), ldI M 100 (nI x) K = K (nI (tk T x)) := fun K => by rw [ld_w 8 (show ln 100 = 8 from rfl) (by omega) (by decide), hW.2.2.1 x hx]
  have knum : ∀ j, j ≤ 5 → (nI (tk T x) = nI j ↔ tk T x = j) := fun j hj => ⟨fun q => nI_inj (by omega) (by omega) q, fun q => by rw [q]⟩
  have b54 : ∀ s0 s1 : Int32, bX6_seen_54 93 (nI f) (nI x) s0 s1 M = some (if tm T 2 x ≠ 0 ∨ tk T x = 4 then (s1 ||| s0) ||| 4 else s1 ||| s0, M) := by
    intro s0 s1
    unfold bX6_seen_54 bX6_seen_77 bX6_seen_82 bX6_seen_84
    rw [ltI_e, show (2 : Int32) = nI 2 from rfl, e2, cal_ok, gt0_if (by omega), gR h 0 93 12 100 (by decide), ek]
    by_cases q : tm T 2 x = 0
    · rw [if_pos q]
      by_cases r : tk T x = 4
      · rw [if_pos (show nI (tk T x) = 4 from (knum 4 (by decide)).mpr r), if_pos (Or.inr r)]; rfl
      · rw [if_neg (show ¬ nI (tk T x) = 4 from fun z => r ((knum 4 (by decide)).mp z)), if_neg (by simp [q, r]), ltI_e, Int32.or_zero]
    · rw [if_neg q, if_pos (Or.inl q)]; rfl
  have b27 : ∀ s0 : Int32, bX6_seen_27 93 (nI f) (nI x) s0 M = some (if tk T x = 2 then s0 else if tm T 2 x ≠ 0 ∨ tk T x = 4 then (s0 ||| (if tm T 0 x = 0 then 0 else 1)) ||| 4 else s0 ||| (if tm T 0 x = 0 then 0 else 1), M) := by
    intro s0
    unfold bX6_seen_27 bX6_seen_84
    rw [gR h 0 93 12 100 (by decide), ek, show (0 : Int32) = nI 0 from rfl, e0, cal_ok, show nI 0 = (0 : Int32) from rfl, le0_if (by omega)]
    by_cases h2 : tk T x = 2
    · rw [if_pos (show nI (tk T x) = 2 from (knum 2 (by decide)).mpr h2), if_pos h2]
    · rw [if_neg (show ¬ nI (tk T x) = 2 from fun z => h2 ((knum 2 (by decide)).mp z)), if_neg h2]
      by_cases q : tm T 0 x = 0
      · rw [if_pos q, b54, if_pos q]
      · rw [if_neg q, b54, if_neg q]
  unfold fX6_seen seenI
  rw [gR h 0 93 12 100 (by decide), ek]
  by_cases h5 : tk T x = 5
  · rw [if_pos (show nI (tk T x) = 5 from (knum 5 (by decide)).mpr h5), if_pos h5]
  · rw [if_neg (show ¬ nI (tk T x) = 5 from fun z => h5 ((knum 5 (by decide)).mp z)), if_neg h5, show (1 : Int32) = nI 1 from rfl, e1, cal_ok, show nI 1 = (1 : Int32) from rfl, le0_if (by omega)]
    by_cases q : tm T 1 x = 0
    · rw [if_pos q, b27, if_pos q]
    · rw [if_neg q, b27, if_neg q]
end

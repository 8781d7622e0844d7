/-! FOLLOWING HOME -/
abbrev FoW : Type := (Nat → Nat) × Nat × Nat × Nat
def chN (A : Nat) (W : FoW) : Nat := if A &&& 1 ≠ 0 then A &&& 1 else if A &&& W.2.1 ≠ 0 then A &&& W.2.1 else if A &&& W.2.2.1 ≠ 0 then A &&& W.2.2.1 else A &&& W.2.2.2
def nxN (W : FoW) (D p : Nat) : Nat := if chN (difN (W.1 p) D) W = 0 then 9 else lsN (chN (difN (W.1 p) D) W) 0
def fL (W : FoW) : Nat → Nat → Nat → Nat × Bool
  | 0, _, p => (0, decide (p = 0))
  | fu + 1, D, p => if p = 0 then (0, true) else if nxN W D p = 9 then (0, false) else ((fL W fu (D ||| 2 ^ nxN W D p) (nxN W D p)).1 + 1, (fL W fu (D ||| 2 ^ nxN W D p) (nxN W D p)).2)
def fP (W : FoW) : Nat → Nat → Nat → Nat
  | 0, _, p => p
  | j + 1, D, p => fP W j (D ||| 2 ^ nxN W D p) (nxN W D p)
theorem fL_le (W : FoW) : ∀ fu D p, (fL W fu D p).1 ≤ fu
  | 0, _, _ => Nat.le_refl _
  | fu + 1, D, p => by
    unfold fL
    by_cases h : p = 0
    · rw [if_pos h]; exact Nat.zero_le _
    · rw [if_neg h]
      by_cases q : nxN W D p = 9
      · rw [if_pos q]; exact Nat.zero_le _
      · rw [if_neg q]
        have := fL_le W fu (D ||| 2 ^ nxN W D p) (nxN W D p)
        show (fL W fu _ _).1 + 1 ≤ fu + 1
        omega
theorem and_lt8 {A S : Nat} (h : A < 256) : A &&& S < 256 := Nat.lt_of_le_of_lt Nat.and_le_left h
theorem ch_lt {A : Nat} {W : FoW} (h : A < 256) : chN A W < 256 := by
  unfold chN
  by_cases q : A &&& 1 ≠ 0
  · rw [if_pos q]; exact and_lt8 h
  · rw [if_neg q]
    by_cases q : A &&& W.2.1 ≠ 0
    · rw [if_pos q]; exact and_lt8 h
    · rw [if_neg q]
      by_cases q : A &&& W.2.2.1 ≠ 0
      · rw [if_pos q]; exact and_lt8 h
      · rw [if_neg q]; exact and_lt8 h
theorem ch_sub {A y : Nat} {W : FoW} (h : (chN A W).testBit y = true) : A.testBit y = true := by
  unfold chN at h
  have an : ∀ S, (A &&& S).testBit y = true → A.testBit y = true := fun S q => by
    rw [Nat.testBit_and] at q
    simp only [Bool.and_eq_true] at q
    exact q.1
  by_cases q : A &&& 1 ≠ 0
  · rw [if_pos q] at h; exact an _ h
  · rw [if_neg q] at h
    by_cases q : A &&& W.2.1 ≠ 0
    · rw [if_pos q] at h; exact an _ h
    · rw [if_neg q] at h
      by_cases q : A &&& W.2.2.1 ≠ 0
      · rw [if_pos q] at h; exact an _ h
      · rw [if_neg q] at h; exact an _ h
theorem ls_all : ∀ C, C < 256 → C ≠ 0 → C.testBit (lsN C 0) = true ∧ lsN C 0 < 8 ∧ (∀ y, y < 8 → C.testBit y = true → lsN C 0 ≤ y) ∧ leastI (nI C) = nI (lsN C 0) := by decide +kernel
theorem cnt_or : ∀ D, D < 256 → ∀ q, q < 8 → D.testBit q = false → cntN (D ||| 2 ^ q) = cntN D + 1 := by decide +kernel
theorem cnt_8 : ∀ D, D < 256 → cntN D = 8 → D.testBit 0 = true := by decide +kernel
theorem cnt_p : ∀ p, p < 8 → cntN (2 ^ p) = 1 := by decide +kernel
theorem nx_in {W : FoW} {n D p : Nat} (hn : n ≤ 8) (hE : W.1 p < 2 ^ n) (h : nxN W D p ≠ 9) : nxN W D p < n ∧ D.testBit (nxN W D p) = false ∧ (W.1 p).testBit (nxN W D p) = true := by
  unfold nxN at h ⊢
  by_cases q : chN (difN (W.1 p) D) W = 0
  · exact absurd (if_pos q) h
  · rw [if_neg q]
    have hA : difN (W.1 p) D < 2 ^ n := dif_lt hE
    obtain ⟨h1, h2, -, -⟩ := ls_all _ (ch_lt (pow_lt8 hn hA)) q
    have h3 := ch_sub h1
    have h4 := h3
    rw [dif_bit h2] at h4
    simp only [Bool.and_eq_true, Bool.not_eq_true'] at h4
    refine ⟨?_, h4.2, h4.1⟩
    by_cases z : lsN (chN (difN (W.1 p) D) W) 0 < n
    · exact z
    · rw [Nat.testBit_lt_two_pow (Nat.lt_of_lt_of_le hA (Nat.pow_le_pow_right (by decide) (by omega)))] at h3
      exact absurd h3 (by decide)
theorem deMo (x y : Int32) : (x ^^^ (-1)) &&& (y ^^^ (-1)) = (x ||| y) ^^^ (-1) := by
  apply Int32.toBitVec_inj.mp
  rw [Int32.toBitVec_and, Int32.toBitVec_xor, Int32.toBitVec_xor, Int32.toBitVec_xor, Int32.toBitVec_or]
  apply BitVec.eq_of_getLsbD_eq
  intro i hi
  have h1 : (Int32.toBitVec (-1)) = BitVec.allOnes 32 := by decide
  rw [h1, BitVec.getLsbD_and, BitVec.getLsbD_xor, BitVec.getLsbD_xor, BitVec.getLsbD_xor, BitVec.getLsbD_or, BitVec.getLsbD_allOnes]
  cases x.toBitVec.getLsbD i <;> cases y.toBitVec.getLsbD i <;> simp [hi]
theorem nI_e0 {C : Nat} (h : C < 256) : (nI C = 0) ↔ C = 0 := ⟨fun q => Classical.byContradiction fun z => nI_ne0 (by omega) (by omega) q, fun q => by rw [q]; rfl⟩
/-- the ladder of the class's choice -/
theorem ladder {M : Mm} {W : FoW} {A i p : Nat} (hA : A < 256) (hp : p ≠ 0) (hp8 : p < 8) (hi : i < 8) (u : Int32) (E : Int32) (c : Nat) (hE : E &&& u = nI A) (h0 : M.2.2 6 0 = c) (hc : sh c = 0) (hcl : ln c = 8) (hM : M.1 c p = E) : bX1_follow_25 6 (nI W.2.1) (nI W.2.2.1) (nI W.2.2.2) (nI p) u (nI i) M = bX1_follow_89 6 (nI W.2.1) (nI W.2.2.1) (nI W.2.2.2) u (nI i) (nI (chN A W)) M := by
  have g0 : ∀ {α : Type} (K : Nat → Option α), gfR M 0 6 0 K = K c := fun K => by
    unfold gfR
    rw [h0, if_pos hc]
  have e1 := nI_e0 (and_lt8 (S := 1) hA)
  have e2 := nI_e0 (and_lt8 (S := W.2.1) hA)
  have e3 := nI_e0 (and_lt8 (S := W.2.2.1) hA)
  have hpz : ¬ nI p = 0 := nI_ne0 (by omega) (by omega)
  unfold bX1_follow_25 bX1_follow_66 bX1_follow_77 chN
  rw [if_neg (show ¬ (8 : Int32) ≤ nI i by rw [L8, nle_F (by omega) (by omega)]; exact id), if_neg hpz, g0, ld_w 8 hcl hp8 (by decide), hM, hE, ltI_e, show (1 : Int32) = nI 1 from rfl, ltI_e, nI_and, nI_and, nI_and, nI_and]
  by_cases q1 : A &&& 1 = 0
  · rw [if_pos (e1.mpr q1), if_neg (fun z => z q1), ltI_e]
    by_cases q2 : A &&& W.2.1 = 0
    · rw [if_pos (e2.mpr q2), if_neg (fun z => z q2), ltI_e]
      by_cases q3 : A &&& W.2.2.1 = 0
      · rw [if_pos (e3.mpr q3), if_neg (fun z => z q3), ltI_e]
      · rw [if_neg (fun z => q3 (e3.mp z)), if_pos q3]
    · rw [if_neg (fun z => q2 (e2.mp z)), if_pos q2, if_neg (fun z => q2 (e2.mp z))]
  · rw [if_neg (fun z => q1 (e1.mp z)), if_pos q1, if_neg (fun z => q1 (e1.mp z)), if_neg (fun z => q1 (e1.mp z))]
section
variable {M : Mm} {a : Nat}
theorem follow5_go {W : FoW} {n : Nat} (hw : isW a) (hn : n ≤ 8) (hE : ∀ x, x < n → W.1 x < 2 ^ n) : ∀ fu i D p (M : Mm), i + fu = 8 → 1 ≤ i → p < n → D < 256 → RO M → M.2.2 6 0 = a + 3 → (∀ x, x < n → M.1 (a + 3) x = nI (W.1 x)) → M.1 6 8 = nI (i - 1) → ∃ M1, fnl gX1_follow (1, 6, nI W.2.1, nI W.2.2.1, nI W.2.2.2, nI p, nI D ^^^ (-1), nI i, M) = some (if (fL W fu D p).2 then 1 else 0, M1) ∧ M1.1 6 8 = nI (i - 1 + (fL W fu D p).1) ∧ (∀ j, 1 ≤ j → j ≤ (fL W fu D p).1 → M1.1 8 (i - 1 + j) = nI (fP W j D p)) ∧ Off (fun c j => c = 8 ∧ i ≤ j ∨ c = 6 ∧ j = 8) M M1 := by
  have haw := isW_lt hw
  have hsh : sh (a + 3) = 0 := isW_all (P := fun a => sh (a + 3) = 0) (by decide) hw
  have out : ∀ p i (M : Mm) (u : Int32), p < 8 → (i = 8 ∨ p = 0) → i ≤ 8 → fnl gX1_follow (1, 6, nI W.2.1, nI W.2.2.1, nI W.2.2.2, nI p, u, nI i, M) = some (if decide (p = 0) then 1 else 0, M) := by
    intro p i M u hp hz hi
    refine fnl_out ?_
    show bX1_follow_25 6 (nI W.2.1) (nI W.2.2.1) (nI W.2.2.2) (nI p) u (nI i) M = _
    unfold bX1_follow_25 bX1_follow_135
    by_cases q : p = 0
    · subst q
      by_cases r : i = 8
      · subst r; rfl
      · rw [if_neg (show ¬ (8 : Int32) ≤ nI i by rw [L8, nle_F (by omega) (by omega)]; exact id), if_pos (show nI 0 = 0 from rfl), if_pos (show nI 0 = 0 from rfl)]
        rfl
    · have r : i = 8 := hz.resolve_right q
      subst r
      rw [if_pos (show (8 : Int32) ≤ nI 8 by decide), if_neg (nI_ne0 (by omega) (by omega))]
      simp [q]
  intro fu
  induction fu with
  | zero =>
    intro i D p M h8 h1 hp hD hRO hr hM h6
    refine ⟨M, out p i M _ (by omega) (Or.inl (by omega)) (by omega), h6, fun j q1 q2 => ?_, Off.rf⟩
    have q2 : j ≤ 0 := q2
    omega
  | succ fu ih =>
    intro i D p M h8 h1 hp hD hRO hr hM h6
    by_cases hp0 : p = 0
    · have e : fL W (fu + 1) D p = (0, true) := by
        unfold fL
        rw [if_pos hp0]
      rw [e]
      refine ⟨M, ?_, h6, fun j q1 q2 => ?_, Off.rf⟩
      · rw [out p i M _ (by omega) (Or.inr hp0) (by omega)]
        simp [hp0]
      · have q2 : j ≤ 0 := q2
        omega
    · have hA : difN (W.1 p) D < 256 := pow_lt8 hn (dif_lt (hE p hp))
      have hl := ladder (M := M) (W := W) (i := i) (p := p) hA hp0 (by omega) (by omega) (nI D ^^^ (-1)) (nI (W.1 p)) (a + 3) (nI_dif (pow_lt8 hn (hE p hp)) D) hr hsh (w_ln hw).2.2.1 (hM p hp)
      by_cases hc : chN (difN (W.1 p) D) W = 0
      · have e9 : nxN W D p = 9 := by unfold nxN; rw [if_pos hc]
        have e : fL W (fu + 1) D p = (0, false) := by
          unfold fL
          rw [if_neg hp0, if_pos e9]
        rw [e]
        refine ⟨M, fnl_out ?_, h6, fun j q1 q2 => ?_, Off.rf⟩
        · show bX1_follow_25 6 (nI W.2.1) (nI W.2.2.1) (nI W.2.2.2) (nI p) (nI D ^^^ (-1)) (nI i) M = _
          rw [hl, hc]
          rfl
        · have q2 : j ≤ 0 := q2
          omega
      · obtain ⟨l1, l2, -, l4⟩ := ls_all _ (ch_lt hA) hc
        have eq : nxN W D p = lsN (chN (difN (W.1 p) D) W) 0 := by unfold nxN; rw [if_neg hc]
        have hq9 : nxN W D p ≠ 9 := by rw [eq]; omega
        have hqn := (nx_in hn (hE p hp) hq9).1
        rw [← eq] at l4
        have eL : fL W (fu + 1) D p = ((fL W fu (D ||| 2 ^ nxN W D p) (nxN W D p)).1 + 1, (fL W fu (D ||| 2 ^ nxN W D p) (nxN W D p)).2) := by
          show (if p = 0 then _ else _) = _
          rw [if_neg hp0, if_neg hq9]
        generalize hgq : nxN W D p = q at *
        obtain ⟨M2, hM2⟩ : ∃ M2, M2 = wI (wI M 8 i (nI q)) 6 8 (nI i) := ⟨_, rfl⟩
        have step : fnl gX1_follow (1, 6, nI W.2.1, nI W.2.2.1, nI W.2.2.2, nI p, nI D ^^^ (-1), nI i, M) = fnl gX1_follow (1, 6, nI W.2.1, nI W.2.2.1, nI W.2.2.2, nI q, nI (D ||| 2 ^ q) ^^^ (-1), nI (i + 1), M2) := by
          refine fnl_in ?_
          show bX1_follow_25 6 (nI W.2.1) (nI W.2.2.1) (nI W.2.2.2) (nI p) (nI D ^^^ (-1)) (nI i) M = _
          rw [hl]
          unfold bX1_follow_89
          rw [if_neg (fun z => hc ((nI_e0 (ch_lt hA)).mp z)), least_ok, cal_ok, l4, shl1 q (by omega), deMo, nI_or, ltI_e, gR hRO 0 6 7 8 (by decide), st_w 8 (show ln 8 = 8 from rfl) (show i < 8 by omega) (by decide), pfI_e, np1, ← hM2]
        obtain ⟨M3, e3, f1, f2, hO⟩ := ih (i + 1) (D ||| 2 ^ q) q M2 (by omega) (by omega) hqn (Nat.or_lt_two_pow (n := 8) hD (pow_lt (by omega))) (by rw [hM2]; exact hRO) (by rw [hM2]; exact hr) (fun x hx => by rw [hM2, wI_at, if_neg (by omega), wI_at, if_neg (by omega)]; exact hM x hx) (by rw [hM2, wI_at, if_pos ⟨rfl, rfl⟩]; rfl)
        rw [eL]
        refine ⟨M3, step.trans e3, ?_, fun j q1 q2 => ?_, ?_⟩
        · rw [f1]
          show nI (i + 1 - 1 + (fL W fu (D ||| 2 ^ q) q).1) = nI (i - 1 + ((fL W fu (D ||| 2 ^ q) q).1 + 1))
          rw [show i + 1 - 1 + (fL W fu (D ||| 2 ^ q) q).1 = i - 1 + ((fL W fu (D ||| 2 ^ q) q).1 + 1) by omega]
        · have q2 : j ≤ (fL W fu (D ||| 2 ^ q) q).1 + 1 := q2
          obtain ⟨j', rfl⟩ : ∃ j', j = j' + 1 := ⟨j - 1, by omega⟩
          show _ = nI (fP W j' (D ||| 2 ^ nxN W D p) (nxN W D p))
          rw [hgq]
          by_cases hj : j' = 0
          · subst hj
            rw [show i - 1 + (0 + 1) = i by omega, hO.1 8 i (by omega), hM2, wI_at, if_neg (by omega), wI_at, if_pos ⟨rfl, rfl⟩]
            rfl
          · have := f2 j' (by omega) (by omega)
            rw [show i + 1 - 1 + j' = i - 1 + (j' + 1) by omega] at this
            exact this
        · refine ((Off.rf.wI (Or.inl ⟨rfl, Nat.le_refl _⟩)).wI (Or.inr ⟨rfl, rfl⟩) : Off (fun c j => c = 8 ∧ i ≤ j ∨ c = 6 ∧ j = 8) M (wI (wI M 8 i (nI q)) 6 8 (nI i))).tr ?_
          rw [← hM2]
          exact hO.mo (fun c j z => by omega)
def foL (W : FoW) (p : Nat) : Nat × Bool := fL W 7 (2 ^ p) p
def foP (W : FoW) (p j : Nat) : Nat := fP W j (2 ^ p) p
theorem follow5_ok {W : FoW} {n p : Nat} (hw : isW a) (hn : n ≤ 8) (hE : ∀ x, x < n → W.1 x < 2 ^ n) (hp : p < n) (hRO : RO M) (hr : M.2.2 6 0 = a + 3) (hM : ∀ x, x < n → M.1 (a + 3) x = nI (W.1 x)) : ∃ M1, fX1_follow 6 (nI p) (nI W.2.1) (nI W.2.2.1) (nI W.2.2.2) M = some (if (foL W p).2 then 1 else 0, M1) ∧ M1.1 6 8 = nI (foL W p).1 ∧ (∀ j, j ≤ (foL W p).1 → M1.1 8 j = nI (foP W p j)) ∧ Off (fun c j => c = 8 ∨ c = 6 ∧ j = 8) M M1 := by
  have haw := isW_lt hw
  obtain ⟨M2, hM2⟩ : ∃ M2, M2 = wI (wI M 8 0 (nI p)) 6 8 0 := ⟨_, rfl⟩
  have e0 : fX1_follow 6 (nI p) (nI W.2.1) (nI W.2.2.1) (nI W.2.2.2) M = fnl gX1_follow (1, 6, nI W.2.1, nI W.2.2.1, nI W.2.2.2, nI p, nI (2 ^ p) ^^^ (-1), nI 1, M2) := by
    unfold fX1_follow bX1_follow_0
    rw [shl1 p (by omega), ltI_e, gR hRO 0 6 7 8 (by decide), show stI M 8 0 (nI p) _ = stI M 8 (nI 0) (nI p) _ from rfl, st_w 8 (show ln 8 = 8 from rfl) (by decide) (by decide), pfI_e, fen_l, ← hM2]
    rfl
  obtain ⟨M3, e3, f1, f2, hO⟩ := follow5_go hw hn hE 7 1 (2 ^ p) p M2 rfl (Nat.le_refl _) hp (pow_lt (n := 8) (by omega)) (by rw [hM2]; exact hRO) (by rw [hM2]; exact hr) (fun x hx => by rw [hM2, wI_at, if_neg (by omega), wI_at, if_neg (by omega)]; exact hM x hx) (by rw [hM2, wI_at, if_pos ⟨rfl, rfl⟩]; rfl)
  refine ⟨M3, e0.trans e3, by rw [f1]; show nI (0 + _) = _; rw [Nat.zero_add]; rfl, fun j hj => ?_, ?_⟩
  · by_cases q : j = 0
    · subst q
      rw [hO.1 8 0 (by omega), hM2, wI_at, if_neg (by omega), wI_at, if_pos ⟨rfl, rfl⟩]
      rfl
    · have := f2 j (by omega) hj
      rw [show 1 - 1 + j = j by omega] at this
      exact this
  · refine ((Off.rf.wI (Or.inl rfl)).wI (Or.inr ⟨rfl, rfl⟩) : Off (fun c j => c = 8 ∨ c = 6 ∧ j = 8) M (wI (wI M 8 0 (nI p)) 6 8 0)).tr ?_
    rw [← hM2]
    exact hO.mo (fun c j z => by omega)
end

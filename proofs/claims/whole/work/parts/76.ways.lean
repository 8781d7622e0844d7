/-! WAYS by what lies -/
def wkN (T : WT) (A out : Nat) : Nat → Nat → Nat
  | 0, x => if out.testBit x then 0 else if x = hereN T then 1 else 0
  | k + 1, x => if out.testBit x then 0 else sumN (fun y => if (te T x).testBit y && A.testBit y then wkN T A out k y else 0) (tn T)
theorem wk_le {T : WT} {A out : Nat} (hn : tn T ≤ 8) : ∀ k x, wkN T A out k x ≤ 8 ^ k
  | 0, x => by
    show (if out.testBit x = true then 0 else if x = hereN T then 1 else 0) ≤ 1
    by_cases h : out.testBit x = true
    · rw [if_pos h]; omega
    · rw [if_neg h]
      by_cases q : x = hereN T
      · rw [if_pos q]; omega
      · rw [if_neg q]; omega
  | k + 1, x => by
    show (if out.testBit x = true then 0 else sumN (fun y => if (te T x).testBit y && A.testBit y then wkN T A out k y else 0) (tn T)) ≤ 8 ^ (k + 1)
    by_cases h : out.testBit x = true
    · rw [if_pos h]; exact Nat.zero_le _
    · rw [if_neg h]
      have h1 := sumN_le (f := fun y => if (te T x).testBit y && A.testBit y then wkN T A out k y else 0) (B := 8 ^ k) (n := tn T) (fun y _ => by
        show (if ((te T x).testBit y && A.testBit y) = true then wkN T A out k y else 0) ≤ 8 ^ k
        by_cases q : ((te T x).testBit y && A.testBit y) = true
        · rw [if_pos q]; exact wk_le hn k y
        · rw [if_neg q]; exact Nat.zero_le _)
      have h2 : tn T * 8 ^ k ≤ 8 * 8 ^ k := Nat.mul_le_mul_right _ hn
      rw [Nat.pow_succ, Nat.mul_comm (8 ^ k) 8]
      omega
theorem wk_lt {T : WT} {A out : Nat} (hn : tn T ≤ 8) {k : Nat} (hk : k ≤ 8) (x : Nat) : wkN T A out k x < 2 ^ 31 := by
  have h1 := wk_le (A := A) (out := out) hn k x
  have h2 : 8 ^ k ≤ 8 ^ 8 := Nat.pow_le_pow_right (by decide) hk
  have h3 : 8 ^ 8 < 2 ^ 31 := by decide
  omega
/-- a place left out: no step to it -/
theorem wk_out {T : WT} (hn : tn T ≤ 8) {A x : Nat} : ∀ k y, y ≠ x → wkN T A (2 ^ x) k y = wkN T (difN A (2 ^ x)) 0 k y
  | 0, y, h => by
    show (if (2 ^ x).testBit y = true then 0 else if y = hereN T then 1 else 0) = (if (0 : Nat).testBit y = true then 0 else if y = hereN T then 1 else 0)
    rw [Nat.testBit_two_pow, Nat.zero_testBit, if_neg (by simpa using fun z => h z.symm), if_neg (show ¬ false = true by decide)]
  | k + 1, y, h => by
    show (if (2 ^ x).testBit y = true then 0 else sumN (fun z => if (te T y).testBit z && A.testBit z then wkN T A (2 ^ x) k z else 0) (tn T)) = (if (0 : Nat).testBit y = true then 0 else sumN (fun z => if (te T y).testBit z && (difN A (2 ^ x)).testBit z then wkN T (difN A (2 ^ x)) 0 k z else 0) (tn T))
    rw [Nat.testBit_two_pow, Nat.zero_testBit, if_neg (by simpa using fun z => h z.symm), if_neg (show ¬ false = true by decide)]
    refine sumN_congr (fun z hz => ?_)
    show (if ((te T y).testBit z && A.testBit z) = true then wkN T A (2 ^ x) k z else 0) = (if ((te T y).testBit z && (difN A (2 ^ x)).testBit z) = true then wkN T (difN A (2 ^ x)) 0 k z else 0)
    rw [dif_bit (by omega), Nat.testBit_two_pow]
    by_cases q : z = x
    · subst q
      have e0 : wkN T A (2 ^ z) k z = 0 := by
        have hb : (2 ^ z).testBit z = true := by rw [Nat.testBit_two_pow]; simp
        cases k with
        | zero => show (if (2 ^ z).testBit z = true then 0 else _) = 0; rw [if_pos hb]
        | succ k => show (if (2 ^ z).testBit z = true then 0 else _) = 0; rw [if_pos hb]
      rw [e0]
      simp
    · rw [wk_out hn k z q]
      simp [show ¬ x = z from fun w => q w.symm]
/-- where they are left out: no way -/
theorem wk_none {T : WT} {A : Nat} : ∀ k y, wkN T A (2 ^ hereN T) k y = 0
  | 0, y => by
    show (if (2 ^ hereN T).testBit y = true then 0 else if y = hereN T then 1 else 0) = 0
    rw [Nat.testBit_two_pow]
    by_cases q : hereN T = y
    · rw [if_pos (by simpa using q)]
    · rw [if_neg (by simpa using q), if_neg (fun w => q w.symm)]
  | k + 1, y => by
    show (if (2 ^ hereN T).testBit y = true then 0 else sumN (fun z => if (te T y).testBit z && A.testBit z then wkN T A (2 ^ hereN T) k z else 0) (tn T)) = 0
    have : ∀ n, sumN (fun z => if (te T y).testBit z && A.testBit z then wkN T A (2 ^ hereN T) k z else 0) n = 0 := by
      intro n
      induction n with
      | zero => rfl
      | succ n ih =>
        show sumN _ n + (if ((te T y).testBit n && A.testBit n) = true then wkN T A (2 ^ hereN T) k n else 0) = 0
        rw [ih, wk_none k n]
        simp
    rw [this]
    simp
theorem wk_in {T : WT} {A x : Nat} : ∀ k, wkN T A (2 ^ x) k x = 0
  | 0 => by
    show (if (2 ^ x).testBit x = true then 0 else _) = 0
    rw [Nat.testBit_two_pow, if_pos (by simp)]
  | k + 1 => by
    show (if (2 ^ x).testBit x = true then 0 else _) = 0
    rw [Nat.testBit_two_pow, if_pos (by simp)]
theorem g10 {α : Type} {M : Mm} {K : Nat → Option α} (h : RO M) : gfR M 0 9 0 K = K 10 := gR h 0 9 0 10 (by decide)
theorem g11 {α : Type} {M : Mm} {K : Nat → Option α} (h : RO M) : gfR M 0 9 1 K = K 11 := gR h 0 9 1 11 (by decide)
theorem g9s {α : Type} {M : Mm} {K : Nat → Option α} (h : RO M) : gfR M 13 0 7 K = K 9 := gR h 13 0 7 9 (by decide)
theorem r93_117 {α : Type} {M : Mm} {K : Nat → Option α} (h : RO M) : gfR M 0 93 39 K = K 117 := gR h 0 93 39 117 (by decide)
theorem ld10 {α : Type} {M : Mm} {K : Int32 → Option α} {x : Nat} (hx : x < 8) : ldI M 10 (nI x) K = K (M.1 10 x) := ld_w 8 rfl hx (by decide)
theorem ld117 {α : Type} {M : Mm} {K : Int32 → Option α} {x : Nat} (hx : x < 72) : ldI M 117 (nI x) K = K (M.1 117 x) := ld_w 72 rfl hx (by decide)
def mkS (T : WT) : Nat := setN (fun x => decide (tm T 0 x + tm T 1 x + tm T 2 x ≠ 0)) (tn T)
section
variable {M : Mm} {a : Nat} {T : WT}
theorem marked_ok (h : RO M) (hw : isW a) (hC : CWd a T M) (hV : VT T) : fX4_marked a M = some (nI (mkS T), M) := by
  have hn8 := hV.n8
  unfold fX4_marked bX4_marked_0
  rw [fen_l]
  refine fnl_loop (fun k => (1, a, nI (setN (fun x => decide (tm T 0 x + tm T 1 x + tm T 2 x ≠ 0)) k), nI k, M)) (tn T) (fun k hk => ?_) ?_
  · have m0 := hV.mk (m := 0) (by decide) hk
    have m1 := hV.mk (m := 1) (by decide) hk
    have m2 := hV.mk (m := 2) (by decide) hk
    show bX4_marked_4 a (nI (setN (fun x => decide (tm T 0 x + tm T 1 x + tm T 2 x ≠ 0)) k)) (nI k) M = some (Sum.inl (1, a, nI (setN (fun x => decide (tm T 0 x + tm T 1 x + tm T 2 x ≠ 0)) (k + 1)), nI (k + 1), M))
    unfold bX4_marked_4 bX4_marked_47
    rw [gfI_e, hC.n, if_neg (show ¬ nI (tn T) ≤ nI k by rw [nle_F (by omega) (by omega)]; exact id), wL h hw, wL0 h hw, ldw5 hw (by omega), hC.m0 hk, wL h hw, wL1 h hw, ldw6 hw (by omega), hC.m1 hk, wL h hw, wL2 h hw, ldw7 hw (by omega), hC.m2 hk, nI_pl, nI_pl, le0_if (by omega), shl1 k (by omega), ltI_e, np1, nI_or, setN_or]
    by_cases q : tm T 0 k + tm T 1 k + tm T 2 k = 0
    · rw [if_pos q, if_neg (show ¬ decide (tm T 0 k + tm T 1 k + tm T 2 k ≠ 0) = true from fun z => of_decide_eq_true z q), Nat.or_zero]
    · rw [if_neg q, if_pos (show decide (tm T 0 k + tm T 1 k + tm T 2 k ≠ 0) = true from decide_eq_true q)]
  · show bX4_marked_4 a (nI (mkS T)) (nI (tn T)) M = _
    unfold bX4_marked_4
    rw [gfI_e, hC.n, if_pos (nI_le (Nat.le_refl _) (by omega))]
theorem open_ok (h : RO M) {S n : Nat} (hn : n ≤ 8) (hS : S < 2 ^ n) {v : Nat → Nat} (hv : ∀ x, x < n → M.1 10 x = nI (v x) ∧ v x < 2 ^ 31) : fX3_leastOpen 9 (nI S) M = some (frst (fun y => !(S.testBit y && decide (v y ≠ 0))) 8 0, M) := by
  have hS8 := pow_lt8 hn hS
  unfold fX3_leastOpen bX3_leastOpen_0
  rw [fen_l]
  have key : ∀ d k, k + d = 8 → fnl gX3_leastOpen (1, 9, nI S, nI k, M) = some (frst (fun y => !(S.testBit y && decide (v y ≠ 0))) d k, M) := by
    intro d
    induction d with
    | zero =>
      intro k hk
      refine fnl_out ?_
      show bX3_leastOpen_2 9 (nI S) (nI k) M = _
      unfold bX3_leastOpen_2
      rw [if_pos (show (8 : Int32) ≤ nI k by rw [show k = 8 by omega]; decide)]
      rfl
    | succ d ih =>
      intro k hk
      have hlt : ¬ (8 : Int32) ≤ nI k := by rw [L8, nle_F (by omega) (by omega)]; exact id
      by_cases q : S.testBit k = true
      · have hkn : k < n := by
          by_cases z : k < n
          · exact z
          · rw [Nat.testBit_lt_two_pow (Nat.lt_of_lt_of_le hS (Nat.pow_le_pow_right (by decide) (by omega)))] at q
            exact absurd q (by decide)
        obtain ⟨v1, v2⟩ := hv k hkn
        by_cases r : v k = 0
        · rw [show frst (fun y => !(S.testBit y && decide (v y ≠ 0))) (d + 1) k = frst (fun y => !(S.testBit y && decide (v y ≠ 0))) d (k + 1) from if_pos (by simp [r])]
          refine (fnl_in ?_).trans (ih (k + 1) (by omega))
          show bX3_leastOpen_2 9 (nI S) (nI k) M = _
          unfold bX3_leastOpen_2 bX3_leastOpen_28
          rw [if_neg hlt, bit_if hS8 (by omega), if_pos q, g10 h, ld10 (by omega), v1, le0_if v2, if_pos r, np1]
        · rw [show frst (fun y => !(S.testBit y && decide (v y ≠ 0))) (d + 1) k = nI k from if_neg (by simp [r, q])]
          refine fnl_out ?_
          show bX3_leastOpen_2 9 (nI S) (nI k) M = _
          unfold bX3_leastOpen_2 bX3_leastOpen_28
          rw [if_neg hlt, bit_if hS8 (by omega), if_pos q, g10 h, ld10 (by omega), v1, le0_if v2, if_neg r]
      · rw [show frst (fun y => !(S.testBit y && decide (v y ≠ 0))) (d + 1) k = frst (fun y => !(S.testBit y && decide (v y ≠ 0))) d (k + 1) from if_pos (by simp [q])]
        refine (fnl_in ?_).trans (ih (k + 1) (by omega))
        show bX3_leastOpen_2 9 (nI S) (nI k) M = _
        unfold bX3_leastOpen_2 bX3_leastOpen_28
        rw [if_neg hlt, bit_if hS8 (by omega), if_neg q, np1]
  exact key 8 0 rfl
def stpN (T : WT) (A : Nat) (v : Nat → Nat) (x : Nat) : Nat := sumN (fun y => if (te T x).testBit y && A.testBit y then v y else 0) (tn T)
def P10 (c j : Nat) : Prop := c = 9 ∨ c = 10 ∨ c = 11
theorem fnl_gx {σ ρ : Type} {g : σ → Option (σ ⊕ ρ)} (I : Nat → σ → Prop) (n : Nat) (h : ∀ k s, k < n → I k s → ∃ s1, fnl g s = fnl g s1 ∧ I (k + 1) s1) {s : σ} (h0 : I 0 s) : ∃ s1, fnl g s = fnl g s1 ∧ I n s1 := by
  induction n with
  | zero => exact ⟨s, rfl, h0⟩
  | succ n ih =>
    obtain ⟨s1, e1, h1⟩ := ih (fun k s hk => h k s (by omega))
    obtain ⟨s2, e2, h2⟩ := h n s1 (by omega) h1
    exact ⟨s2, e1.trans e2, h2⟩
theorem len_ok (h : RO M) (hw : isW a) (hC : CWd a T M) (hV : VT T) {A : Nat} (hA : A < 256) {v : Nat → Nat} (hv : ∀ x, x < tn T → M.1 10 x = nI (v x)) : ∃ M1, fX3_lengthen 9 a (nI A) M = some ((), M1) ∧ (∀ x, x < tn T → M1.1 10 x = nI (stpN T A v x)) ∧ Off (fun c _ => c = 10 ∨ c = 11) M M1 := by
  have hn8 := hV.n8
  have haw := isW_lt hw
  unfold fX3_lengthen bX3_lengthen_0
  rw [fen_l]
  obtain ⟨s, e1, M1, rfl, x1, O1⟩ := fnl_gx (g := gX3_lengthen) (fun k s => ∃ M1, s = (1, 9, a, nI A, nI k, 0, 0, 0, M1) ∧ (∀ x, x < k → M1.1 11 x = nI (stpN T A v x)) ∧ Off (fun c _ => c = 11) M M1) (tn T) (fun k s hk hI => by
    obtain ⟨M1, rfl, x1, O1⟩ := hI
    have r1 := O1.ro h
    have hC1 : CWd a T M1 := hC.pt (fun c j q1 q2 => O1.1 c j (by omega))
    have hB : te T k &&& A < 256 := Nat.lt_of_le_of_lt Nat.and_le_right hA
    have s1 : fnl gX3_lengthen (1, 9, a, nI A, nI k, 0, 0, 0, M1) = fnl gX3_lengthen (2, 9, a, nI A, nI k, nI (te T k &&& A), 0, 0, M1) := by
      refine fnl_in ?_
      show bX3_lengthen_2 9 a (nI A) (nI k) M1 = _
      unfold bX3_lengthen_2
      rw [gfI_e, hC1.n, if_neg (show ¬ nI (tn T) ≤ nI k by rw [nle_F (by omega) (by omega)]; exact id), wB r1 hw, ldw3 hw (by omega), hC1.e hk, nI_and, ltI_e]
    have s2 : fnl gX3_lengthen (2, 9, a, nI A, nI k, nI (te T k &&& A), 0, 0, M1) = fnl gX3_lengthen (2, 9, a, nI A, nI k, nI (te T k &&& A), nI (stpN T A v k), nI (tn T), M1) := by
      refine fnl_up (g := gX3_lengthen) (fun y => (2, 9, a, nI A, nI k, nI (te T k &&& A), nI (sumN (fun y => if (te T k).testBit y && A.testBit y then v y else 0) y), nI y, M1)) (tn T) (fun y hy => ?_)
      show bX3_lengthen_26 9 a (nI A) (nI k) (nI (te T k &&& A)) (nI (sumN (fun y => if (te T k).testBit y && A.testBit y then v y else 0) y)) (nI y) M1 = some (Sum.inl (2, 9, a, nI A, nI k, nI (te T k &&& A), nI (sumN (fun y => if (te T k).testBit y && A.testBit y then v y else 0) y + (if ((te T k).testBit y && A.testBit y) = true then v y else 0)), nI (y + 1), M1))
      unfold bX3_lengthen_26 bX3_lengthen_58
      rw [gfI_e, hC1.n, if_neg (show ¬ nI (tn T) ≤ nI y by rw [nle_F (by omega) (by omega)]; exact id), bit_if hB (by omega), Nat.testBit_and, g10 r1, ld10 (by omega), O1.1 10 y (by omega), hv y hy, ltI_e, nI_pl, np1]
      by_cases q : ((te T k).testBit y && A.testBit y) = true
      · rw [if_pos q, if_pos q]
      · rw [if_neg q, if_neg q]
        try rfl
    refine ⟨(1, 9, a, nI A, nI (k + 1), 0, 0, 0, wI M1 11 k (nI (stpN T A v k))), s1.trans (s2.trans (fnl_in ?_)), _, rfl, fun x hx => ?_, O1.wI rfl⟩
    · show bX3_lengthen_26 9 a (nI A) (nI k) (nI (te T k &&& A)) (nI (stpN T A v k)) (nI (tn T)) M1 = _
      unfold bX3_lengthen_26
      rw [gfI_e, hC1.n, if_pos (nI_le (Nat.le_refl _) (by omega)), g11 r1, st_w 8 (show ln 11 = 8 from rfl) (show k < 8 by omega) (by decide), np1]
    · by_cases q : x = k
      · rw [q, wI_at, if_pos ⟨rfl, rfl⟩]
      · rw [wI_at, if_neg (by omega)]; exact x1 x (by omega)) (s := (1, 9, a, nI A, 0, 0, 0, 0, M)) ⟨M, rfl, fun x hx => absurd hx (by omega), Off.rf⟩
  have r1 := O1.ro h
  have hC1 : CWd a T M1 := hC.pt (fun c j q1 q2 => O1.1 c j (by omega))
  refine ⟨wC M1 11 10 0 0 8, e1.trans (fnl_out ?_), fun x hx => ?_, ⟨fun c j q => ?_, O1.2⟩⟩
  · show bX3_lengthen_2 9 a (nI A) (nI (tn T)) M1 = _
    unfold bX3_lengthen_2
    rw [gfI_e, hC1.n, if_pos (nI_le (Nat.le_refl _) (by omega)), g11 r1, g10 r1, cp_ok (v := 8) (n := 8) rfl rfl rfl (by decide)]
  · rw [wC_at, if_pos (by omega), show 0 + (x - 0) = x by omega]
    exact x1 x hx
  · rw [wC_at, if_neg (by omega)]
    exact O1.1 c j (by omega)
def opI (T : WT) (A k : Nat) : Int32 := frst (fun y => !((te T 0 &&& A).testBit y && decide (wkN T A 0 k y ≠ 0))) 8 0
def fsI (T : WT) (A : Nat) : Nat → Int32
  | 0 => -9
  | k + 1 => opI T A k
theorem num_ok (h : RO M) (hw : isW a) (hC : CWd a T M) (hV : VT T) (h0 : tn T ≠ 0) {A n : Nat} (hA : A < 256) (hn : n ≤ 8) : ∃ M1, fX3_numberOf 9 a (nI n) (nI A) M = some (nI (wkN T A 0 n 0), M1) ∧ M1.1 9 2 = fsI T A n ∧ Off P10 M M1 := by
  have hn8 := hV.n8
  have haw := isW_lt hw
  have hh := here_lt hV h0
  unfold fX3_numberOf bX3_numberOf_0
  rw [fen_l]
  obtain ⟨s, e1, M1, rfl, x1, O1⟩ := fnl_go (g := gX3_numberOf) (fun k s => ∃ M1, s = (1, 9, a, nI n, nI A, nI k, M1) ∧ (∀ x, x < k → M1.1 10 x = nI (if x = hereN T then 1 else 0)) ∧ Off (fun c _ => c = 10) M M1) 8 (fun k s hk hI => by
    obtain ⟨M1, rfl, x1, O1⟩ := hI
    have r1 := O1.ro h
    have hC1 : CWd a T M1 := hC.pt (fun c j q1 q2 => O1.1 c j (by omega))
    refine ⟨(1, 9, a, nI n, nI A, nI (k + 1), wI M1 10 k (nI (if k = hereN T then 1 else 0))), ?_, _, rfl, fun x hx => ?_, O1.wI rfl⟩
    · show bX3_numberOf_3 9 a (nI n) (nI A) (nI k) M1 = _
      unfold bX3_numberOf_3 bX3_numberOf_30
      rw [if_neg (show ¬ (8 : Int32) ≤ nI k by rw [L8, nle_F (by omega) (by omega)]; exact id), g10 r1, standing_ok r1 hw hC1 hV.s30, cal_ok, st_w 8 (show ln 10 = 8 from rfl) (show k < 8 by omega) (by decide), st_w 8 (show ln 10 = 8 from rfl) (show k < 8 by omega) (by decide), np1, show tz T (ts T) = hereN T from rfl]
      by_cases q : k = hereN T
      · rw [if_pos (by rw [q]), if_pos q]; rfl
      · rw [if_neg (fun z => q (nI_inj (by omega) (by omega) z)), if_neg q]; rfl
    · by_cases q : x = k
      · rw [q, wI_at, if_pos ⟨rfl, rfl⟩]
      · rw [wI_at, if_neg (by omega)]; exact x1 x (by omega)) (s := (1, 9, a, nI n, nI A, 0, M)) ⟨M, rfl, fun x hx => absurd hx (by omega), Off.rf⟩
  have r1 := O1.ro h
  have s1 : fnl gX3_numberOf (1, 9, a, nI n, nI A, nI 8, M1) = fnl gX3_numberOf (2, 9, a, nI n, nI A, 0, wI M1 9 2 (-9)) := by
    refine fnl_in ?_
    show bX3_numberOf_3 9 a (nI n) (nI A) (nI 8) M1 = _
    unfold bX3_numberOf_3
    rw [if_pos (show (8 : Int32) ≤ nI 8 by decide), pfI_e]
  have w0 : ∀ x, wkN T A 0 0 x = if x = hereN T then 1 else 0 := fun x => by
    show (if (0 : Nat).testBit x = true then 0 else if x = hereN T then 1 else 0) = _
    rw [Nat.zero_testBit, if_neg (by decide)]
  have w1 : ∀ k x, wkN T A 0 (k + 1) x = stpN T A (wkN T A 0 k) x := fun k x => by
    show (if (0 : Nat).testBit x = true then 0 else stpN T A (wkN T A 0 k) x) = _
    rw [Nat.zero_testBit, if_neg (by decide)]
  obtain ⟨s, e2, M2, rfl, x2, y2, O2⟩ := fnl_go (g := gX3_numberOf) (fun k s => ∃ M2, s = (2, 9, a, nI n, nI A, nI k, M2) ∧ (∀ x, x < tn T → M2.1 10 x = nI (wkN T A 0 k x)) ∧ M2.1 9 2 = fsI T A k ∧ Off P10 M M2) n (fun k s hk hI => by
    obtain ⟨M2, rfl, x2, y2, O2⟩ := hI
    have r2 := O2.ro h
    have hC2 : CWd a T M2 := hC.pt (fun c j q1 q2 => O2.1 c j (fun z => by unfold P10 at z; omega))
    have eo := open_ok r2 (S := te T 0 &&& A) hn8 (Nat.lt_of_le_of_lt Nat.and_le_left (hV.en (by omega))) (v := wkN T A 0 k) (fun x hx => ⟨x2 x hx, wk_lt hn8 (by omega) x⟩)
    have eo : fX3_leastOpen 9 (nI (te T 0 &&& A)) M2 = some (opI T A k, M2) := eo
    have r3 : RO (wI M2 9 2 (opI T A k)) := r2
    have hC3 : CWd a T (wI M2 9 2 (opI T A k)) := hC2.pt (fun c j q1 q2 => by rw [wI_at, if_neg (by omega)])
    obtain ⟨M4, e4, x4, O4⟩ := len_ok r3 hw hC3 hV hA (v := wkN T A 0 k) (fun x hx => by rw [wI_at, if_neg (by omega)]; exact x2 x hx)
    refine ⟨(2, 9, a, nI n, nI A, nI (k + 1), M4), ?_, _, rfl, fun x hx => by rw [w1]; exact x4 x hx, ?_, (O2.wI (by unfold P10; omega)).tr (O4.mo (fun c j z => by unfold P10; omega))⟩
    · show bX3_numberOf_46 9 a (nI n) (nI A) (nI k) M2 = _
      unfold bX3_numberOf_46
      rw [if_neg (show ¬ nI n ≤ nI k by rw [nle_F (by omega) (by omega)]; exact id), wB r2 hw, show ldI M2 (a + 3) 0 _ = ldI M2 (a + 3) (nI 0) _ from rfl, ldw3 hw (by decide), hC2.e (by omega), nI_and, eo, cal_ok, pfI_e, e4, cal_ok, np1]
    · rw [O4.1 9 2 (by omega), wI_at, if_pos ⟨rfl, rfl⟩]
      rfl) (s := (2, 9, a, nI n, nI A, 0, wI M1 9 2 (-9))) ⟨wI M1 9 2 (-9), rfl, fun x hx => by rw [wI_at, if_neg (by omega), w0]; exact x1 x (by omega), by rw [wI_at, if_pos ⟨rfl, rfl⟩]; rfl, (O1.mo (fun c j z => by unfold P10; omega)).wI (by unfold P10; omega)⟩
  have r2 := O2.ro h
  refine ⟨M2, (e1.trans (s1.trans e2)).trans (fnl_out ?_), y2, O2⟩
  show bX3_numberOf_46 9 a (nI n) (nI A) (nI n) M2 = _
  unfold bX3_numberOf_46
  rw [if_pos (nI_le (Nat.le_refl _) (by omega)), g10 r2, show ldI M2 10 0 _ = ldI M2 10 (nI 0) _ from rfl, ld10 (by decide), x2 0 (by omega)]
/-- the reference's table -/
theorem lays_ok (h : RO M) (hW : RWd T M) (hV : VT T) (h0 : tn T ≠ 0) {m out : Nat} (hm : m ≤ 8) (ho : out < 256) : ∃ M1, fX6_layWays 93 (nI m) (nI out) M = some ((), M1) ∧ (∀ k x, k ≤ m → x < tn T → M1.1 117 (8 * k + x) = nI (wkN T (mkS T) out k x)) ∧ Off (fun c _ => c = 117) M M1 := by
  have hn8 := hV.n8
  have hh := here_lt hV h0
  unfold fX6_layWays bX6_layWays_0
  rw [fen_l]
  obtain ⟨s, e1, M1, rfl, x1, O1⟩ := fnl_gx (g := gX6_layWays) (fun k s => ∃ M1, s = (1, 93, nI m, nI out, nI k, 0, 0, 0, M1) ∧ (∀ i x, i < k → x < tn T → M1.1 117 (8 * i + x) = nI (wkN T (mkS T) out i x)) ∧ Off (fun c _ => c = 117) M M1) (m + 1) (fun k s hk hI => by
    obtain ⟨M1, rfl, x1, O1⟩ := hI
    have s1 : fnl gX6_layWays (1, 93, nI m, nI out, nI k, 0, 0, 0, M1) = fnl gX6_layWays (2, 93, nI m, nI out, nI k, 0, 0, 0, M1) := by
      refine fnl_in ?_
      show bX6_layWays_2 93 (nI m) (nI out) (nI k) M1 = _
      unfold bX6_layWays_2
      rw [if_neg (show ¬ nI m < nI k by rw [nlt_F (by omega) (by omega)]; exact id)]
    obtain ⟨s, e2, M2, rfl, x2, y2, O2⟩ := fnl_gx (g := gX6_layWays) (fun x s => ∃ M2, s = (2, 93, nI m, nI out, nI k, nI x, 0, 0, M2) ∧ (∀ i z, i < k → z < tn T → M2.1 117 (8 * i + z) = nI (wkN T (mkS T) out i z)) ∧ (∀ z, z < x → M2.1 117 (8 * k + z) = nI (wkN T (mkS T) out k z)) ∧ Off (fun c _ => c = 117) M M2) (tn T) (fun x s hx hI => by
      obtain ⟨M2, rfl, x2, y2, O2⟩ := hI
      have r2 := O2.ro h
      have hW2 : RWd T M2 := hW.same2 hV (fun c j q => O2.1 c j (by omega))
      have fin : ∀ w : Nat, (if out.testBit x then 0 else w) = wkN T (mkS T) out k x → bX6_layWays_140 93 (nI m) (nI out) (nI k) (nI x) (nI w) M2 = some (Sum.inl (2, 93, nI m, nI out, nI k, nI (x + 1), 0, 0, wI M2 117 (8 * k + x) (nI (wkN T (mkS T) out k x)))) := by
        intro w hw
        unfold bX6_layWays_140 bX6_layWays_166
        rw [r93_117 r2, has_ok ho (by omega), cal_ok, L8, nI_mul, nI_pl, st_w 72 (show ln 117 = 72 from rfl) (show 8 * k + x < 72 by omega) (by decide), st_w 72 (show ln 117 = 72 from rfl) (show 8 * k + x < 72 by omega) (by decide), np1, ← hw]
        by_cases q : out.testBit x = true
        · rw [if_pos q, if_neg (by decide), if_pos q]; rfl
        · rw [if_neg q, if_pos rfl, if_neg q]
      have step : fnl gX6_layWays (2, 93, nI m, nI out, nI k, nI x, 0, 0, M2) = fnl gX6_layWays (2, 93, nI m, nI out, nI k, nI (x + 1), 0, 0, wI M2 117 (8 * k + x) (nI (wkN T (mkS T) out k x))) := by
        cases k with
        | zero =>
          have a1 : fnl gX6_layWays (2, 93, nI m, nI out, nI 0, nI x, 0, 0, M2) = fnl gX6_layWays (3, 93, nI m, nI out, nI 0, nI x, nI (if x = hereN T then 1 else 0), 0, M2) := by
            refine fnl_in ?_
            show bX6_layWays_10 93 (nI m) (nI out) (nI 0) (nI x) M2 = _
            unfold bX6_layWays_10 bX6_layWays_36 bX6_layWays_37
            rw [gfI_e, hW2.1, if_neg (show ¬ nI (tn T) ≤ nI x by rw [nle_F (by omega) (by omega)]; exact id), if_pos nI_0, hereNow2 r2 hW2 hV, cal_ok]
            by_cases q : x = hereN T
            · rw [if_pos (by rw [q]), if_pos q]; rfl
            · rw [if_neg (fun z => q (nI_inj (by omega) (by omega) z)), if_neg q]; rfl
          refine a1.trans (fnl_in ?_)
          show bX6_layWays_42 93 (nI m) (nI out) (nI 0) (nI x) (nI (if x = hereN T then 1 else 0)) 0 M2 = _
          unfold bX6_layWays_42
          rw [gfI_e, hW2.1, if_neg (show ¬ nI (tn T) ≤ 0 by rw [nle0_F (by omega) (by omega)]; exact id), if_pos (show nI 0 ≤ 0 by decide)]
          exact fin _ rfl
        | succ k =>
          have hk0 : ¬ nI (k + 1) = 0 := nI_ne0 (by omega) (by omega)
          have a1 : fnl gX6_layWays (2, 93, nI m, nI out, nI (k + 1), nI x, 0, 0, M2) = fnl gX6_layWays (3, 93, nI m, nI out, nI (k + 1), nI x, 0, 0, M2) := by
            refine fnl_in ?_
            show bX6_layWays_10 93 (nI m) (nI out) (nI (k + 1)) (nI x) M2 = _
            unfold bX6_layWays_10 bX6_layWays_36 bX6_layWays_37
            rw [gfI_e, hW2.1, if_neg (show ¬ nI (tn T) ≤ nI x by rw [nle_F (by omega) (by omega)]; exact id), if_neg hk0]
          have a2 : fnl gX6_layWays (3, 93, nI m, nI out, nI (k + 1), nI x, 0, 0, M2) = fnl gX6_layWays (3, 93, nI m, nI out, nI (k + 1), nI x, nI (sumN (fun y => if (te T x).testBit y && (mkS T).testBit y then wkN T (mkS T) out k y else 0) (tn T)), nI (tn T), M2) := by
            refine fnl_up (g := gX6_layWays) (fun y => (3, 93, nI m, nI out, nI (k + 1), nI x, nI (sumN (fun y => if (te T x).testBit y && (mkS T).testBit y then wkN T (mkS T) out k y else 0) y), nI y, M2)) (tn T) (fun y hy => ?_)
            show bX6_layWays_42 93 (nI m) (nI out) (nI (k + 1)) (nI x) (nI (sumN (fun y => if (te T x).testBit y && (mkS T).testBit y then wkN T (mkS T) out k y else 0) y)) (nI y) M2 = some (Sum.inl (3, 93, nI m, nI out, nI (k + 1), nI x, nI (sumN (fun y => if (te T x).testBit y && (mkS T).testBit y then wkN T (mkS T) out k y else 0) y + (if ((te T x).testBit y && (mkS T).testBit y) = true then wkN T (mkS T) out k y else 0)), nI (y + 1), M2))
            have m0 := hV.mk (m := 0) (by decide) hy
            have m1 := hV.mk (m := 1) (by decide) hy
            have m2 := hV.mk (m := 2) (by decide) hy
            have hk1 : nI (k + 1) - 1 = nI k := nsub (b := 1) (Nat.add_comm _ _)
            generalize hsg : sumN (fun y => if (te T x).testBit y && (mkS T).testBit y then wkN T (mkS T) out k y else 0) y = sg
            have fin2 : ∀ s0 : Int32, bX6_layWays_89 93 (nI m) (nI out) (nI (k + 1)) (nI x) (nI sg) (nI y) s0 M2 = some (Sum.inl (3, 93, nI m, nI out, nI (k + 1), nI x, nI (sg + if (te T x).testBit y = true ∧ ¬ s0 = 0 then wkN T (mkS T) out k y else 0), nI (y + 1), M2)) := by
              intro s0
              unfold bX6_layWays_89 bX6_layWays_130 bX6_layWays_131
              rw [r93_101 r2, ld101 (by omega), hW2.2.2.2.2.1 x hx, has_ok (hV.e8 hx) (by omega), cal_ok]
              by_cases q1 : (te T x).testBit y = true
              · rw [q1, if_neg (show ¬ (if true = true then (1 : Int32) else 0) = 0 by decide)]
                by_cases q2 : s0 = 0
                · rw [if_pos q2, ltI_e, show nI sg + 0 = nI sg from Int32.add_zero _, np1, if_neg (fun z => z.2 q2)]
                  try rfl
                · rw [if_neg q2, r93_117 r2, hk1, L8, nI_mul, nI_pl, ld117 (show 8 * k + y < 72 by omega), x2 k y (by omega) hy, ltI_e, nI_pl, np1, if_pos ⟨rfl, q2⟩]
              · rw [if_neg q1, if_pos rfl, ltI_e, show nI sg + 0 = nI sg from Int32.add_zero _, np1, if_neg (fun z => q1 z.1)]
                try rfl
            have eb : (mkS T).testBit y = decide (tm T 0 y + tm T 1 y + tm T 2 y ≠ 0) := by
              unfold mkS
              rw [setN_bit]
              simp [hy]
            unfold bX6_layWays_42
            rw [gfI_e, hW2.1, if_neg (show ¬ nI (tn T) ≤ nI y by rw [nle_F (by omega) (by omega)]; exact id), if_neg (show ¬ nI (k + 1) ≤ 0 by rw [nle0_F (by omega) (by omega)]; exact id), marks0_ok r2 (v := 0) 0 rfl (by decide) (by omega), cal_ok, marks0_ok r2 (v := 1) 1 rfl (by decide) (by omega), cal_ok, marks0_ok r2 (v := 2) 2 rfl (by decide) (by omega), cal_ok, hW2.2.2.2.2.2.1 0 y (by decide) hy, hW2.2.2.2.2.2.1 1 y (by decide) hy, hW2.2.2.2.2.2.1 2 y (by decide) hy, nI_pl, nI_pl, le0_if (by omega), eb, fin2, fin2]
            by_cases q2 : tm T 0 y + tm T 1 y + tm T 2 y = 0
            · rw [if_pos q2, if_neg (fun z => z.2 rfl), if_neg (fun z => by rw [Bool.and_eq_true] at z; exact of_decide_eq_true z.2 q2)]
            · rw [if_neg q2]
              by_cases q1 : (te T x).testBit y = true
              · rw [if_pos ⟨q1, by decide⟩, if_pos (by rw [q1, Bool.true_and]; exact decide_eq_true q2)]
              · rw [if_neg (fun z => q1 z.1), if_neg (fun z => by rw [Bool.and_eq_true] at z; exact q1 z.1)]
          refine a1.trans (a2.trans (fnl_in ?_))
          show bX6_layWays_42 93 (nI m) (nI out) (nI (k + 1)) (nI x) _ (nI (tn T)) M2 = _
          unfold bX6_layWays_42
          rw [gfI_e, hW2.1, if_pos (nI_le (Nat.le_refl _) (by omega))]
          exact fin _ rfl
      refine ⟨_, step, _, rfl, fun i z hi hz => ?_, fun z hz => ?_, O2.wI rfl⟩
      · rw [wI_at, if_neg (by omega)]; exact x2 i z hi hz
      · by_cases q : z = x
        · rw [q, wI_at, if_pos ⟨rfl, rfl⟩]
        · rw [wI_at, if_neg (by omega)]; exact y2 z (by omega)) (s := (2, 93, nI m, nI out, nI k, 0, 0, 0, M1)) ⟨M1, rfl, x1, fun z hz => absurd hz (by omega), O1⟩
    have r2 := O2.ro h
    have hW2 : RWd T M2 := hW.same2 hV (fun c j q => O2.1 c j (by omega))
    refine ⟨(1, 93, nI m, nI out, nI (k + 1), 0, 0, 0, M2), s1.trans (e2.trans (fnl_in ?_)), _, rfl, fun i z hi hz => ?_, O2⟩
    · show bX6_layWays_10 93 (nI m) (nI out) (nI k) (nI (tn T)) M2 = _
      unfold bX6_layWays_10
      rw [gfI_e, hW2.1, if_pos (nI_le (Nat.le_refl _) (by omega)), np1]
    · by_cases q : i = k
      · rw [q]; exact y2 z hz
      · exact x2 i z (by omega) hz) (s := (1, 93, nI m, nI out, 0, 0, 0, 0, M)) ⟨M, rfl, fun i x hi _ => absurd hi (by omega), Off.rf⟩
  refine ⟨M1, e1.trans (fnl_out ?_), fun k x hk hx => x1 k x (by omega) hx, O1⟩
  show bX6_layWays_2 93 (nI m) (nI out) (nI (m + 1)) M1 = _
  unfold bX6_layWays_2
  rw [if_pos (show nI m < nI (m + 1) by rw [nlt_T (by omega) (by omega)]; trivial)]
end

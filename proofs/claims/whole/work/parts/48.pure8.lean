/-! WOODS: their cells -/
def isW (a : Nat) : Prop := a = 33 ∨ a = 45 ∨ a = 57 ∨ a = 69 ∨ a = 81
theorem isW_all {P : Nat → Prop} (h : P 33 ∧ P 45 ∧ P 57 ∧ P 69 ∧ P 81) {a : Nat} (hw : isW a) : P a := by
  rcases hw with rfl | rfl | rfl | rfl | rfl
  · exact h.1
  · exact h.2.1
  · exact h.2.2.1
  · exact h.2.2.2.1
  · exact h.2.2.2.2
theorem isW_lt {a : Nat} (hw : isW a) : 33 ≤ a ∧ a ≤ 81 := isW_all (P := fun a => 33 ≤ a ∧ a ≤ 81) (by decide) hw
theorem w_sh {a : Nat} (hw : isW a) : sh a = 14 := isW_all (P := fun a => sh a = 14) (by decide) hw
section
variable {α : Type} {M : Mm} {a : Nat}
theorem wK {K : Nat → Option α} (h : RO M) (hw : isW a) : gfR M 0 a 3 K = K (a + 1) := gR h 0 a 3 (a + 1) (isW_all (P := fun a => R0 a 3 = a + 1 ∧ sh (a + 1) = 0 ∧ ¬ (a = 4 ∧ 3 = 0) ∧ ¬ (a = 6 ∧ 3 = 0)) (by decide) hw)
theorem wO {K : Nat → Option α} (h : RO M) (hw : isW a) : gfR M 0 a 4 K = K (a + 2) := gR h 0 a 4 (a + 2) (isW_all (P := fun a => R0 a 4 = a + 2 ∧ sh (a + 2) = 0 ∧ ¬ (a = 4 ∧ 4 = 0) ∧ ¬ (a = 6 ∧ 4 = 0)) (by decide) hw)
theorem wB {K : Nat → Option α} (h : RO M) (hw : isW a) : gfR M 0 a 5 K = K (a + 3) := gR h 0 a 5 (a + 3) (isW_all (P := fun a => R0 a 5 = a + 3 ∧ sh (a + 3) = 0 ∧ ¬ (a = 4 ∧ 5 = 0) ∧ ¬ (a = 6 ∧ 5 = 0)) (by decide) hw)
theorem wL {K : Nat → Option α} (h : RO M) (hw : isW a) : gfR M 5 a 6 K = K (a + 4) := gR h 5 a 6 (a + 4) (isW_all (P := fun a => R0 a 6 = a + 4 ∧ sh (a + 4) = 5 ∧ ¬ (a = 4 ∧ 6 = 0) ∧ ¬ (a = 6 ∧ 6 = 0)) (by decide) hw)
theorem wS {K : Nat → Option α} (h : RO M) (hw : isW a) : gfR M 0 a 7 K = K (a + 8) := gR h 0 a 7 (a + 8) (isW_all (P := fun a => R0 a 7 = a + 8 ∧ sh (a + 8) = 0 ∧ ¬ (a = 4 ∧ 7 = 0) ∧ ¬ (a = 6 ∧ 7 = 0)) (by decide) hw)
theorem wP {K : Nat → Option α} (h : RO M) (hw : isW a) : gfR M 0 a 8 K = K (a + 9) := gR h 0 a 8 (a + 9) (isW_all (P := fun a => R0 a 8 = a + 9 ∧ sh (a + 9) = 0 ∧ ¬ (a = 4 ∧ 8 = 0) ∧ ¬ (a = 6 ∧ 8 = 0)) (by decide) hw)
theorem wQ {K : Nat → Option α} (h : RO M) (hw : isW a) : gfR M 0 a 9 K = K (a + 10) := gR h 0 a 9 (a + 10) (isW_all (P := fun a => R0 a 9 = a + 10 ∧ sh (a + 10) = 0 ∧ ¬ (a = 4 ∧ 9 = 0) ∧ ¬ (a = 6 ∧ 9 = 0)) (by decide) hw)
theorem wY {K : Nat → Option α} (h : RO M) (hw : isW a) : gfR M 0 a 10 K = K (a + 11) := gR h 0 a 10 (a + 11) (isW_all (P := fun a => R0 a 10 = a + 11 ∧ sh (a + 11) = 0 ∧ ¬ (a = 4 ∧ 10 = 0) ∧ ¬ (a = 6 ∧ 10 = 0)) (by decide) hw)
theorem wLr {K : Nat → Option α} {v : Int32} (h : RO M) (hw : isW a) (m : Nat) (hv : v = nI m) (hm : m < 3) : ldR M 0 (a + 4) v K = K (a + 5 + m) := by
  subst hv
  have h1 := isW_all (P := fun a => ln (a + 4) = 3 ∧ ∀ m, m < 3 → R0 (a + 4) m = a + 5 + m ∧ sh (a + 5 + m) = 0) (by decide) hw
  have h2 := isW_lt hw
  exact ldR_ok h (a + 5 + m) (by rw [h1.1]; exact hm) (by rw [h1.1]; decide) (h1.2 m hm).1 (h1.2 m hm).2 (by omega) (by omega)
theorem w_ln (hw : isW a) : ln (a + 1) = 8 ∧ ln (a + 2) = 6 ∧ ln (a + 3) = 8 ∧ (∀ m, m < 3 → ln (a + 5 + m) = 8) ∧ ln (a + 8) = 8 ∧ ln (a + 9) = 4 ∧ ln (a + 10) = 3 ∧ ln (a + 11) = 31 := isW_all (P := fun a => ln (a + 1) = 8 ∧ ln (a + 2) = 6 ∧ ln (a + 3) = 8 ∧ (∀ m, m < 3 → ln (a + 5 + m) = 8) ∧ ln (a + 8) = 8 ∧ ln (a + 9) = 4 ∧ ln (a + 10) = 3 ∧ ln (a + 11) = 31) (by decide) hw
theorem ld_w {K : Int32 → Option α} {c x : Nat} (n : Nat) (hl : ln c = n) (hx : x < n) (hn : n < 2 ^ 31) : ldI M c (nI x) K = K (M.1 c x) := ldI_ok (by rw [hl]; exact hx) (by rw [hl]; exact hn)
theorem st_w {K : Mm → Option α} {c x : Nat} {v : Int32} (n : Nat) (hl : ln c = n) (hx : x < n) (hn : n < 2 ^ 31) : stI M c (nI x) v K = K (wI M c x v) := stI_ok (by rw [hl]; exact hx) (by rw [hl]; exact hn)
end
/-! sets of places as numbers -/
theorem setN_lt (p : Nat → Bool) : ∀ n, setN p n < 2 ^ n
  | 0 => by simp [setN]
  | n + 1 => by
    have := setN_lt p n
    show setN p n + _ < _
    rw [Nat.pow_succ]
    by_cases h : p n <;> simp [h] <;> omega
theorem setN_bit (p : Nat → Bool) : ∀ n x, (setN p n).testBit x = (decide (x < n) && p x)
  | 0, x => by simp [setN]
  | n + 1, x => by
    have ih := setN_bit p n x
    have hl := setN_lt p n
    show (setN p n + if p n then 2 ^ n else 0).testBit x = _
    by_cases h : p n
    · rw [if_pos h, Nat.add_comm]
      rcases Nat.lt_trichotomy x n with hx | hx | hx
      · rw [Nat.testBit_two_pow_add_gt hx, ih]
        simp [hx, Nat.lt_succ_of_lt hx]
      · subst hx
        rw [Nat.testBit_two_pow_add_eq, ih]
        simp [h]
      · rw [Nat.testBit_lt_two_pow]
        · simp [show ¬ x < n + 1 by omega]
        · calc 2 ^ n + setN p n < 2 ^ n + 2 ^ n := by omega
            _ = 2 ^ (n + 1) := by rw [Nat.pow_succ]; omega
            _ ≤ 2 ^ x := Nat.pow_le_pow_right (by decide) hx
    · rw [if_neg h, Nat.add_zero, ih]
      by_cases hx : x = n
      · subst hx
        simp [h]
      · by_cases hx2 : x < n
        · simp [hx2, Nat.lt_succ_of_lt hx2]
        · simp [hx2, show ¬ x < n + 1 by omega]
theorem bit_all : ∀ S, S < 256 → ∀ y, y < 8 → decide (((nI S >>> (nI y &&& 31)) &&& 1) = 1) = S.testBit y := by decide +kernel
theorem bit_if {α : Type} {S y : Nat} (hS : S < 256) (hy : y < 8) (o1 o2 : α) : (if ((nI S >>> (nI y &&& 31)) &&& 1) = 1 then o1 else o2) = if S.testBit y then o1 else o2 := by
  have h := bit_all S hS y hy
  by_cases q : ((nI S >>> (nI y &&& 31)) &&& 1) = 1
  · rw [if_pos q, if_pos (by rw [← h]; exact decide_eq_true q)]
  · rw [if_neg q, if_neg (by rw [← h]; simpa using q)]
theorem pow_lt8 {n S : Nat} (hn : n ≤ 8) (h : S < 2 ^ n) : S < 256 := Nat.lt_of_lt_of_le h (Nat.pow_le_pow_right (by decide) hn)
/-! what a wood answers, class and reference -/
section
variable {M : Mm} {a : Nat} {T : WT}
theorem isOf_ok (h : RO M) (hw : isW a) (hC : CWd a T M) (hn : tn T ≤ 8) {x k : Nat} (hx : x < tn T) (hk : k < 6) : fX4_isOf a (nI x) (nI k) M = some (if isK (tk T x) k then 1 else 0, M) := by
  have hofk : ofK T k < 256 := pow_lt8 hn (setN_lt _ _)
  unfold fX4_isOf
  rw [wO h hw, ld_w 6 (w_ln hw).2.1 hk (by decide), hC.2.2.2.2.1 k hk, bit_if hofk (show x < 8 by omega)]
  unfold ofK
  rw [setN_bit]
  simp only [hx, decide_true, Bool.true_and]
  by_cases q : isK (tk T x) k = true
  · rw [if_pos q, if_pos q]
  · rw [if_neg q, if_neg q]
theorem hasPlace_ok (hC : CWd a T M) {v : Int32} : fX4_hasPlace a v M = some (if 0 ≤ v ∧ v < nI (tn T) then 1 else 0, M) := by
  unfold fX4_hasPlace
  rw [gfI_e, hC.1, isBelow_ok, cal_ok, rz_ite]
theorem isPlace_ok (hW : RWd T M) (hn : tn T ≤ 8) {v : Int32} : fX6_isPlace 93 v M = some (if 0 ≤ v ∧ v < nI (tn T) then 1 else 0, M) := by
  unfold fX6_isPlace
  rw [gfI_e, hW.1, in_ok, cal_ok, rz_ite]
  by_cases q : 0 ≤ v ∧ v < nI (tn T)
  · rw [if_pos q, if_pos ((i32_in_pred (by omega)).mpr q)]
  · rw [if_neg q, if_neg (fun z => q ((i32_in_pred (by omega)).mp z))]
theorem isEmpty_ok (hC : CWd a T M) (hn : tn T ≤ 8) : fX4_isEmpty a M = some (if tn T = 0 then 1 else 0, M) := by
  unfold fX4_isEmpty
  rw [gfI_e, hC.1]
  by_cases h : tn T = 0
  · rw [h, if_pos nI_0, if_pos rfl]
  · rw [if_neg (nI_ne0 (by omega) (by omega)), if_neg h]
theorem standing_ok (h : RO M) (hw : isW a) (hC : CWd a T M) (hs : ts T ≤ 30) : fX4_standing a M = some (nI (tz T (ts T)), M) := by
  unfold fX4_standing
  rw [wY h hw, gfI_e, hC.2.2.1, ld_w 31 (w_ln hw).2.2.2.2.2.2.2 (by omega) (by decide), hC.2.2.2.2.2.2.2.2.2.2 _ (Nat.le_refl _)]
theorem hereNow_ok (h : RO M) (hW : RWd T M) (hs : ts T ≤ 30) : fX6_hereNow 93 M = some (nI (tz T (ts T)), M) := by
  unfold fX6_hereNow
  rw [gR h 0 93 26 107 (by decide), gfI_e, hW.2.2.1, ld_w 31 (show ln 107 = 31 from rfl) (by omega) (by decide), hW.2.2.2.2.2.2.2.2.2 _ (Nat.le_refl _)]
theorem v_ok (h : RO M) {f b i : Nat} (hb : 39 * f + b + i < 156) : fX6_v 93 (nI f) (nI b) (nI i) M = some (M.1 106 (39 * f + b + i), M) := by
  unfold fX6_v
  rw [gR h 0 93 24 106 (by decide), show (39 : Int32) = nI 39 from rfl, nI_mul, nI_pl, nI_pl, ld_w 156 (show ln 106 = 156 from rfl) hb (by decide)]
theorem set_ok (h : RO M) {f b i : Nat} {v : Int32} (hb : 39 * f + b + i < 156) : fX6_set 93 (nI f) (nI b) (nI i) v M = some ((), wI M 106 (39 * f + b + i) v) := by
  unfold fX6_set
  rw [gR h 0 93 24 106 (by decide), show (39 : Int32) = nI 39 from rfl, nI_mul, nI_pl, nI_pl, st_w 156 (show ln 106 = 156 from rfl) hb (by decide)]
theorem marks_ok (h : RO M) {f m x : Nat} (hb : 39 * f + 8 * m + x < 156) : fX6_marks 93 (nI f) (nI m) (nI x) M = some (M.1 106 (39 * f + 8 * m + x), M) := by
  unfold fX6_marks
  rw [show (8 : Int32) = nI 8 from rfl, nI_mul, v_ok h hb, cal_ok]
theorem setMarks_ok (h : RO M) {f m x : Nat} {v : Int32} (hb : 39 * f + 8 * m + x < 156) : fX6_setMarks 93 (nI f) (nI m) (nI x) v M = some ((), wI M 106 (39 * f + 8 * m + x) v) := by
  unfold fX6_setMarks
  rw [show (8 : Int32) = nI 8 from rfl, nI_mul, set_ok h hb, cal_ok]
theorem v0_ok (h : RO M) {v : Int32} (b : Nat) {i : Nat} (hv : v = nI b) (hb : b + i < 39) : fX6_v 93 0 v (nI i) M = some (M.1 106 (b + i), M) := by
  have e := v_ok h (f := 0) (b := b) (i := i) (by omega)
  rw [hv, show (0 : Int32) = nI 0 from rfl, e]
  simp
theorem set0_ok (h : RO M) {w v : Int32} (b : Nat) {i : Nat} (hw : w = nI b) (hb : b + i < 39) : fX6_set 93 0 w (nI i) v M = some ((), wI M 106 (b + i) v) := by
  have e := set_ok h (f := 0) (b := b) (i := i) (v := v) (by omega)
  rw [hw, show (0 : Int32) = nI 0 from rfl, e]
  simp
theorem marks0_ok (h : RO M) {v : Int32} (m : Nat) {x : Nat} (hv : v = nI m) (hm : m < 3) (hx : x < 8) : fX6_marks 93 0 v (nI x) M = some (M.1 106 (8 * m + x), M) := by
  have e := marks_ok h (f := 0) (m := m) (x := x) (by omega)
  rw [hv, show (0 : Int32) = nI 0 from rfl, e]
  simp
theorem setMarks0_ok (h : RO M) {w v : Int32} (m : Nat) {x : Nat} (hw : w = nI m) (hm : m < 3) (hx : x < 8) : fX6_setMarks 93 0 w (nI x) v M = some ((), wI M 106 (8 * m + x) v) := by
  have e := setMarks_ok h (f := 0) (m := m) (x := x) (v := v) (by omega)
  rw [hw, show (0 : Int32) = nI 0 from rfl, e]
  simp
end
/-! a wood changes in one number -/
def setm (T : WT) (m x v : Nat) : WT := (tn T, tb T, tk T, ts T, te T, fun m1 x1 => if m1 = m ∧ x1 = x then v else tm T m1 x1, tw T, tp T, tq T, tz T)
def setw (T : WT) (x : Nat) (v : Int32) : WT := (tn T, tb T, tk T, ts T, te T, tm T, fun x1 => if x1 = x then v else tw T x1, tp T, tq T, tz T)
def setq (T : WT) (m v : Nat) : WT := (tn T, tb T, tk T, ts T, te T, tm T, tw T, tp T, fun m1 => if m1 = m then v else tq T m1, tz T)
def setp (T : WT) (i v : Nat) : WT := (tn T, tb T, tk T, ts T, te T, tm T, tw T, fun i1 => if i1 = i then v else tp T i1, tq T, tz T)
def setz (T : WT) (v : Nat) : WT := (tn T, tb T, tk T, ts T + 1, te T, tm T, tw T, tp T, tq T, fun i => if i = ts T + 1 then v else tz T i)
def sete (T : WT) (x v : Nat) : WT := (tn T, tb T, tk T, ts T, fun x1 => if x1 = x then v else te T x1, tm T, tw T, tp T, tq T, tz T)
section
variable {M : Mm} {a : Nat} {T : WT}
theorem CWd.setm (hC : CWd a T M) {m x v : Nat} (hm : m < 3) : CWd a (setm T m x v) (wI M (a + 5 + m) x (nI v)) := by
  obtain ⟨h0, h1, h2, h3, h4, h5, h6, h7, h8, h9, h10⟩ := hC
  refine ⟨by rw [wI_at, if_neg (by omega)]; exact h0, by rw [wI_at, if_neg (by omega)]; exact h1, by rw [wI_at, if_neg (by omega)]; exact h2, fun y hy => by rw [wI_at, if_neg (by omega)]; exact h3 y hy, fun k hk => by rw [wI_at, if_neg (by omega)]; exact h4 k hk, fun y hy => by rw [wI_at, if_neg (by omega)]; exact h5 y hy, fun m1 y hm1 hy => ?_, fun y hy => by rw [wI_at, if_neg (by omega)]; exact h7 y hy, fun i hi => by rw [wI_at, if_neg (by omega)]; exact h8 i hi, fun i hi => by rw [wI_at, if_neg (by omega)]; exact h9 i hi, fun i hi => by rw [wI_at, if_neg (by omega)]; exact h10 i hi⟩
  show _ = nI (if m1 = m ∧ y = x then v else tm T m1 y)
  by_cases q : m1 = m ∧ y = x
  · rw [if_pos q, wI_at, if_pos (by omega)]
  · rw [if_neg q, wI_at, if_neg (by omega)]
    exact h6 m1 y hm1 hy
theorem RWd.setm (hW : RWd T M) (hn : tn T ≤ 8) (hb : tb T ≤ 4) {m x v : Nat} (hm : m < 3) (hx : x < 8) : RWd (setm T m x v) (wI M 106 (8 * m + x) (nI v)) := by
  obtain ⟨h0, h1, h2, h3, h4, h5, h6, h7, h8, h9⟩ := hW
  refine ⟨h0, h1, h2, h3, h4, fun m1 y hm1 hy => ?_, fun y hy => by rw [wI_at, if_neg (by have : y < tn T := hy; omega)]; exact h6 y hy, fun i hi => by rw [wI_at, if_neg (by omega)]; exact h7 i hi, fun i hi => by rw [wI_at, if_neg (by omega)]; exact h8 i hi, h9⟩
  have hy2 : y < tn T := hy
  show _ = nI (if m1 = m ∧ y = x then v else tm T m1 y)
  by_cases q : m1 = m ∧ y = x
  · rw [if_pos q, wI_at, if_pos (by omega)]
  · rw [if_neg q, wI_at, if_neg (by omega)]
    exact h5 m1 y hm1 hy
theorem CWd.setw (hC : CWd a T M) {x : Nat} {v : Int32} : CWd a (setw T x v) (wI M (a + 8) x v) := by
  obtain ⟨h0, h1, h2, h3, h4, h5, h6, h7, h8, h9, h10⟩ := hC
  refine ⟨by rw [wI_at, if_neg (by omega)]; exact h0, by rw [wI_at, if_neg (by omega)]; exact h1, by rw [wI_at, if_neg (by omega)]; exact h2, fun y hy => by rw [wI_at, if_neg (by omega)]; exact h3 y hy, fun k hk => by rw [wI_at, if_neg (by omega)]; exact h4 k hk, fun y hy => by rw [wI_at, if_neg (by omega)]; exact h5 y hy, fun m1 y hm1 hy => by rw [wI_at, if_neg (by omega)]; exact h6 m1 y hm1 hy, fun y hy => ?_, fun i hi => by rw [wI_at, if_neg (by omega)]; exact h8 i hi, fun i hi => by rw [wI_at, if_neg (by omega)]; exact h9 i hi, fun i hi => by rw [wI_at, if_neg (by omega)]; exact h10 i hi⟩
  show _ = if y = x then v else tw T y
  by_cases q : y = x
  · rw [if_pos q, wI_at, if_pos (by omega)]
  · rw [if_neg q, wI_at, if_neg (by omega)]
    exact h7 y hy
theorem RWd.setw (hW : RWd T M) (hn : tn T ≤ 8) {x : Nat} {v : Int32} (hx : x < 8) : RWd (setw T x v) (wI M 106 (24 + x) v) := by
  obtain ⟨h0, h1, h2, h3, h4, h5, h6, h7, h8, h9⟩ := hW
  refine ⟨h0, h1, h2, h3, h4, fun m1 y hm1 hy => by have : y < tn T := hy; rw [wI_at, if_neg (by omega)]; exact h5 m1 y hm1 hy, fun y hy => ?_, fun i hi => by rw [wI_at, if_neg (by omega)]; exact h7 i hi, fun i hi => by rw [wI_at, if_neg (by omega)]; exact h8 i hi, h9⟩
  show _ = if y = x then v else tw T y
  by_cases q : y = x
  · rw [if_pos q, wI_at, if_pos (by omega)]
  · rw [if_neg q, wI_at, if_neg (by omega)]
    exact h6 y hy
theorem CWd.setq (hC : CWd a T M) {m v : Nat} : CWd a (setq T m v) (wI M (a + 10) m (nI v)) := by
  obtain ⟨h0, h1, h2, h3, h4, h5, h6, h7, h8, h9, h10⟩ := hC
  refine ⟨by rw [wI_at, if_neg (by omega)]; exact h0, by rw [wI_at, if_neg (by omega)]; exact h1, by rw [wI_at, if_neg (by omega)]; exact h2, fun y hy => by rw [wI_at, if_neg (by omega)]; exact h3 y hy, fun k hk => by rw [wI_at, if_neg (by omega)]; exact h4 k hk, fun y hy => by rw [wI_at, if_neg (by omega)]; exact h5 y hy, fun m1 y hm1 hy => by rw [wI_at, if_neg (by omega)]; exact h6 m1 y hm1 hy, fun y hy => by rw [wI_at, if_neg (by omega)]; exact h7 y hy, fun i hi => by rw [wI_at, if_neg (by omega)]; exact h8 i hi, fun i hi => ?_, fun i hi => by rw [wI_at, if_neg (by omega)]; exact h10 i hi⟩
  show _ = nI (if i = m then v else tq T i)
  by_cases q : i = m
  · rw [if_pos q, wI_at, if_pos (by omega)]
  · rw [if_neg q, wI_at, if_neg (by omega)]
    exact h9 i hi
theorem RWd.setq (hW : RWd T M) (hn : tn T ≤ 8) (hb : tb T ≤ 4) {m v : Nat} (hm : m < 3) : RWd (setq T m v) (wI M 106 (36 + m) (nI v)) := by
  obtain ⟨h0, h1, h2, h3, h4, h5, h6, h7, h8, h9⟩ := hW
  refine ⟨h0, h1, h2, h3, h4, fun m1 y hm1 hy => by have : y < tn T := hy; rw [wI_at, if_neg (by omega)]; exact h5 m1 y hm1 hy, fun y hy => by have : y < tn T := hy; rw [wI_at, if_neg (by omega)]; exact h6 y hy, fun i hi => by have : i < tb T := hi; rw [wI_at, if_neg (by omega)]; exact h7 i hi, fun i hi => ?_, h9⟩
  show _ = nI (if i = m then v else tq T i)
  by_cases q : i = m
  · rw [if_pos q, wI_at, if_pos (by omega)]
  · rw [if_neg q, wI_at, if_neg (by omega)]
    exact h8 i hi
end
/-! what the calls on the wood leave alone -/
def KeepX (M M1 : Mm) : Prop := M1.1 0 9 = M.1 0 9 ∧ (∀ c, (c = 12 ∨ 13 ≤ c ∧ c < 33 ∨ 57 ≤ c ∧ c < 93 ∨ c = 94 ∨ c = 95 ∨ c = 96 ∨ c = 98 ∨ c = 99 ∨ 108 ≤ c ∧ c ≤ 112) → M1.1 c = M.1 c) ∧ M1.1 93 0 = M.1 93 0 ∧ M1.2.1 0 11 = M.2.1 0 11 ∧ M1.2.1 0 12 = M.2.1 0 12 ∧ M1.2.1 93 3 = M.2.1 93 3 ∧ M1.2.1 93 4 = M.2.1 93 4
theorem rel_wood {M M1 : Mm} {T T1 : WT} (hF : Fnd M) (hR : ∀ r, r < 6 → Row1 13 95 96 40 40 M r) (hX : ∀ t, t < 4 → Row1 25 98 99 80 80 M t) (hK : ∀ k, k < 3 → Kp1 T M k) (hRO1 : RO M1) (hk : KeepX M M1) (hA : M1.1 0 10 = M1.1 93 2) (hn : tn T1 = tn T) (hb : tb T1 = tb T) (hkd : ∀ x, x < tn T → tk T1 x = tk T x) (hV : VT T1) (hC : CWd 33 T1 M1) (hW : RWd T1 M1) : Rel M1 := by
  obtain ⟨k1, k2, k3, k4, k5, k6, k7⟩ := hk
  refine ⟨hRO1, ⟨by rw [k1, k3]; exact hF.1, fun f hf => by rw [k2 12 (by omega), k2 94 (by omega)]; exact hF.2.1 f hf, hA, by rw [k4, k6]; exact hF.2.2.2.1, by rw [k5, k7]; exact hF.2.2.2.2⟩, fun r hr => ?_, fun t ht => ?_, T1, hV, hC, hW, fun k hk => ?_⟩
  · exact (hR r hr).same (by rw [k2 _ (by omega)]) (by rw [k2 _ (by omega)]) (k2 _ (by omega)) (fun i _ => by rw [k2 _ (by omega)])
  · exact (hX t ht).same (by rw [k2 _ (by omega)]) (by rw [k2 _ (by omega)]) (k2 _ (by omega)) (fun i _ => by rw [k2 _ (by omega)])
  · have h1 := (hK k hk).same hk (fun c a b => k2 c (by omega)) (fun c a b => k2 c (by omega))
    unfold Kp1 at h1 ⊢
    rcases h1 with h1 | ⟨q0, T2, q1, q2, q3, q4, q5, q6, q7⟩
    · exact Or.inl h1
    · refine Or.inr ⟨q0, T2, q1, q2.trans hn.symm, q3.trans hb.symm, fun x hx => ?_, by omega, q6, q7⟩
      rw [hn] at hx
      rw [q4 x hx, hkd x hx]

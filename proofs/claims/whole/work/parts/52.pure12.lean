/-! SEEN, PLACE -/
/-- what is seen of a place -/
def seenI (T : WT) (x : Nat) : Int32 := if tk T x = 5 then 0 else if tk T x = 2 then (if tm T 1 x = 0 then 0 else 2) else if tm T 2 x ≠ 0 ∨ tk T x = 4 then ((if tm T 1 x = 0 then 0 else 2) ||| (if tm T 0 x = 0 then 0 else 1)) ||| 4 else (if tm T 1 x = 0 then 0 else 2) ||| (if tm T 0 x = 0 then 0 else 1)
theorem isK_all : ∀ k, k ≤ 5 → (isK k 5 = decide (k = 5)) ∧ (isK k 2 = decide (k = 2 ∨ k = 5)) ∧ (isK k 4 = decide (k = 4)) ∧ (isK k 1 = decide (k = 1 ∨ k = 4)) := by decide
theorem le0_if {α : Type} {v : Nat} (hv : v < 2 ^ 31) (o1 o2 : α) : (if nI v ≤ 0 then o1 else o2) = if v = 0 then o1 else o2 := by
  by_cases h : v = 0
  · subst h; rw [if_pos (show nI 0 ≤ 0 by decide), if_pos rfl]
  · rw [if_neg (nI_nle (by omega) hv), if_neg h]
theorem gt0_if {α : Type} {v : Nat} (hv : v < 2 ^ 31) (o1 o2 : α) : (if 0 < nI v then o1 else o2) = if v = 0 then o2 else o1 := by
  by_cases h : v = 0
  · subst h; rw [if_neg (show ¬ 0 < nI 0 by decide), if_pos rfl]
  · rw [if_pos (Int32.not_le.mp (nI_nle (by omega) hv)), if_neg h]
section
variable {M : Mm} {a : Nat} {T : WT}
theorem seenAt_ok (h : RO M) (hw : isW a) (hC : CWd a T M) (hV : VT T) {x : Nat} (hx : x < tn T) : fX4_seenAt a (nI x) M = some (seenI T x, M) := by
  have hn8 := hV.n8
  obtain ⟨k5, k2, k4, -⟩ := isK_all _ (hV.2.2.2.2.1 x hx)
  have i5 := isOf_ok h hw hC hn8 hx (k := 5) (by decide)
  have i2 := isOf_ok h hw hC hn8 hx (k := 2) (by decide)
  have i4 := isOf_ok h hw hC hn8 hx (k := 4) (by decide)
  rw [k5] at i5
  rw [k2] at i2
  rw [k4] at i4
  have hl := (w_ln hw).2.2.2.1
  have m0 := hV.mk (m := 0) (by decide) hx
  have m1 := hV.mk (m := 1) (by decide) hx
  have m2 := hV.mk (m := 2) (by decide) hx
  have b54 : ∀ l2 : Int32, bX4_seenAt_54 a (nI x) l2 M = some (if tm T 2 x ≠ 0 ∨ tk T x = 4 then l2 ||| 4 else l2, M) := by
    intro l2
    unfold bX4_seenAt_54 bX4_seenAt_74 bX4_seenAt_78
    rw [wL h hw, wLr h hw (v := 2) 2 rfl (by decide), ld_w 8 (hl 2 (by decide)) (by omega) (by decide), hC.2.2.2.2.2.2.1 2 x (by decide) hx, gt0_if (by omega), show (4 : Int32) = nI 4 from rfl, i4, cal_ok]
    by_cases q : tm T 2 x = 0
    · by_cases r : tk T x = 4
      · rw [if_pos q, if_pos (Or.inr r), r]; rfl
      · rw [if_pos q]
        simp [q, r]
    · rw [if_neg q, if_pos (Or.inl q)]; rfl
  have b27 : ∀ s0 : Int32, ¬ tk T x = 5 → bX4_seenAt_27 a (nI x) s0 M = some (if tk T x = 2 then s0 else if tm T 2 x ≠ 0 ∨ tk T x = 4 then (s0 ||| (if tm T 0 x = 0 then 0 else 1)) ||| 4 else s0 ||| (if tm T 0 x = 0 then 0 else 1), M) := by
    intro s0 h5
    unfold bX4_seenAt_27
    rw [show (2 : Int32) = nI 2 from rfl, i2, cal_ok]
    by_cases h2 : tk T x = 2
    · rw [if_pos h2]
      simp [h2]
    · rw [if_neg h2, if_neg (show ¬ decide (tk T x = 2 ∨ tk T x = 5) = true by simp [h2, h5]), if_pos rfl, wL h hw, wLr h hw (v := 0) 0 rfl (by decide), ld_w 8 (hl 0 (by decide)) (by omega) (by decide), hC.2.2.2.2.2.2.1 0 x (by decide) hx, le0_if (by omega)]
      by_cases q : tm T 0 x = 0
      · rw [if_pos q, b54, if_pos q, Int32.or_zero]
      · rw [if_neg q, ltI_e, b54, if_neg q]
  unfold fX4_seenAt seenI
  rw [show (5 : Int32) = nI 5 from rfl, i5, cal_ok]
  by_cases h5 : tk T x = 5
  · rw [if_pos h5]
    simp [h5]
  · rw [if_neg h5, if_neg (show ¬ decide (tk T x = 5) = true by simp [h5]), if_pos rfl, wL h hw, wLr h hw (v := 1) 1 rfl (by decide), ld_w 8 (hl 1 (by decide)) (by omega) (by decide), hC.2.2.2.2.2.2.1 1 x (by decide) hx, le0_if (by omega)]
    by_cases q : tm T 1 x = 0
    · rw [if_pos q, b27 0 h5, if_pos q]
    · rw [if_neg q, b27 2 h5, if_neg q]
/-- the reference's wood number f, the kinds and sets of the wood -/
def RVd (f : Nat) (T : WT) (M : Mm) : Prop := M.1 93 10 = nI (tn T) ∧ M.1 93 11 = nI (tb T) ∧ (∀ x, x < tn T → M.1 100 x = nI (tk T x)) ∧ (∀ x, x < tn T → M.1 101 x = nI (te T x)) ∧ (∀ m x, m < 3 → x < tn T → M.1 106 (39 * f + 8 * m + x) = nI (tm T m x)) ∧ (∀ x, x < tn T → M.1 106 (39 * f + 24 + x) = tw T x) ∧ (∀ i, i < tb T → M.1 106 (39 * f + 32 + i) = nI (tp T i)) ∧ (∀ m, m < 3 → M.1 106 (39 * f + 36 + m) = nI (tq T m))
theorem RWd.v (hW : RWd T M) : RVd 0 T M := by
  obtain ⟨h0, h1, h2, h3, h4, h5, h6, h7, h8, h9⟩ := hW
  exact ⟨h0, h1, h3, h4, fun m x hm hx => by rw [Nat.mul_zero, Nat.zero_add]; exact h5 m x hm hx, fun x hx => by rw [Nat.mul_zero, Nat.zero_add]; exact h6 x hx, fun i hi => by rw [Nat.mul_zero, Nat.zero_add]; exact h7 i hi, fun m hm => by rw [Nat.mul_zero, Nat.zero_add]; exact h8 m hm⟩
theorem seen_ok (h : RO M) {f : Nat} (hf : f < 4) (hW : RVd f T M) (hV : VT T) {x : Nat} (hx : x < tn T) : fX6_seen 93 (nI f) (nI x) M = some (seenI T x, M) := by
  have hn8 := hV.n8
  have hk5 := hV.2.2.2.2.1 x hx
  have m0 := hV.mk (m := 0) (by decide) hx
  have m1 := hV.mk (m := 1) (by decide) hx
  have m2 := hV.mk (m := 2) (by decide) hx
  have e0 := marks_ok h (f := f) (m := 0) (x := x) (by omega)
  have e1 := marks_ok h (f := f) (m := 1) (x := x) (by omega)
  have e2 := marks_ok h (f := f) (m := 2) (x := x) (by omega)
  rw [hW.2.2.2.2.1 _ x (by decide) hx] at e0 e1 e2
  have ek : ∀ {α : Type} (K : Int32 → Option α), ldI M 100 (nI x) K = K (nI (tk T x)) := fun K => by rw [ld_w 8 (show ln 100 = 8 from rfl) (by omega) (by decide), hW.2.2.1 x hx]
  have knum : ∀ j, j ≤ 5 → (nI (tk T x) = nI j ↔ tk T x = j) := fun j hj => ⟨fun q => nI_inj (by omega) (by omega) q, fun q => by rw [q]⟩
  have b54 : ∀ s0 s1 : Int32, bX6_seen_54 93 (nI f) (nI x) s0 s1 M = some (if tm T 2 x ≠ 0 ∨ tk T x = 4 then (s1 ||| s0) ||| 4 else s1 ||| s0, M) := by
    intro s0 s1
    unfold bX6_seen_54 bX6_seen_77 bX6_seen_82 bX6_seen_84
    rw [ltI_e, show (2 : Int32) = nI 2 from rfl, e2, cal_ok, gt0_if (by omega), gR h 0 93 12 100 (by decide), ek]
    by_cases q : tm T 2 x = 0
    · rw [if_pos q]
      by_cases r : tk T x = 4
      · rw [if_pos (show nI (tk T x) = 4 from (knum 4 (by decide)).mpr r), if_pos (Or.inr r)]; rfl
      · rw [if_neg (show ¬ nI (tk T x) = 4 from fun z => r ((knum 4 (by decide)).mp z)), if_neg (by simp [q, r]), ltI_e, Int32.or_zero]
    · rw [if_neg q, if_pos (Or.inl q)]; rfl
  have b27 : ∀ s0 : Int32, bX6_seen_27 93 (nI f) (nI x) s0 M = some (if tk T x = 2 then s0 else if tm T 2 x ≠ 0 ∨ tk T x = 4 then (s0 ||| (if tm T 0 x = 0 then 0 else 1)) ||| 4 else s0 ||| (if tm T 0 x = 0 then 0 else 1), M) := by
    intro s0
    unfold bX6_seen_27 bX6_seen_84
    rw [gR h 0 93 12 100 (by decide), ek, show (0 : Int32) = nI 0 from rfl, e0, cal_ok, show nI 0 = (0 : Int32) from rfl, le0_if (by omega)]
    by_cases h2 : tk T x = 2
    · rw [if_pos (show nI (tk T x) = 2 from (knum 2 (by decide)).mpr h2), if_pos h2]
    · rw [if_neg (show ¬ nI (tk T x) = 2 from fun z => h2 ((knum 2 (by decide)).mp z)), if_neg h2]
      by_cases q : tm T 0 x = 0
      · rw [if_pos q, b54, if_pos q]
      · rw [if_neg q, b54, if_neg q]
  unfold fX6_seen seenI
  rw [gR h 0 93 12 100 (by decide), ek]
  by_cases h5 : tk T x = 5
  · rw [if_pos (show nI (tk T x) = 5 from (knum 5 (by decide)).mpr h5), if_pos h5]
  · rw [if_neg (show ¬ nI (tk T x) = 5 from fun z => h5 ((knum 5 (by decide)).mp z)), if_neg h5, show (1 : Int32) = nI 1 from rfl, e1, cal_ok, show nI 1 = (1 : Int32) from rfl, le0_if (by omega)]
    by_cases q : tm T 1 x = 0
    · rw [if_pos q, b27, if_pos q]
    · rw [if_neg q, b27, if_neg q]
end

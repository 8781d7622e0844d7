/-! PLACE, PATH -/
theorem kind_num {T : WT} (hV : VT T) {x : Nat} (hx : x < tn T) : tk T x ≤ 5 := hV.2.2.2.2.1 x hx
/-- what a place tells: kind, set, marks, seen -/
def factI (T : WT) (x w : Nat) : Int32 := if w = 0 then nI (tk T x) else if w = 1 then nI (te T x) else if w = 5 then seenI T x else nI (tm T (w - 2) x)
section
variable {M : Mm} {a : Nat} {T : WT}
theorem factOf_ok (h : RO M) (hw : isW a) (hC : CWd a T M) (hV : VT T) {x w : Nat} (hx : x < tn T) (hw6 : w < 6) : fX4_factOf a (nI x) (nI w) M = some (factI T x w, M) := by
  have hn8 := hV.n8
  have hl := (w_ln hw).2.2.2.1
  have hC6 := hC.2.2.2.2.2.2.1
  unfold fX4_factOf factI
  match w, hw6 with
  | 0, _ => rw [if_pos (show nI 0 = 0 from rfl), wK h hw, ld_w 8 (w_ln hw).1 (by omega) (by decide), hC.2.2.2.1 x hx]; rfl
  | 1, _ => rw [if_neg (show ¬ nI 1 = 0 by decide), if_pos (show nI 1 = 1 from rfl), wB h hw, ld_w 8 (w_ln hw).2.2.1 (by omega) (by decide), hC.2.2.2.2.2.1 x hx]; rfl
  | 2, _ => rw [if_neg (show ¬ nI 2 = 0 by decide), if_neg (show ¬ nI 2 = 1 by decide), if_pos (show nI 2 = 2 from rfl), wL h hw, wLr h hw 0 (show nI 2 - 2 = nI 0 by decide) (by decide), ld_w 8 (hl 0 (by decide)) (by omega) (by decide), hC6 0 x (by decide) hx]; rfl
  | 3, _ => rw [if_neg (show ¬ nI 3 = 0 by decide), if_neg (show ¬ nI 3 = 1 by decide), if_neg (show ¬ nI 3 = 2 by decide), if_pos (show nI 3 = 3 from rfl), wL h hw, wLr h hw 1 (show nI 3 - 2 = nI 1 by decide) (by decide), ld_w 8 (hl 1 (by decide)) (by omega) (by decide), hC6 1 x (by decide) hx]; rfl
  | 4, _ => rw [if_neg (show ¬ nI 4 = 0 by decide), if_neg (show ¬ nI 4 = 1 by decide), if_neg (show ¬ nI 4 = 2 by decide), if_neg (show ¬ nI 4 = 3 by decide), if_pos (show nI 4 = 4 from rfl), wL h hw, wLr h hw 2 (show nI 4 - 2 = nI 2 by decide) (by decide), ld_w 8 (hl 2 (by decide)) (by omega) (by decide), hC6 2 x (by decide) hx]; rfl
  | 5, _ => rw [if_neg (show ¬ nI 5 = 0 by decide), if_neg (show ¬ nI 5 = 1 by decide), if_neg (show ¬ nI 5 = 2 by decide), if_neg (show ¬ nI 5 = 3 by decide), if_neg (show ¬ nI 5 = 4 by decide), seenAt_ok h hw hC hV hx, cal_ok]; rfl
  | w + 6, hw6 => exact absurd hw6 (by omega)
theorem placeTells_ok (h : RO M) (hW : RWd T M) (hV : VT T) {x w : Nat} (hx : x < tn T) (hw6 : w < 6) : fX6_placeTells 93 (nI x) (nI w) M = some (factI T x w, M) := by
  have hn8 := hV.n8
  have hC6 := hW.2.2.2.2.2.1
  have es := seen_ok h (f := 0) (by decide) hW.v hV hx
  rw [show nI 0 = (0 : Int32) from rfl] at es
  unfold fX6_placeTells factI
  match w, hw6 with
  | 0, _ => rw [if_pos (show nI 0 = 0 from rfl), gR h 0 93 12 100 (by decide), ld_w 8 (show ln 100 = 8 from rfl) (by omega) (by decide), hW.2.2.2.1 x hx]; rfl
  | 1, _ => rw [if_neg (show ¬ nI 1 = 0 by decide), if_pos (show nI 1 = 1 from rfl), gR h 0 93 13 101 (by decide), ld_w 8 (show ln 101 = 8 from rfl) (by omega) (by decide), hW.2.2.2.2.1 x hx]; rfl
  | 2, _ => rw [if_neg (show ¬ nI 2 = 0 by decide), if_neg (show ¬ nI 2 = 1 by decide), if_neg (show ¬ nI 2 = 5 by decide), marks0_ok h 0 (show nI 2 - 2 = nI 0 by decide) (by decide) (by omega), cal_ok, hC6 0 x (by decide) hx]; rfl
  | 3, _ => rw [if_neg (show ¬ nI 3 = 0 by decide), if_neg (show ¬ nI 3 = 1 by decide), if_neg (show ¬ nI 3 = 5 by decide), marks0_ok h 1 (show nI 3 - 2 = nI 1 by decide) (by decide) (by omega), cal_ok, hC6 1 x (by decide) hx]; rfl
  | 4, _ => rw [if_neg (show ¬ nI 4 = 0 by decide), if_neg (show ¬ nI 4 = 1 by decide), if_neg (show ¬ nI 4 = 5 by decide), marks0_ok h 2 (show nI 4 - 2 = nI 2 by decide) (by decide) (by omega), cal_ok, hC6 2 x (by decide) hx]; rfl
  | 5, _ => rw [if_neg (show ¬ nI 5 = 0 by decide), if_neg (show ¬ nI 5 = 1 by decide), if_pos (show nI 5 = 5 from rfl), es, cal_ok]; rfl
  | w + 6, hw6 => exact absurd hw6 (by omega)
end
theorem op_place (M : Mm) (h : Rel M) (x w : Int32) : Good Rel (fX5_place 0 x w M) (fX6_place 93 x w) := by
  obtain ⟨hRO, hF, hR, hX, T, hV, hC, hW, hK⟩ := id h
  have hn8 := hV.n8
  by_cases hx : 0 ≤ x ∧ x < nI (tn T)
  · by_cases hm : 0 ≤ w ∧ w < 6
    · have hm2 : 0 ≤ w ∧ w ≤ 5 := (below_in (n := 5) (by decide)).mp hm
      obtain ⟨k, hk, rfl⟩ := i32_lt_nat (n := 6) (by decide) hm.1 hm.2
      obtain ⟨y, hy, rfl⟩ := i32_lt_nat (by omega) hx.1 hx.2
      have hW1 : RWd T (wI M 0 10 (factI T y k)) := RWd.same (M := M) rfl rfl rfl (fun c hc => wI_ne (by omega)) hW
      refine ⟨1, wI M 0 10 (factI T y k), wI (wI M 0 10 (factI T y k)) 93 2 (factI T y k), ?_, ?_, ?_⟩
      · unfold fX5_place
        rw [g33 hRO, hasPlace_ok hC, cal_ok, if_pos hx, if_neg (by decide), isBelow_ok, cal_ok, if_pos hm, if_neg (by decide), g33 hRO, factOf_ok hRO w33 hC hV hy hk, cal_ok]
        rfl
      · show fX6_place 93 (nI y) (nI k) (wI M 0 10 (factI T y k)) = _
        unfold fX6_place
        rw [isPlace_ok hW1 hn8, cal_ok, if_pos hx, if_neg (by decide), in_ok, cal_ok, if_pos hm2, if_neg (by decide), placeTells_ok (hRO.wI _ _ _) hW1 hV hy hk, cal_ok]
        rfl
      · refine h.told (fun c q h0 h12 h94 h93 => ?_) rfl ⟨hF.1, hF.2.1, rfl, hF.2.2.2.1, hF.2.2.2.2⟩
        rw [wI_at, if_neg (by omega), wI_at, if_neg (by omega)]
    · have hm2 : ¬ (0 ≤ w ∧ w ≤ 5) := fun q => hm ((below_in (n := 5) (by decide)).mpr q)
      refine ⟨-1, M, M, ?_, ?_, h⟩
      · unfold fX5_place bX5_place_20
        rw [g33 hRO, hasPlace_ok hC, cal_ok, if_pos hx, if_neg (by decide), isBelow_ok, cal_ok, if_neg hm, if_pos rfl]
      · show fX6_place 93 x w M = _
        unfold fX6_place bX6_place_31
        rw [isPlace_ok hW hn8, cal_ok, if_pos hx, if_neg (by decide), in_ok, cal_ok, if_neg hm2, if_pos rfl]
  · refine ⟨-1, M, M, ?_, ?_, h⟩
    · unfold fX5_place bX5_place_20
      rw [g33 hRO, hasPlace_ok hC, cal_ok, if_neg hx, if_pos rfl]
    · show fX6_place 93 x w M = _
      unfold fX6_place bX6_place_31
      rw [isPlace_ok hW hn8, cal_ok, if_neg hx, if_pos rfl]
/-- a set with a place in it, or not -/
def stb (S y : Nat) (b : Bool) : Nat := if S.testBit y = b then S else S ^^^ 2 ^ y
theorem or_all : ∀ S, S < 256 → ∀ y, y < 8 → nI S ||| ((1 : Int32) <<< (nI y &&& 31)) = nI (stb S y true) := by decide +kernel
theorem and_all : ∀ S, S < 256 → ∀ y, y < 8 → nI S &&& (((1 : Int32) <<< (nI y &&& 31)) ^^^ (-1)) = nI (stb S y false) := by decide +kernel
theorem xor_all : ∀ S, S < 256 → ∀ y, y < 8 → nI S ^^^ ((1 : Int32) <<< (nI y &&& 31)) = nI (S ^^^ 2 ^ y) := by decide +kernel
theorem stb_bit {S y z : Nat} {b : Bool} : (stb S y b).testBit z = if z = y then b else S.testBit z := by
  unfold stb
  by_cases h : S.testBit y = b
  · rw [if_pos h]
    by_cases q : z = y
    · rw [if_pos q, q]; exact h
    · rw [if_neg q]
  · rw [if_neg h, Nat.testBit_xor, Nat.testBit_two_pow]
    by_cases q : z = y
    · subst q
      rw [if_pos rfl]
      cases b <;> cases hq : S.testBit z <;> simp_all
    · rw [if_neg q]
      simp [show ¬ y = z from fun e => q e.symm]
theorem stb_lt {S y n : Nat} {b : Bool} (hS : S < 2 ^ n) (hy : y < n) : stb S y b < 2 ^ n := by
  unfold stb
  by_cases h : S.testBit y = b
  · rw [if_pos h]; exact hS
  · rw [if_neg h]; exact Nat.xor_lt_two_pow hS (Nat.pow_lt_pow_right (by decide) hy)
def joinT (T : WT) (x y : Nat) (b : Bool) : WT := sete (sete T x (stb (te T x) y b)) y (stb (te T y) x b)
section
variable {M : Mm} {a : Nat} {T : WT}
theorem CWd.sete (hC : CWd a T M) {x v : Nat} : CWd a (sete T x v) (wI M (a + 3) x (nI v)) := by
  obtain ⟨h0, h1, h2, h3, h4, h5, h6, h7, h8, h9, h10⟩ := hC
  refine ⟨by rw [wI_at, if_neg (by omega)]; exact h0, by rw [wI_at, if_neg (by omega)]; exact h1, by rw [wI_at, if_neg (by omega)]; exact h2, fun y hy => by rw [wI_at, if_neg (by omega)]; exact h3 y hy, fun k hk => by rw [wI_at, if_neg (by omega)]; exact h4 k hk, fun y hy => ?_, fun m1 y hm1 hy => by rw [wI_at, if_neg (by omega)]; exact h6 m1 y hm1 hy, fun y hy => by rw [wI_at, if_neg (by omega)]; exact h7 y hy, fun i hi => by rw [wI_at, if_neg (by omega)]; exact h8 i hi, fun i hi => by rw [wI_at, if_neg (by omega)]; exact h9 i hi, fun i hi => by rw [wI_at, if_neg (by omega)]; exact h10 i hi⟩
  show _ = nI (if y = x then v else te T y)
  by_cases q : y = x
  · rw [if_pos q, wI_at, if_pos (by omega)]
  · rw [if_neg q, wI_at, if_neg (by omega)]
    exact h5 y hy
theorem RWd.sete (hW : RWd T M) {x v : Nat} : RWd (sete T x v) (wI M 101 x (nI v)) := by
  obtain ⟨h0, h1, h2, h3, h4, h5, h6, h7, h8, h9⟩ := hW
  refine ⟨h0, h1, h2, h3, fun y hy => ?_, h5, h6, h7, h8, h9⟩
  show _ = nI (if y = x then v else te T y)
  by_cases q : y = x
  · rw [if_pos q, wI_at, if_pos (by omega)]
  · rw [if_neg q, wI_at, if_neg (by omega)]
    exact h4 y hy
theorem VT.join (hV : VT T) {x y : Nat} (hx : x < tn T) (hy : y < tn T) (hxy : x ≠ y) {b : Bool} : VT (joinT T x y b) := by
  have hee : ∀ z, te (joinT T x y b) z = if z = y then stb (te T y) x b else if z = x then stb (te T x) y b else te T z := fun z => rfl
  obtain ⟨h1, h2, h3, h4, h5, h6, h7, h8, h9, h10, h11, h12⟩ := hV
  have bit : ∀ u z, (te (joinT T x y b) u).testBit z = if u = y ∧ z = x ∨ u = x ∧ z = y then b else (te T u).testBit z := by
    intro u z
    rw [hee]
    by_cases q1 : u = y
    · subst q1
      rw [if_pos rfl, stb_bit]
      by_cases q2 : z = x
      · rw [if_pos q2, if_pos (Or.inl ⟨rfl, q2⟩)]
      · rw [if_neg q2, if_neg (by omega)]
    · rw [if_neg q1]
      by_cases q3 : u = x
      · subst q3
        rw [if_pos rfl, stb_bit]
        by_cases q4 : z = y
        · rw [if_pos q4, if_pos (Or.inr ⟨rfl, q4⟩)]
        · rw [if_neg q4, if_neg (by omega)]
      · rw [if_neg q3, if_neg (by omega)]
  refine ⟨h1, h2, h3, h4, h5, fun z hz => ?_, fun u z hu hz => ?_, fun z hz => ?_, h9, h10, h11, h12⟩
  · rw [hee]
    by_cases q1 : z = y
    · rw [if_pos q1]; exact stb_lt (h6 y hy) hx
    · rw [if_neg q1]
      by_cases q3 : z = x
      · rw [if_pos q3]; exact stb_lt (h6 x hx) hy
      · rw [if_neg q3]; exact h6 z hz
  · rw [bit, bit]
    by_cases q : u = y ∧ z = x ∨ u = x ∧ z = y
    · rw [if_pos q, if_pos (by omega)]
    · rw [if_neg q, if_neg (by omega)]; exact h7 u z hu hz
  · rw [bit, if_neg (by omega)]; exact h8 z hz
end

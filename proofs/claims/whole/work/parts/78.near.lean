/-! NEAREST: the numbers of ways, distances -/
def dW (T : WT) : Nat → Nat → Nat := wkN T (ofK T 0) 0
theorem sum_pos {f : Nat → Nat} : ∀ {n x : Nat}, x < n → f x ≠ 0 → sumN f n ≠ 0
  | 0, x, h, _ => absurd h (by omega)
  | n + 1, x, h, hf => by
    show sumN f n + f n ≠ 0
    by_cases q : x = n
    · rw [← q]; omega
    · have := sum_pos (n := n) (f := f) (show x < n by omega) hf
      omega
theorem sum_ne {f : Nat → Nat} : ∀ {n : Nat}, sumN f n ≠ 0 → ∃ y, y < n ∧ f y ≠ 0
  | 0, h => absurd rfl h
  | n + 1, h => by
    by_cases q : f n = 0
    · obtain ⟨y, h1, h2⟩ := sum_ne (n := n) (f := f) (fun z => h (by show sumN f n + f n = 0; omega))
      exact ⟨y, by omega, h2⟩
    · exact ⟨n, by omega, q⟩
theorem sum_zero {f : Nat → Nat} {n : Nat} (h : ∀ x, x < n → f x = 0) : sumN f n = 0 := by
  refine Classical.byContradiction fun q => ?_
  obtain ⟨y, h1, h2⟩ := sum_ne q
  exact h2 (h y h1)
theorem sum_upd {f g : Nat → Nat} {x v : Nat} (h : ∀ y, y ≠ x → g y = f y) (hv : g x = f x + v) : ∀ {n : Nat}, x < n → sumN g n = sumN f n + v
  | 0, hx => absurd hx (by omega)
  | n + 1, hx => by
    show sumN g n + g n = sumN f n + f n + v
    by_cases q : x = n
    · subst q
      rw [sumN_congr (f := g) (g := f) (fun i hi => h i (by omega)), hv]
      omega
    · rw [sum_upd h hv (n := n) (by omega), h n (fun z => q z.symm)]
      omega
theorem sumB_upd {p q : Nat → Bool} {x : Nat} (h : ∀ y, y ≠ x → q y = p y) (hp : p x = false) (hq : q x = true) : ∀ {n : Nat}, x < n → sumB q n = sumB p n + 1
  | 0, hx => absurd hx (by omega)
  | n + 1, hx => by
    show sumB q n + (if q n then 1 else 0) = sumB p n + (if p n then 1 else 0) + 1
    by_cases r : x = n
    · subst r
      rw [sumB_congr (p := q) (q := p) (fun i hi => h i (by omega)), hp, hq]
      rfl
    · rw [sumB_upd h hp hq (n := n) (by omega), h n (fun z => r z.symm)]
      omega
section
variable {T : WT}
theorem dW_0 (x : Nat) : dW T 0 x = if x = hereN T then 1 else 0 := by
  show (if (0 : Nat).testBit x = true then 0 else if x = hereN T then 1 else 0) = _
  rw [Nat.zero_testBit, if_neg (by decide)]
theorem all_bit {y : Nat} (hy : y < tn T) : (ofK T 0).testBit y = true := by
  unfold ofK
  rw [setN_bit]
  simp [hy, isK]
theorem dW_s (k x : Nat) : dW T (k + 1) x = sumN (fun y => if (te T x).testBit y then dW T k y else 0) (tn T) := by
  show (if (0 : Nat).testBit x = true then 0 else sumN (fun y => if (te T x).testBit y && (ofK T 0).testBit y then dW T k y else 0) (tn T)) = _
  rw [Nat.zero_testBit, if_neg (by decide)]
  exact sumN_congr (fun y hy => by rw [all_bit hy, Bool.and_true])
def AtD (T : WT) (k x : Nat) : Prop := dW T k x ≠ 0 ∧ ∀ j, j < k → dW T j x = 0
theorem at_0 {x : Nat} (h : AtD T 0 x) : x = hereN T := by
  refine Classical.byContradiction fun q => h.1 ?_
  rw [dW_0, if_neg q]
theorem at_here : AtD T 0 (hereN T) := ⟨by rw [dW_0, if_pos rfl]; decide, fun j hj => absurd hj (by omega)⟩
theorem at_uni {j k x : Nat} (h1 : AtD T j x) (h2 : AtD T k x) : j = k := by
  by_cases q : j < k
  · exact absurd (h2.2 j q) h1.1
  · by_cases r : k < j
    · exact absurd (h1.2 k r) h2.1
    · omega
theorem at_ex {x : Nat} : ∀ k, dW T k x ≠ 0 → ∃ j, j ≤ k ∧ AtD T j x := by
  intro k
  induction k using Nat.strongRecOn with
  | _ k ih =>
    intro h
    by_cases q : ∃ j, j < k ∧ dW T j x ≠ 0
    · obtain ⟨j, h1, h2⟩ := q
      obtain ⟨i, h3, h4⟩ := ih j h1 h2
      exact ⟨i, by omega, h4⟩
    · exact ⟨k, Nat.le_refl _, h, fun j hj => Classical.byContradiction fun z => q ⟨j, hj, z⟩⟩
theorem dW_adj {k x y : Nat} (hx : x < tn T) (ha : (te T y).testBit x = true) (h : dW T k x ≠ 0) : dW T (k + 1) y ≠ 0 := by
  rw [dW_s]
  exact sum_pos hx (by show (if (te T y).testBit x = true then dW T k x else 0) ≠ 0; rw [if_pos ha]; exact h)
theorem at_pred {k y x : Nat} (h : AtD T (k + 1) y) (hx : x < tn T) (ha : (te T y).testBit x = true) (hd : dW T k x ≠ 0) : AtD T k x :=
  ⟨hd, fun j hj => Classical.byContradiction fun z => dW_adj hx ha z (h.2 (j + 1) (by omega))⟩
theorem at_pred_ex {k y : Nat} (h : AtD T (k + 1) y) : ∃ x, x < tn T ∧ (te T y).testBit x = true ∧ AtD T k x := by
  have h1 := h.1
  rw [dW_s] at h1
  obtain ⟨x, hx, hf⟩ := sum_ne h1
  by_cases ha : (te T y).testBit x = true
  · have hf : (if (te T y).testBit x = true then dW T k x else 0) ≠ 0 := hf
    rw [if_pos ha] at hf
    exact ⟨x, hx, ha, at_pred h hx ha hf⟩
  · have hf : (if (te T y).testBit x = true then dW T k x else 0) ≠ 0 := hf
    rw [if_neg ha] at hf
    exact absurd rfl hf
theorem VT.sym (hV : VT T) {x y : Nat} (hx : x < tn T) (hy : y < tn T) : (te T x).testBit y = (te T y).testBit x := hV.2.2.2.2.2.2.1 x y hx hy
/-! the search: who is seen, where in the row, how far -/
def dnB (vis : Nat → Bool) (pos : Nat → Nat) (q y x z : Nat) : Bool := vis x && (decide (pos x < q) || (decide (pos x = q) && decide (z < y)))
def BfI (T : WT) (vis : Nat → Bool) (pos d : Nat → Nat) (many q y : Nat) : Prop :=
  vis (hereN T) = true ∧ (∀ z, z < tn T → vis z = true → AtD T (d z) z ∧ pos z < many ∧ d z ≤ pos z) ∧ many = sumB vis (tn T) ∧ (∀ x z, x < tn T → z < tn T → vis x = true → vis z = true → pos x ≤ pos z → d x ≤ d z) ∧ (∀ x z, x < tn T → z < tn T → vis x = true → vis z = true → q ≤ pos x → d z ≤ d x + 1) ∧ (∀ x z, x < tn T → z < tn T → (te T x).testBit z = true → dnB vis pos q y x z = true → vis z = true) ∧ (∀ i, i < many → ∃ z, z < tn T ∧ vis z = true ∧ pos z = i) ∧ (∀ x z, x < tn T → z < tn T → vis x = true → vis z = true → pos x = pos z → x = z)
def wyT (T : WT) (vis : Nat → Bool) (pos d : Nat → Nat) (q y z x : Nat) : Nat := if (dnB vis pos q y x z && (te T x).testBit z && vis z && decide (d z = d x + 1)) = true then dW T (d x) x else 0
def wyN (T : WT) (vis : Nat → Bool) (pos d : Nat → Nat) (q y z : Nat) : Nat := (if z = hereN T then 1 else 0) + sumN (wyT T vis pos d q y z) (tn T)
variable {vis : Nat → Bool} {pos d : Nat → Nat} {many q y : Nat}
theorem bf_cmp (hV : VT T) (h : BfI T vis pos d many q y) {K : Nat} (hK : ∀ x, x < tn T → vis x = true → d x < K → pos x < q) : ∀ j, j ≤ K → ∀ z, z < tn T → AtD T j z → vis z = true ∧ d z = j := by
  obtain ⟨h1, h2, -, h4, -, h6, -, -⟩ := h
  intro j
  induction j with
  | zero =>
    intro _ z hz ha
    have hv : vis z = true := by rw [at_0 ha]; exact h1
    exact ⟨hv, at_uni (h2 z hz hv).1 ha⟩
  | succ j ih =>
    intro hj z hz ha
    obtain ⟨x, hx, hxz, hax⟩ := at_pred_ex ha
    obtain ⟨vx, dx⟩ := ih (by omega) x hx hax
    have hp := hK x hx vx (by omega)
    have hv : vis z = true := h6 x z hx hz (by rw [hV.sym hx hz]; exact hxz) (by unfold dnB; simp [vx, hp])
    exact ⟨hv, at_uni (h2 z hz hv).1 ha⟩
theorem wy_fin (hV : VT T) (h : BfI T vis pos d many q y) {z : Nat} (hz : z < tn T) (vz : vis z = true) (hp : ∀ k x, d z = k + 1 → x < tn T → AtD T k x → (te T z).testBit x = true → vis x = true ∧ d x = k ∧ dnB vis pos q y x z = true) : wyN T vis pos d q y z = dW T (d z) z := by
  have az := (h.2.1 z hz vz).1
  unfold wyN
  cases hd : d z with
  | zero =>
    rw [hd] at az
    rw [if_pos (at_0 az), at_0 az, dW_0, if_pos rfl]
    rw [sum_zero]
    intro x hx
    unfold wyT
    rw [if_neg]
    rw [← at_0 az, hd]
    simp
  | succ k =>
    rw [hd] at az
    have hne : z ≠ hereN T := fun e => by
      have := az.2 0 (by omega)
      rw [dW_0, if_pos e] at this
      exact absurd this (by decide)
    rw [if_neg hne, Nat.zero_add, dW_s]
    refine sumN_congr (fun x hx => ?_)
    unfold wyT
    rw [hV.sym hx hz, vz, hd]
    show _ = if (te T z).testBit x = true then dW T k x else 0
    by_cases ha : (te T z).testBit x = true
    · rw [if_pos ha]
      by_cases hw : dW T k x = 0
      · rw [hw]
        by_cases hc : (dnB vis pos q y x z && (te T z).testBit x && true && decide (k + 1 = d x + 1)) = true
        · rw [if_pos hc]
          simp only [Bool.and_eq_true, decide_eq_true_eq] at hc
          rw [show d x = k by omega, hw]
        · rw [if_neg hc]
      · obtain ⟨vx, dx, hdn⟩ := hp k x hd hx (at_pred az hx ha hw) ha
        rw [hdn, ha, dx]
        simp
    · rw [if_neg ha, if_neg]
      simp [ha]
def upB (f : Nat → Bool) (y : Nat) : Nat → Bool := fun z => if z = y then true else f z
def upN (f : Nat → Nat) (y v : Nat) : Nat → Nat := fun z => if z = y then v else f z
theorem upB_n {f : Nat → Bool} {y z : Nat} (h : z ≠ y) : upB f y z = f z := if_neg h
theorem upB_y {f : Nat → Bool} {y : Nat} : upB f y y = true := if_pos rfl
theorem upN_n {f : Nat → Nat} {y z v : Nat} (h : z ≠ y) : upN f y v z = f z := if_neg h
theorem upN_y {f : Nat → Nat} {y v : Nat} : upN f y v y = v := if_pos rfl
/-- one more is seen -/
theorem bf_new (hV : VT T) (h : BfI T vis pos d many q y) {x0 : Nat} (hx0 : x0 < tn T) (v0 : vis x0 = true) (p0 : pos x0 = q) (hy : y < tn T) (ha : (te T x0).testBit y = true) (vy : vis y = false) : BfI T (upB vis y) (upN pos y many) (upN d y (d x0 + 1)) (many + 1) q y ∧ many < tn T ∧ ∀ z, z < tn T → wyN T (upB vis y) (upN pos y many) (upN d y (d x0 + 1)) q y z = wyN T vis pos d q y z := by
  have cm := bf_cmp hV h (K := d x0) (fun x hx vx hd => by
    refine Classical.byContradiction fun z => ?_
    have := h.2.2.2.1 x0 x hx0 hx v0 vx (by omega)
    omega)
  obtain ⟨h1, h2, h3, h4, h5, h6, h7, h8⟩ := id h
  have q0 := (h2 x0 hx0 v0)
  have ne0 : x0 ≠ y := fun e => by rw [e, vy] at v0; exact absurd v0 (by decide)
  have nev : ∀ z, vis z = true → z ≠ y := fun z hz e => by rw [e, vy] at hz; exact absurd hz (by decide)
  have uv : ∀ z, upB vis y z = true → z = y ∨ vis z = true := fun z hz => by
    by_cases e : z = y
    · exact Or.inl e
    · rw [upB_n e] at hz; exact Or.inr hz
  have ay : AtD T (d x0 + 1) y := by
    obtain ⟨j, hj, haj⟩ := at_ex (d x0 + 1) (dW_adj hx0 (by rw [hV.sym hy hx0]; exact ha) q0.1.1)
    by_cases e : j ≤ d x0
    · have := (cm j e y hy haj).1
      rw [vy] at this
      exact absurd this (by decide)
    · rw [show d x0 + 1 = j by omega]; exact haj
  have e3 : sumB (upB vis y) (tn T) = many + 1 := by rw [h3]; exact sumB_upd (fun z hz => upB_n hz) vy upB_y hy
  have hm : many < tn T := by
    have := sumB_le (p := upB vis y) (tn T)
    omega
  have dny : ∀ z, dnB (upB vis y) (upN pos y many) q y y z = false := fun z => by
    unfold dnB
    rw [upN_y, show decide (many < q) = false from decide_eq_false (by omega), show decide (many = q) = false from decide_eq_false (by omega)]
    simp
  have dnx : ∀ x z, x ≠ y → dnB (upB vis y) (upN pos y many) q y x z = dnB vis pos q y x z := fun x z e => by
    unfold dnB
    rw [upB_n e, upN_n e]
  refine ⟨⟨?_, fun z hz vz => ?_, e3.symm, fun x z hx hz vx vz hp => ?_, fun x z hx hz vx vz hp => ?_, fun x z hx hz hxz hdn => ?_, fun i hi => ?_, fun x z hx hz vx vz hp => ?_⟩, hm, fun z hz => ?_⟩
  · rw [upB_n (nev _ h1)]; exact h1
  · rcases uv z vz with e | e
    · subst e
      rw [upN_y, upN_y]
      exact ⟨ay, by omega, by omega⟩
    · rw [upN_n (nev z e), upN_n (nev z e)]
      have := h2 z hz e
      exact ⟨this.1, by omega, this.2.2⟩
  · rcases uv x vx with e | e
    · rcases uv z vz with e2 | e2
      · rw [e, e2]; exact Nat.le_refl _
      · subst e
        rw [upN_y, upN_n (nev z e2)] at hp
        have := (h2 z hz e2).2.1
        omega
    · rcases uv z vz with e2 | e2
      · subst e2
        rw [upN_n (nev x e), upN_y]
        exact h5 x0 x hx0 hx v0 e (by omega)
      · rw [upN_n (nev x e), upN_n (nev z e2)] at hp ⊢
        exact h4 x z hx hz e e2 hp
  · rcases uv x vx with e | e
    · subst e
      rw [upN_y]
      rcases uv z vz with e2 | e2
      · subst e2
        rw [upN_y]; omega
      · rw [upN_n (nev z e2)]
        have := h5 x0 z hx0 hz v0 e2 (by omega)
        omega
    · rw [upN_n (nev x e)] at hp ⊢
      rcases uv z vz with e2 | e2
      · subst e2
        rw [upN_y]
        have := h4 x0 x hx0 hx v0 e (by omega)
        omega
      · rw [upN_n (nev z e2)]
        exact h5 x z hx hz e e2 hp
  · by_cases e : x = y
    · subst e
      rw [dny] at hdn
      exact absurd hdn (by decide)
    · rw [dnx x z e] at hdn
      have := h6 x z hx hz hxz hdn
      rw [upB_n (nev z this)]; exact this
  · by_cases e : i = many
    · exact ⟨y, hy, upB_y, by rw [upN_y, e]⟩
    · obtain ⟨z, a1, a2, a3⟩ := h7 i (by omega)
      exact ⟨z, a1, by rw [upB_n (nev z a2)]; exact a2, by rw [upN_n (nev z a2)]; exact a3⟩
  · rcases uv x vx with e | e
    · rcases uv z vz with e2 | e2
      · rw [e, e2]
      · subst e
        rw [upN_y, upN_n (nev z e2)] at hp
        have := (h2 z hz e2).2.1
        omega
    · rcases uv z vz with e2 | e2
      · subst e2
        rw [upN_y, upN_n (nev x e)] at hp
        have := (h2 x hx e).2.1
        omega
      · rw [upN_n (nev x e), upN_n (nev z e2)] at hp
        exact h8 x z hx hz e e2 hp
  · unfold wyN
    refine congrArg (fun s => (if z = hereN T then 1 else 0) + s) (sumN_congr (fun x hx => ?_))
    unfold wyT
    by_cases e : x = y
    · subst e
      rw [dny, show dnB vis pos q x x z = false by unfold dnB; rw [vy]; rfl]
      simp
    · rw [dnx x z e]
      by_cases e2 : z = y
      · subst e2
        by_cases hdn : (dnB vis pos q z x z && (te T x).testBit z) = true
        · have hdn2 : dnB vis pos q z x z = true ∧ (te T x).testBit z = true := by simpa using hdn
          have := h6 x z hx hz hdn2.2 hdn2.1
          rw [vy] at this
          exact absurd this (by decide)
        · rw [show (dnB vis pos q z x z && (te T x).testBit z) = false by simpa using hdn]
          simp
      · rw [upB_n e2, upN_n e2, upN_n e]
/-- a place of the row is through -/
theorem bf_adv (h : BfI T vis pos d many q y) {x0 : Nat} (hx0 : x0 < tn T) (v0 : vis x0 = true) (p0 : pos x0 = q) (hy : y < tn T) (ha : (te T x0).testBit y = true → vis y = true) : BfI T vis pos d many q (y + 1) ∧ ∀ z, z < tn T → wyN T vis pos d q (y + 1) z = wyN T vis pos d q y z + if z = y ∧ (te T x0).testBit y = true ∧ vis y = true ∧ d y = d x0 + 1 then dW T (d x0) x0 else 0 := by
  obtain ⟨h1, h2, h3, h4, h5, h6, h7, h8⟩ := h
  have dz : ∀ x z, z ≠ y → dnB vis pos q (y + 1) x z = dnB vis pos q y x z := fun x z e => by
    unfold dnB
    rw [show decide (z < y + 1) = decide (z < y) by
      by_cases r : z < y
      · simp [r, show z < y + 1 by omega]
      · simp [r, show ¬ z < y + 1 by omega]]
  have dx : ∀ x z, x < tn T → x ≠ x0 → dnB vis pos q (y + 1) x z = dnB vis pos q y x z := fun x z hx e => by
    unfold dnB
    by_cases vx : vis x = true
    · have : ¬ pos x = q := fun r => e (h8 x x0 hx hx0 vx v0 (by omega))
      simp [this]
    · simp [vx]
  refine ⟨⟨h1, h2, h3, h4, h5, fun x z hx hz hxz hdn => ?_, h7, h8⟩, fun z hz => ?_⟩
  · by_cases e : z = y
    · by_cases e2 : x = x0
      · subst e e2
        exact ha hxz
      · rw [dx x z hx e2] at hdn
        exact h6 x z hx hz hxz hdn
    · rw [dz x z e] at hdn
      exact h6 x z hx hz hxz hdn
  · unfold wyN
    rw [Nat.add_assoc]
    refine congrArg (fun s => (if z = hereN T then 1 else 0) + s) ?_
    by_cases e : z = y
    · subst e
      have s1 : ∀ n, n ≤ tn T → sumN (wyT T vis pos d q (z + 1) z) n = sumN (fun x => if x = x0 then wyT T vis pos d q z z x0 + (if (z = z ∧ (te T x0).testBit z = true ∧ vis z = true ∧ d z = d x0 + 1) then dW T (d x0) x0 else 0) else wyT T vis pos d q z z x) n := fun n hn => sumN_congr (fun x hx => by
        by_cases e2 : x = x0
        · subst e2
          show _ = if x = x then _ else _
          rw [if_pos rfl]
          have b1 : dnB vis pos q z x z = false := by unfold dnB; simp [p0]
          have b2 : dnB vis pos q (z + 1) x z = true := by unfold dnB; simp [p0, v0]
          unfold wyT
          rw [b1, b2]
          simp only [Bool.false_and, Bool.true_and, Bool.false_eq_true, if_false, Nat.zero_add, true_and, Bool.and_eq_true, decide_eq_true_eq, and_assoc]
        · show _ = if x = x0 then _ else _
          rw [if_neg e2]
          unfold wyT
          rw [dx x z (by omega) e2])
      rw [s1 _ (Nat.le_refl _)]
      exact sum_upd (f := wyT T vis pos d q z z) (x := x0) (v := if (z = z ∧ (te T x0).testBit z = true ∧ vis z = true ∧ d z = d x0 + 1) then dW T (d x0) x0 else 0) (fun x e2 => if_neg e2) (if_pos rfl) hx0
    · rw [if_neg (fun w => e w.1), Nat.add_zero]
      refine sumN_congr (fun x hx => ?_)
      unfold wyT
      rw [dz x z e]
/-- the row is through -/
theorem bf_row (h : BfI T vis pos d many q (tn T)) : BfI T vis pos d many (q + 1) 0 ∧ ∀ z, z < tn T → wyN T vis pos d (q + 1) 0 z = wyN T vis pos d q (tn T) z := by
  obtain ⟨h1, h2, h3, h4, h5, h6, h7, h8⟩ := h
  have dz : ∀ x z, z < tn T → dnB vis pos (q + 1) 0 x z = dnB vis pos q (tn T) x z := fun x z hz => by
    unfold dnB
    by_cases r : pos x < q
    · simp [r, show pos x < q + 1 by omega]
    · by_cases s : pos x = q
      · simp [s, hz]
      · simp [r, s, show ¬ pos x < q + 1 by omega]
  refine ⟨⟨h1, h2, h3, h4, fun x z hx hz vx vz hp => h5 x z hx hz vx vz (by omega), fun x z hx hz hxz hdn => ?_, h7, h8⟩, fun z hz => ?_⟩
  · rw [dz x z hz] at hdn
    exact h6 x z hx hz hxz hdn
  · unfold wyN
    refine congrArg (fun s => (if z = hereN T then 1 else 0) + s) (sumN_congr (fun x hx => ?_))
    unfold wyT
    rw [dz x z hz]
end

/-! THE ABSTRACT WOOD: places, birds, kinds, steps, sets beside, marks, washed crumbs, the birds' places, pockets, the way -/
abbrev WT : Type := Nat × Nat × (Nat → Nat) × Nat × (Nat → Nat) × (Nat → Nat → Nat) × (Nat → Int32) × (Nat → Nat) × (Nat → Nat) × (Nat → Nat)
def tn (T : WT) : Nat := T.1
def tb (T : WT) : Nat := T.2.1
def tk (T : WT) : Nat → Nat := T.2.2.1
def ts (T : WT) : Nat := T.2.2.2.1
def te (T : WT) : Nat → Nat := T.2.2.2.2.1
def tm (T : WT) : Nat → Nat → Nat := T.2.2.2.2.2.1
def tw (T : WT) : Nat → Int32 := T.2.2.2.2.2.2.1
def tp (T : WT) : Nat → Nat := T.2.2.2.2.2.2.2.1
def tq (T : WT) : Nat → Nat := T.2.2.2.2.2.2.2.2.1
def tz (T : WT) : Nat → Nat := T.2.2.2.2.2.2.2.2.2
/-- a place's kind is also another -/
def parN (k : Nat) : Nat := [0, 0, 0, 0, 1, 2].getD k 0
def isK (kx k : Nat) : Bool := k == 0 || kx == k || parN kx == k
/-- the set of the places below n with a property -/
def setN (p : Nat → Bool) : Nat → Nat
  | 0 => 0
  | n + 1 => setN p n + if p n then 2 ^ n else 0
def ofK (T : WT) (k : Nat) : Nat := setN (fun x => isK (tk T x) k) (tn T)
def VT (T : WT) : Prop := (tn T = 0 ∧ tb T = 0 ∧ ts T = 0 ∧ (∀ m, m < 3 → tq T m = 0) ∨ 2 ≤ tn T ∧ ∀ i, i ≤ ts T → tz T i < tn T) ∧ tn T ≤ 8 ∧ tb T ≤ 4 ∧ ts T ≤ 30 ∧ (∀ x, x < tn T → tk T x ≤ 5) ∧ (∀ x, x < tn T → te T x < 2 ^ tn T) ∧ (∀ x y, x < tn T → y < tn T → (te T x).testBit y = (te T y).testBit x) ∧ (∀ x, x < tn T → (te T x).testBit x = false) ∧ (∀ m x, m < 3 → x < tn T → tm T m x + tq T m ≤ 29) ∧ (∀ m, m < 3 → tq T m ≤ 9) ∧ (∀ i, i < tb T → tp T i < tn T) ∧ tz T 0 = 0
/-- the class's wood whose object is a -/
def CWd (a : Nat) (T : WT) (M : Mm) : Prop := M.1 a 0 = nI (tn T) ∧ M.1 a 1 = nI (tb T) ∧ M.1 a 2 = nI (ts T) ∧ (∀ x, x < tn T → M.1 (a + 1) x = nI (tk T x)) ∧ (∀ k, k < 6 → M.1 (a + 2) k = nI (ofK T k)) ∧ (∀ x, x < tn T → M.1 (a + 3) x = nI (te T x)) ∧ (∀ m x, m < 3 → x < tn T → M.1 (a + 5 + m) x = nI (tm T m x)) ∧ (∀ x, x < tn T → M.1 (a + 8) x = tw T x) ∧ (∀ i, i < tb T → M.1 (a + 9) i = nI (tp T i)) ∧ (∀ m, m < 3 → M.1 (a + 10) m = nI (tq T m)) ∧ (∀ i, i ≤ ts T → M.1 (a + 11) i = nI (tz T i))
/-- the reference's wood -/
def RWd (T : WT) (M : Mm) : Prop := M.1 93 10 = nI (tn T) ∧ M.1 93 11 = nI (tb T) ∧ M.1 93 25 = nI (ts T) ∧ (∀ x, x < tn T → M.1 100 x = nI (tk T x)) ∧ (∀ x, x < tn T → M.1 101 x = nI (te T x)) ∧ (∀ m x, m < 3 → x < tn T → M.1 106 (8 * m + x) = nI (tm T m x)) ∧ (∀ x, x < tn T → M.1 106 (24 + x) = tw T x) ∧ (∀ i, i < tb T → M.1 106 (32 + i) = nI (tp T i)) ∧ (∀ m, m < 3 → M.1 106 (36 + m) = nI (tq T m)) ∧ (∀ i, i ≤ ts T → M.1 107 i = nI (tz T i))
/-- a wood that the reference keeps -/
def RKp (k : Nat) (T : WT) (M : Mm) : Prop := M.1 109 k = nI (ts T) ∧ (∀ x, x < tn T → M.1 111 (8 * k + x) = nI (te T x)) ∧ (∀ m x, m < 3 → x < tn T → M.1 110 (39 * k + (8 * m + x)) = nI (tm T m x)) ∧ (∀ x, x < tn T → M.1 110 (39 * k + (24 + x)) = tw T x) ∧ (∀ i, i < tb T → M.1 110 (39 * k + (32 + i)) = nI (tp T i)) ∧ (∀ m, m < 3 → M.1 110 (39 * k + (36 + m)) = nI (tq T m)) ∧ (∀ i, i ≤ ts T → M.1 112 (31 * k + i) = nI (tz T i))
def Kp1 (T : WT) (M : Mm) (k : Nat) : Prop := (M.1 108 k = 0 ∧ M.1 (57 + 12 * k) 0 = 0) ∨ (M.1 108 k = 1 ∧ ∃ T2, VT T2 ∧ tn T2 = tn T ∧ tb T2 = tb T ∧ (∀ x, x < tn T → tk T2 x = tk T x) ∧ 2 ≤ tn T ∧ CWd (57 + 12 * k) T2 M ∧ RKp k T2 M)
/-- rows: the object o, its cells; sizes and contents of the reference -/
def Row1 (o sz ct w mx : Nat) (M : Mm) (r : Nat) : Prop := (M.1 (o + 2 * r) 1 = -1 ∧ M.1 sz r = -1) ∨ ∃ n, n ≤ mx ∧ M.1 (o + 2 * r) 1 = nI n ∧ M.1 sz r = nI n ∧ ∀ i, i < n → M.1 (o + 2 * r + 1) i = M.1 ct (w * r + i)
def Fnd (M : Mm) : Prop := M.1 0 9 = M.1 93 0 ∧ (∀ f, f < 6 → M.1 12 f = M.1 94 f) ∧ M.1 0 10 = M.1 93 2 ∧ M.2.1 0 11 = M.2.1 93 3 ∧ M.2.1 0 12 = M.2.1 93 4
/-- what holds between the calls -/
def Rel (M : Mm) : Prop := RO M ∧ Fnd M ∧ (∀ r, r < 6 → Row1 13 95 96 40 40 M r) ∧ (∀ t, t < 4 → Row1 25 98 99 80 80 M t) ∧ ∃ T, VT T ∧ CWd 33 T M ∧ RWd T M ∧ ∀ k, k < 3 → Kp1 T M k
theorem CWd.same {a : Nat} {T : WT} {M M1 : Mm} (h : ∀ c, a ≤ c → c ≤ a + 11 → M1.1 c = M.1 c) (hC : CWd a T M) : CWd a T M1 := by
  unfold CWd at hC ⊢
  have e0 := h a (by omega) (by omega)
  have e1 := h (a + 1) (by omega) (by omega)
  have e2 := h (a + 2) (by omega) (by omega)
  have e3 := h (a + 3) (by omega) (by omega)
  have e8 := h (a + 8) (by omega) (by omega)
  have e9 := h (a + 9) (by omega) (by omega)
  have e10 := h (a + 10) (by omega) (by omega)
  have e11 := h (a + 11) (by omega) (by omega)
  rw [e0, e1, e2, e3, e8, e9, e10, e11]
  refine ⟨hC.1, hC.2.1, hC.2.2.1, hC.2.2.2.1, hC.2.2.2.2.1, hC.2.2.2.2.2.1, fun m x hm hx => ?_, hC.2.2.2.2.2.2.2⟩
  rw [h (a + 5 + m) (by omega) (by omega)]
  exact hC.2.2.2.2.2.2.1 m x hm hx
theorem RWd.same {T : WT} {M M1 : Mm} (h10 : M1.1 93 10 = M.1 93 10) (h11 : M1.1 93 11 = M.1 93 11) (h25 : M1.1 93 25 = M.1 93 25) (h : ∀ c, (c = 100 ∨ c = 101 ∨ c = 106 ∨ c = 107) → M1.1 c = M.1 c) (hC : RWd T M) : RWd T M1 := by
  unfold RWd at hC ⊢
  rw [h10, h11, h25, h 100 (by simp), h 101 (by simp), h 106 (by simp), h 107 (by simp)]
  exact hC
theorem RKp.same {k : Nat} {T : WT} {M M1 : Mm} (h : ∀ c, 109 ≤ c → c ≤ 112 → M1.1 c = M.1 c) (hC : RKp k T M) : RKp k T M1 := by
  unfold RKp at hC ⊢
  rw [h 109 (by omega) (by omega), h 110 (by omega) (by omega), h 111 (by omega) (by omega), h 112 (by omega) (by omega)]
  exact hC
theorem Kp1.same {T : WT} {k : Nat} (hk : k < 3) {M M1 : Mm} (h : ∀ c, 57 ≤ c → c < 93 → M1.1 c = M.1 c) (h2 : ∀ c, 108 ≤ c → c ≤ 112 → M1.1 c = M.1 c) (hC : Kp1 T M k) : Kp1 T M1 k := by
  unfold Kp1 at hC ⊢
  rw [h2 108 (by omega) (by omega), h (57 + 12 * k) (by omega) (by omega)]
  rcases hC with hC | ⟨hC, T2, q1, q2, q3, q4, q5, q6, q7⟩
  · exact Or.inl hC
  · exact Or.inr ⟨hC, T2, q1, q2, q3, q4, q5, q6.same (fun c h1 h3 => h c (by omega) (by omega)), q7.same (fun c h1 h3 => h2 c (by omega) h3)⟩
theorem Row1.same {o sz ct w mx : Nat} {M M1 : Mm} {r : Nat} (h1 : M1.1 (o + 2 * r) 1 = M.1 (o + 2 * r) 1) (h2 : M1.1 sz r = M.1 sz r) (h3 : M1.1 (o + 2 * r + 1) = M.1 (o + 2 * r + 1)) (h4 : ∀ i, i < mx → M1.1 ct (w * r + i) = M.1 ct (w * r + i)) (hC : Row1 o sz ct w mx M r) : Row1 o sz ct w mx M1 r := by
  unfold Row1 at hC ⊢
  rw [h1, h2, h3]
  rcases hC with hC | ⟨n, q1, q2, q3, q4⟩
  · exact Or.inl hC
  · exact Or.inr ⟨n, q1, q2, q3, fun i hi => by rw [h4 i (by omega)]; exact q4 i hi⟩
/-- what is told and found changes alone -/
theorem Rel.told {M M1 : Mm} (h : Rel M) (hs : ∀ c j, c ≠ 0 → c ≠ 12 → c ≠ 94 → ¬ (c = 93 ∧ (j = 0 ∨ j = 2)) → M1.1 c j = M.1 c j) (hR : M1.2.2 = M.2.2) (hF : Fnd M1) : Rel M1 := by
  obtain ⟨h1, -, h3, h4, T, q1, q2, q3, q4⟩ := h
  have hc : ∀ c, c ≠ 0 → c ≠ 12 → c ≠ 94 → c ≠ 93 → M1.1 c = M.1 c := fun c a b d e => funext fun j => hs c j a b d (fun q => e q.1)
  have h93 : ∀ j, j ≠ 0 → j ≠ 2 → M1.1 93 j = M.1 93 j := fun j a b => hs 93 j (by omega) (by omega) (by omega) (fun q => by omega)
  refine ⟨fun a f x y => by rw [hR]; exact h1 a f x y, hF, fun r hr => ?_, fun t ht => ?_, T, q1, ?_, ?_, fun k hk => ?_⟩
  · exact (h3 r hr).same (by rw [hc _ (by omega) (by omega) (by omega) (by omega)]) (by rw [hc _ (by omega) (by omega) (by omega) (by omega)]) (hc _ (by omega) (by omega) (by omega) (by omega)) (fun i _ => by rw [hc _ (by omega) (by omega) (by omega) (by omega)])
  · exact (h4 t ht).same (by rw [hc _ (by omega) (by omega) (by omega) (by omega)]) (by rw [hc _ (by omega) (by omega) (by omega) (by omega)]) (hc _ (by omega) (by omega) (by omega) (by omega)) (fun i _ => by rw [hc _ (by omega) (by omega) (by omega) (by omega)])
  · exact q2.same (fun c a b => hc c (by omega) (by omega) (by omega) (by omega))
  · exact q3.same (h93 10 (by omega) (by omega)) (h93 11 (by omega) (by omega)) (h93 25 (by omega) (by omega)) (fun c a => hc c (by omega) (by omega) (by omega) (by omega))
  · exact (q4 k hk).same hk (fun c a b => hc c (by omega) (by omega) (by omega) (by omega)) (fun c a b => hc c (by omega) (by omega) (by omega) (by omega))
/-- the rows' cells change alone -/
theorem Rel.rows {M M1 : Mm} (h : Rel M) (hs : ∀ c j, (c < 13 → c ≠ 0 ∨ j ≠ 10 → M1.1 c j = M.1 c j) ∧ (33 ≤ c → c ≠ 95 → c ≠ 96 → c ≠ 97 → c ≠ 98 → c ≠ 99 → ¬ (c = 93 ∧ j = 2) → M1.1 c j = M.1 c j)) (hA : M1.1 0 10 = M1.1 93 2) (hR : M1.2 = M.2) (h6 : ∀ r, r < 6 → Row1 13 95 96 40 40 M1 r) (h7 : ∀ t, t < 4 → Row1 25 98 99 80 80 M1 t) : Rel M1 := by
  obtain ⟨h1, hf, -, -, T, q1, q2, q3, q4⟩ := h
  have hc : ∀ c, 33 ≤ c → c ≠ 95 → c ≠ 96 → c ≠ 97 → c ≠ 98 → c ≠ 99 → c ≠ 93 → M1.1 c = M.1 c := fun c a b d e f g i => funext fun j => (hs c j).2 a b d e f g (fun q => i q.1)
  have h93 : ∀ j, j ≠ 2 → M1.1 93 j = M.1 93 j := fun j a => (hs 93 j).2 (by omega) (by omega) (by omega) (by omega) (by omega) (by omega) (fun q => a q.2)
  refine ⟨fun a f x y => by rw [hR]; exact h1 a f x y, ⟨?_, ?_, hA, ?_, ?_⟩, h6, h7, T, q1, ?_, ?_, fun k hk => ?_⟩
  · rw [(hs 0 9).1 (by omega) (Or.inr (by omega)), h93 0 (by omega)]; exact hf.1
  · intro f hf6
    rw [(hs 12 f).1 (by omega) (Or.inl (by omega)), hc 94 (by omega) (by omega) (by omega) (by omega) (by omega) (by omega) (by omega)]
    exact hf.2.1 f hf6
  · rw [hR]; exact hf.2.2.2.1
  · rw [hR]; exact hf.2.2.2.2
  · exact q2.same (fun c a b => hc c (by omega) (by omega) (by omega) (by omega) (by omega) (by omega) (by omega))
  · exact q3.same (h93 10 (by omega)) (h93 11 (by omega)) (h93 25 (by omega)) (fun c a => hc c (by omega) (by omega) (by omega) (by omega) (by omega) (by omega) (by omega))
  · exact (q4 k hk).same hk (fun c a b => hc c (by omega) (by omega) (by omega) (by omega) (by omega) (by omega) (by omega)) (fun c a b => hc c (by omega) (by omega) (by omega) (by omega) (by omega) (by omega) (by omega))

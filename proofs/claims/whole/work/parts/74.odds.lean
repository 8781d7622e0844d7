/-! CHANCES -/
def sbN (L C : Nat) : Nat := if L = 0 then C else (L - 1) &&& C
def itN (C : Nat) : Nat → Nat
  | 0 => C
  | i + 1 => sbN (itN C i) C
theorem it_le (C : Nat) : ∀ i, itN C i ≤ C
  | 0 => Nat.le_refl _
  | i + 1 => by
    show sbN (itN C i) C ≤ C
    unfold sbN
    by_cases h : itN C i = 0
    · rw [if_pos h]; exact Nat.le_refl _
    · rw [if_neg h]; exact Nat.and_le_right
theorem sb_ok {L C : Nat} : (nI L - 1) &&& nI C = nI (sbN L C) := by
  unfold sbN
  by_cases h : L = 0
  · subst h
    rw [if_pos rfl]
    show (-1 : Int32) &&& nI C = nI C
    exact Int32.neg_one_and
  · rw [if_neg h, show nI L - 1 = nI (L - 1) from nsub (b := 1) (by omega), nI_and]
theorem it_all : ∀ n, n < 8 → ∀ C, C < 2 ^ n → ∀ i, i < 2 ^ cntN C → itN (C + 2 ^ n) i = itN C i + 2 ^ n ∧ itN (C + 2 ^ n) (2 ^ cntN C + i) = itN C i := by decide +kernel
theorem df_all : ∀ n, n < 8 → ∀ C, C < 2 ^ n → ∀ s, s < 2 ^ n → difN (C + 2 ^ n) s = difN C s + 2 ^ n ∧ difN (C + 2 ^ n) (2 ^ n + s) = difN C s ∧ difN C (2 ^ n + s) = difN C s := by decide +kernel
theorem cn_all : ∀ n, n < 8 → ∀ C, C < 2 ^ n → cntN (C + 2 ^ n) = cntN C + 1 ∧ cntN C ≤ n := by decide +kernel
theorem cn_le : ∀ C, C < 256 → cntN C ≤ 8 := by decide +kernel
theorem sumB_add {p : Nat → Bool} (a : Nat) : ∀ b, sumB p (a + b) = sumB p a + sumB (fun i => p (a + i)) b
  | 0 => rfl
  | b + 1 => by
    show sumB p (a + b) + (if p (a + b) then 1 else 0) = sumB p a + (sumB (fun i => p (a + i)) b + (if p (a + b) then 1 else 0))
    rw [sumB_add a b]
    omega
theorem sumB_le {p : Nat → Bool} : ∀ n, sumB p n ≤ n
  | 0 => Nat.le_refl _
  | n + 1 => by
    have := sumB_le (p := p) n
    show sumB p n + (if p n then 1 else 0) ≤ n + 1
    by_cases h : p n = true
    · rw [if_pos h]; omega
    · rw [if_neg h]; omega
theorem H_L : ∀ n, n ≤ 8 → ∀ (g : Nat → Bool) C, C < 2 ^ n → cntN C ≤ n ∧ sumB (fun S => g (difN C S)) (2 ^ n) = 2 ^ (n - cntN C) * sumB (fun i => g (itN C i)) (2 ^ cntN C) := by
  intro n
  induction n with
  | zero =>
    intro _ g C hC
    have : C = 0 := by have : C < 1 := hC; omega
    subst this
    refine ⟨by decide, ?_⟩
    show 0 + (if g (difN 0 0) then 1 else 0) = 1 * (0 + (if g 0 then 1 else 0))
    rw [show difN 0 0 = 0 from rfl]
    omega
  | succ n ih =>
    intro hn g C hC
    have p2 : 2 ^ (n + 1) = 2 ^ n + 2 ^ n := by rw [Nat.pow_succ]; omega
    by_cases hb : C < 2 ^ n
    · obtain ⟨i1, i2⟩ := ih (by omega) g C hb
      refine ⟨by omega, ?_⟩
      rw [p2, sumB_add, sumB_congr (p := fun i => g (difN C (2 ^ n + i))) (q := fun S => g (difN C S)) (n := 2 ^ n) (fun s hs => by rw [(df_all n (by omega) C hb s hs).2.2]), i2, show n + 1 - cntN C = (n - cntN C) + 1 by omega, Nat.pow_succ, Nat.mul_comm (2 ^ (n - cntN C)) 2, Nat.mul_assoc]
      omega
    · obtain ⟨C0, rfl⟩ : ∃ C0, C = C0 + 2 ^ n := ⟨C - 2 ^ n, by omega⟩
      have hC0 : C0 < 2 ^ n := by omega
      obtain ⟨c1, c2⟩ := cn_all n (by omega) C0 hC0
      obtain ⟨-, a2⟩ := ih (by omega) g C0 hC0
      obtain ⟨-, b2⟩ := ih (by omega) (fun z => g (z + 2 ^ n)) C0 hC0
      refine ⟨by omega, ?_⟩
      have q2 : 2 ^ (cntN C0 + 1) = 2 ^ cntN C0 + 2 ^ cntN C0 := by rw [Nat.pow_succ]; omega
      rw [p2, sumB_add, c1, q2, sumB_add, show n + 1 - (cntN C0 + 1) = n - cntN C0 by omega, Nat.mul_add]
      rw [sumB_congr (q := fun S => g (difN C0 S + 2 ^ n)) (n := 2 ^ n) (fun s hs => by rw [(df_all n (by omega) C0 hC0 s hs).1])]
      rw [sumB_congr (p := fun i => g (difN (C0 + 2 ^ n) (2 ^ n + i))) (q := fun S => g (difN C0 S)) (n := 2 ^ n) (fun s hs => by rw [(df_all n (by omega) C0 hC0 s hs).2.1])]
      rw [sumB_congr (p := fun i => g (itN (C0 + 2 ^ n) i)) (q := fun i => g (itN C0 i + 2 ^ n)) (n := 2 ^ cntN C0) (fun s hs => by rw [(it_all n (by omega) C0 hC0 s hs).1])]
      rw [sumB_congr (p := fun i => g (itN (C0 + 2 ^ n) (2 ^ cntN C0 + i))) (q := fun i => g (itN C0 i)) (n := 2 ^ cntN C0) (fun s hs => by rw [(it_all n (by omega) C0 hC0 s hs).2])]
      rw [a2, b2]
/-! lowest terms -/
def tcJ : Nat → Int64 → Int64 → Int64 × Int64
  | 0, u, l => (u, l)
  | k + 1, u, l => if ¬ 1 < l then (u, l) else if u - u / 2 * 2 = 0 then tcJ k (u / 2) (l / 2) else (u, l)
def gcJ : Nat → Int64 → Int64 → Option Int64
  | 0, _, _ => none
  | k + 1, a, b => if b = 0 then some a else gcJ k b (a - a / b * b)
def jN (n : Nat) : Int64 := (nI n).toInt64
def pwJ (n : Nat) : Int64 := (1 : Int64) <<< ((nI n).toInt64 &&& 63)
def lowB (c u n : Nat) : Bool := match gcJ 20 (jN (2 ^ (n - c) * u)) (pwJ n) with
  | none => false
  | some g => decide (¬ g = 0 ∧ (jN (2 ^ (n - c) * u) / g, pwJ n / g) = tcJ 8 (jN u) (jN (2 ^ c)))
theorem low_all : ∀ n, n ≤ 8 → ∀ c, c ≤ n → ∀ u, u ≤ 2 ^ c → lowB c u n = true := by decide +kernel
def tcM (M : Mm) (u l : Int64) : Mm := wJ (wJ M 0 11 u) 0 12 l
def ptM (M : Mm) (u l : Int64) : Mm := wJ (wJ M 93 3 u) 93 4 l
theorem tcM_11 {M : Mm} {u l : Int64} : (tcM M u l).2.1 0 11 = u := by
  unfold tcM
  rw [wJ_at, if_neg (by omega), wJ_at, if_pos ⟨rfl, rfl⟩]
theorem tcM_12 {M : Mm} {u l : Int64} : (tcM M u l).2.1 0 12 = l := by
  unfold tcM
  rw [wJ_at, if_pos ⟨rfl, rfl⟩]
theorem tcM_s {M : Mm} {u l u1 l1 : Int64} : wJ (wJ (tcM M u l) 0 11 u1) 0 12 l1 = tcM M u1 l1 := by
  have e : (fun b j => if b = 0 ∧ j = 12 then l1 else if b = 0 ∧ j = 11 then u1 else if b = 0 ∧ j = 12 then l else if b = 0 ∧ j = 11 then u else M.2.1 b j) = fun b j => if b = 0 ∧ j = 12 then l1 else if b = 0 ∧ j = 11 then u1 else M.2.1 b j := by
    funext b j
    by_cases h1 : b = 0 ∧ j = 12
    · rw [if_pos h1, if_pos h1]
    · rw [if_neg h1, if_neg h1, if_neg h1]
      by_cases h2 : b = 0 ∧ j = 11
      · rw [if_pos h2, if_pos h2]
      · rw [if_neg h2, if_neg h2, if_neg h2]
  exact congrArg (fun f => ((M.1, f, M.2.2) : Mm)) e
theorem two_ne : ¬ (2 : Int64) = 0 := by decide
theorem tell_go (M : Mm) : ∀ d i u l, i + d = 8 → fnl gX5_tellChances (1, 0, nI i, tcM M u l) = some ((), tcM M (tcJ d u l).1 (tcJ d u l).2) := by
  intro d
  induction d with
  | zero =>
    intro i u l hi
    refine fnl_out ?_
    show bX5_tellChances_14 0 (nI i) (tcM M u l) = _
    unfold bX5_tellChances_14
    rw [if_pos (show (8 : Int32) ≤ nI i by rw [show i = 8 by omega]; decide)]
    rfl
  | succ d ih =>
    intro i u l hi
    have hlt : ¬ (8 : Int32) ≤ nI i := by rw [L8, nle_F (by omega) (by omega)]; exact id
    have step : bX5_tellChances_14 0 (nI i) (tcM M u l) = if ¬ 1 < l then some (.inr ((), tcM M u l)) else if u - u / 2 * 2 = 0 then some (.inl (1, 0, nI (i + 1), tcM M (u / 2) (l / 2))) else some (.inr ((), tcM M u l)) := by
      unfold bX5_tellChances_14
      have e1 : (wJ (tcM M u l) 0 11 (u / 2)).2.1 0 12 = l := by rw [wJ_at, if_neg (by omega)]; exact tcM_12
      rw [if_neg hlt, gfJ_e, tcM_12]
      by_cases q : 1 < l
      · rw [if_neg (fun z => lg_le.mp z q), if_neg (fun z => z q), gfJ_e, tcM_11, rmJ_ok two_ne]
        by_cases r : u - u / 2 * 2 = 0
        · rw [if_pos (lg_e0.mpr r), if_pos r, gfJ_e, tcM_11, dvJ_ok two_ne, pfJ_e, gfJ_e, e1, dvJ_ok two_ne, pfJ_e, tcM_s, np1]
        · rw [if_neg (fun z => r (lg_e0.mp z)), if_neg r]
      · rw [if_pos (lg_le.mpr q), if_pos q]
    have et : tcJ (d + 1) u l = if ¬ 1 < l then (u, l) else if u - u / 2 * 2 = 0 then tcJ d (u / 2) (l / 2) else (u, l) := rfl
    rw [et]
    by_cases q : 1 < l
    · rw [if_neg (fun z => z q)] at step ⊢
      by_cases r : u - u / 2 * 2 = 0
      · rw [if_pos r] at step ⊢
        exact (fnl_in step).trans (ih (i + 1) _ _ (by omega))
      · rw [if_neg r] at step ⊢
        exact fnl_out step
    · rw [if_pos q] at step ⊢
      exact fnl_out step
theorem tell_ok (M : Mm) (u l : Int32) : fX5_tellChances 0 u l M = some ((), tcM M (tcJ 8 u.toInt64 l.toInt64).1 (tcJ 8 u.toInt64 l.toInt64).2) := by
  unfold fX5_tellChances bX5_tellChances_0
  rw [pfJ_e, pfJ_e, fen_l]
  exact tell_go M 8 0 _ _ rfl
theorem part_go (M : Mm) (u l g : Int64) (hg : ¬ g = 0) : ∀ k a b, gcJ k a b = some g → fnl gX6_part (1, 93, u, l, a, b, M) = some (1, ptM M (u / g) (l / g)) := by
  intro k
  induction k with
  | zero => intro a b h; exact absurd h (by show ¬ none = some g; simp)
  | succ k ih =>
    intro a b h
    have h : (if b = 0 then some a else gcJ k b (a - a / b * b)) = some g := h
    by_cases q : b = 0
    · rw [if_pos q] at h
      have h : a = g := Option.some.inj h
      subst h
      refine fnl_out ?_
      show bX6_part_6 93 u l a b M = _
      unfold bX6_part_6
      rw [if_pos (lg_e0.mpr q), dvJ_ok hg, pfJ_e, dvJ_ok hg, pfJ_e]
      rfl
    · rw [if_neg q] at h
      refine (fnl_in ?_).trans (ih _ _ h)
      show bX6_part_6 93 u l a b M = _
      unfold bX6_part_6
      rw [if_neg (fun z => q (lg_e0.mp z)), rmJ_ok q]
theorem part_ok (M : Mm) {n c u : Nat} (hn : n ≤ 8) (hc : c ≤ n) (hu : u ≤ 2 ^ c) : fX6_part 93 (jN (2 ^ (n - c) * u)) (pwJ n) M = some (1, ptM M (tcJ 8 (jN u) (jN (2 ^ c))).1 (tcJ 8 (jN u) (jN (2 ^ c))).2) := by
  have h := low_all n hn c hc u hu
  unfold lowB at h
  unfold fX6_part bX6_part_0
  rw [fen_l]
  cases hg : gcJ 20 (jN (2 ^ (n - c) * u)) (pwJ n) with
  | none => rw [hg] at h; exact absurd (show false = true from h) (by decide)
  | some g =>
    rw [hg] at h
    have h : ¬ g = 0 ∧ (jN (2 ^ (n - c) * u) / g, pwJ n / g) = tcJ 8 (jN u) (jN (2 ^ c)) := of_decide_eq_true h
    rw [part_go M _ _ g h.1 20 _ _ hg, ← h.2]
/-! both told alike -/
theorem Rel.odds {M M1 : Mm} (h : Rel M) (hRO : RO M1) (hs : ∀ c j, imp c j → M1.1 c j = M.1 c j) (u l : Int64) (hL : M1.2.1 0 11 = u ∧ M1.2.1 0 12 = l ∧ M1.2.1 93 3 = u ∧ M1.2.1 93 4 = l) : Rel M1 := by
  have hF := h.2.1
  refine h.sct hRO (fun c j a _ _ => hs c j a) ?_ ?_ ?_
  · rw [hs _ _ (by unfold imp; omega), hs _ _ (by unfold imp; omega)]; exact hF.2.2.1
  · rw [hL.1, hL.2.2.1]
  · rw [hL.2.1, hL.2.2.2]
theorem shl8 : ∀ x, x ≤ 8 → ((1 : Int32) <<< (nI x &&& 31)) = nI (2 ^ x) := by decide
section
variable {M : Mm} {a : Nat} {T : WT}
theorem cr_lt (T : WT) : crS T < 2 ^ tn T := setN_lt _ _
theorem cases_ok (hG : SG a T M) (hn : tn T ≤ 8) : fX1_cases 6 M = some (nI (2 ^ cntN (crS T)), M) := by
  have hc := pow_lt8 hn (cr_lt T)
  unfold fX1_cases
  rw [gfI_e, hG.2.2.2.2.1, bitCount_ok, cal_ok, bc_all _ hc, shl8 _ (cn_le _ hc)]
def lkB (T : WT) (S C : Nat) : Bool := (foL (te T, stS T ||| difN S (ofK T 5), knS T, C) (hereN T)).2
def lkN (T : WT) (S : Nat) : Nat := sumB (fun i => lkB T S (itN (crS T) i)) (2 ^ cntN (crS T))
theorem lucky_ok (h : RO M) (hw : isW a) (hC : CWd a T M) (hV : VT T) (hn : tn T ≠ 0) (hG : SG a T M) {S : Nat} (hS : S < 256) : ∃ M1, fX1_luckyCases 6 (nI (hereN T)) (nI S) M = some (nI (lkN T S), M1) ∧ SG a T M1 ∧ Off (fun c j => c = 8 ∨ c = 6 ∧ j = 8) M M1 := by
  have haw := isW_lt hw
  have hn8 := hV.n8
  have hc := pow_lt8 hn8 (cr_lt T)
  have hc2 : 2 ^ cntN (crS T) ≤ 256 := Nat.pow_le_pow_right (n := 2) (j := 8) (by decide) (cn_le _ hc)
  unfold fX1_luckyCases bX1_luckyCases_0
  rw [stonesWith_ok hG hS, cal_ok, cases_ok hG hn8, cal_ok, gfI_e, hG.2.2.2.2.1, fen_l]
  obtain ⟨St, hSt⟩ : ∃ St, St = stS T ||| difN S (ofK T 5) := ⟨_, rfl⟩
  rw [← hSt]
  have key : ∃ r, fnl gX1_luckyCases (1, 6, nI (hereN T), nI St, nI (2 ^ cntN (crS T)), 0, nI (crS T), 0, M) = some r ∧ (r.1 = nI (lkN T S) ∧ SG a T r.2 ∧ Off (fun c j => c = 8 ∨ c = 6 ∧ j = 8) M r.2) := by
    refine fnl_inv (g := gX1_luckyCases) (fun k s => ∃ M2, s = (1, 6, nI (hereN T), nI St, nI (2 ^ cntN (crS T)), nI (sumB (fun i => lkB T S (itN (crS T) i)) k), nI (itN (crS T) k), nI k, M2) ∧ SG a T M2 ∧ Off (fun c j => c = 8 ∨ c = 6 ∧ j = 8) M M2) (2 ^ cntN (crS T)) _ (fun k s hk hI => ?_) (fun s hI => ?_) 0 (Nat.zero_le _) _ ⟨M, rfl, hG, Off.rf⟩
    · obtain ⟨M2, rfl, g2, O2⟩ := hI
      left
      have r2 := O2.ro h
      have hC2 : CWd a T M2 := hC.pt (fun c j q1 q2 => O2.1 c j (by omega))
      obtain ⟨M3, e3, f1, f2, O3⟩ := follow5_ok (W := (te T, St, knS T, itN (crS T) k)) hw hV.n8 (fun x hx => hV.en hx) (here_lt hV hn) r2 g2.1 (fun x hx => hC2.e hx)
      have e3 : fX1_follow 6 (nI (hereN T)) (nI St) (nI (knS T)) (nI (itN (crS T) k)) M2 = some (if lkB T S (itN (crS T) k) then 1 else 0, M3) := by
        unfold lkB
        rw [← hSt]
        exact e3
      have g3 := g2.off O3
      refine ⟨(1, 6, nI (hereN T), nI St, nI (2 ^ cntN (crS T)), nI (sumB (fun i => lkB T S (itN (crS T) i)) (k + 1)), nI (itN (crS T) (k + 1)), nI (k + 1), M3), ?_, _, rfl, g3, O2.tr O3⟩
      show bX1_luckyCases_24 6 (nI (hereN T)) (nI St) (nI (2 ^ cntN (crS T))) (nI (sumB (fun i => lkB T S (itN (crS T) i)) k)) (nI (itN (crS T) k)) (nI k) M2 = _
      unfold bX1_luckyCases_24 bX1_luckyCases_49
      rw [if_neg (show ¬ nI (2 ^ cntN (crS T)) ≤ nI k by rw [nle_F hk (by omega)]; exact id), gfI_e, g2.2.2.2.2.2.2, e3, cal_ok]
      show _ = some (Sum.inl (1, 6, nI (hereN T), nI St, nI (2 ^ cntN (crS T)), nI (sumB (fun i => lkB T S (itN (crS T) i)) k + (if lkB T S (itN (crS T) k) then 1 else 0)), nI (sbN (itN (crS T) k) (crS T)), nI (k + 1), M3))
      by_cases q : lkB T S (itN (crS T) k) = true
      · rw [if_pos q, if_neg (by decide), gfI_e, g3.2.2.2.2.1, ltI_e, sb_ok, np1, np1, if_pos q]
      · rw [if_neg q, if_pos rfl, gfI_e, g3.2.2.2.2.1, ltI_e, sb_ok, np1, if_neg q]
        try rfl
    · obtain ⟨M2, rfl, g2, O2⟩ := hI
      refine ⟨(nI (lkN T S), M2), ?_, rfl, g2, O2⟩
      show bX1_luckyCases_24 6 (nI (hereN T)) (nI St) (nI (2 ^ cntN (crS T))) (nI (lkN T S)) (nI (itN (crS T) (2 ^ cntN (crS T)))) (nI (2 ^ cntN (crS T))) M2 = _
      unfold bX1_luckyCases_24
      rw [if_pos (nI_le (Nat.le_refl _) (by omega))]
  obtain ⟨r, e, h1, h2, h3⟩ := key
  exact ⟨r.2, e.trans (by rw [← h1]), h2, h3⟩
end

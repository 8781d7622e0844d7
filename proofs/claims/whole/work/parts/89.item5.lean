/-! READING: the class, places, items, the whole -/
theorem kind5 (v : Int32) (M : Mm) : fX0_kindOf v M = some (if kdN v = 9 then -9 else nI (kdN v), M) := by
  have st : ∀ k, k < 6 → gX0_kindOf (1, v, nI k, M) = if let1 k = v then some (.inr (nI k, M)) else some (.inl (1, v, nI (k + 1), M)) := fun k hk => by
    show bX0_kindOf_2 v (nI k) M = _
    unfold bX0_kindOf_2
    rw [show (6 : Int32) = nI 6 from rfl, if_neg (show ¬ nI 6 ≤ nI k by rw [nle_F (by omega) (by decide)]; exact id), ldS_ok hk (by decide), np1]
  have en : ∀ k, k < 6 → let1 k = v → fnl gX0_kindOf (1, v, nI k, M) = some (nI k, M) := fun k hk e => fnl_out (by rw [st k hk, if_pos e])
  have go : ∀ k, k < 6 → ¬ let1 k = v → fnl gX0_kindOf (1, v, nI k, M) = fnl gX0_kindOf (1, v, nI (k + 1), M) := fun k hk e => fnl_in (by rw [st k hk, if_neg e])
  have l6 : fnl gX0_kindOf (1, v, nI 6, M) = some (-9, M) := fnl_out (by
    show bX0_kindOf_2 v (nI 6) M = _
    unfold bX0_kindOf_2
    rw [if_pos (show (6 : Int32) ≤ nI 6 by decide)])
  unfold fX0_kindOf bX0_kindOf_0
  rw [fen_l, show (0 : Int32) = nI 0 from rfl]
  have e0 : let1 0 = 112 := rfl
  have e1 : let1 1 = 103 := rfl
  have e2 : let1 2 = 116 := rfl
  have e3 : let1 3 = 98 := rfl
  have e4 : let1 4 = 109 := rfl
  have e5 : let1 5 = 99 := rfl
  unfold kdN
  by_cases q0 : v = 112
  · rw [if_pos q0, if_neg (show ¬ 0 = 9 by decide)]
    exact en 0 (by decide) (e0.trans q0.symm)
  rw [if_neg q0, go 0 (by decide) (fun z => q0 (z.symm.trans e0))]
  by_cases q1 : v = 103
  · rw [if_pos q1, if_neg (show ¬ 1 = 9 by decide)]
    exact en 1 (by decide) (e1.trans q1.symm)
  rw [if_neg q1, go 1 (by decide) (fun z => q1 (z.symm.trans e1))]
  by_cases q2 : v = 116
  · rw [if_pos q2, if_neg (show ¬ 2 = 9 by decide)]
    exact en 2 (by decide) (e2.trans q2.symm)
  rw [if_neg q2, go 2 (by decide) (fun z => q2 (z.symm.trans e2))]
  by_cases q3 : v = 98
  · rw [if_pos q3, if_neg (show ¬ 3 = 9 by decide)]
    exact en 3 (by decide) (e3.trans q3.symm)
  rw [if_neg q3, go 3 (by decide) (fun z => q3 (z.symm.trans e3))]
  by_cases q4 : v = 109
  · rw [if_pos q4, if_neg (show ¬ 4 = 9 by decide)]
    exact en 4 (by decide) (e4.trans q4.symm)
  rw [if_neg q4, go 4 (by decide) (fun z => q4 (z.symm.trans e4))]
  by_cases q5 : v = 99
  · rw [if_pos q5, if_neg (show ¬ 5 = 9 by decide)]
    exact en 5 (by decide) (e5.trans q5.symm)
  rw [if_neg q5, go 5 (by decide) (fun z => q5 (z.symm.trans e5)), if_pos rfl]
  exact l6
theorem par_all : ∀ k, k ≤ 5 → par1 k = nI (parN k) ∧ parN k < 6 := by decide
theorem stb_id {S x : Nat} : stb (stb S x true) x true = stb S x true := by
  have : (stb S x true).testBit x = true := by rw [stb_bit, if_pos rfl]
  unfold stb at this ⊢
  rw [if_pos this]
theorem ofK_addp {T : WT} {k j : Nat} : ofK (addp T k) j = if isK k j = true then stb (ofK T j) (tn T) true else ofK T j := by
  apply Nat.eq_of_testBit_eq
  intro z
  unfold ofK
  rw [setN_bit]
  have e : tk (addp T k) z = if z = tn T then k else tk T z := rfl
  have en : tn (addp T k) = tn T + 1 := rfl
  rw [e, en]
  by_cases q : isK k j = true
  · rw [if_pos q, stb_bit, setN_bit]
    by_cases r : z = tn T
    · rw [if_pos r, if_pos r, q]
      simp [r]
    · rw [if_neg r, if_neg r]
      have : decide (z < tn T + 1) = decide (z < tn T) := by
        by_cases s : z < tn T
        · simp [s, Nat.lt_succ_of_lt s]
        · simp [s, show ¬ z < tn T + 1 by omega]
      rw [this]
  · rw [if_neg q, setN_bit]
    by_cases r : z = tn T
    · rw [if_pos r]
      have q : isK k j = false := by simpa using q
      simp [r, q]
    · rw [if_neg r]
      have : decide (z < tn T + 1) = decide (z < tn T) := by
        by_cases s : z < tn T
        · simp [s, Nat.lt_succ_of_lt s]
        · simp [s, show ¬ z < tn T + 1 by omega]
      rw [this]
section
variable {M : Mm} {T : WT}
theorem addp_ok (h : RO M) (hC : CWd 45 T M) (hn : tn T < 8) {k : Nat} (hk : k ≤ 5) : ∃ M1, fX4_addPlace 45 (nI k) M = some ((), M1) ∧ CWd 45 (addp T k) M1 ∧ Off (fun c _ => 45 ≤ c ∧ c ≤ 56) M M1 := by
  obtain ⟨x, hx⟩ : ∃ x, x = tn T := ⟨_, rfl⟩
  have hx8 : x < 8 := by omega
  obtain ⟨p1, p2⟩ := par_all k hk
  have hl := (w_ln w45).2.2.2.1
  obtain ⟨M4, hM4⟩ : ∃ M4, M4 = wI (wI (wI (wI M 45 0 (nI (x + 1))) (45 + 1) x (nI k)) (45 + 3) x 0) (45 + 8) x 0 := ⟨_, rfl⟩
  have r4 : RO M4 := by rw [hM4]; exact h
  obtain ⟨M7, hM7⟩ : ∃ M7, M7 = wI (wI (wI M4 (45 + 5) x 0) (45 + 6) x 0) (45 + 7) x 0 := ⟨_, rfl⟩
  have r7 : RO M7 := by rw [hM7]; exact r4
  have f0 : M7.1 45 0 = nI (x + 1) := by
    rw [hM7, wI_at, if_neg (by omega), wI_at, if_neg (by omega), wI_at, if_neg (by omega), hM4, wI_at, if_neg (by omega), wI_at, if_neg (by omega), wI_at, if_neg (by omega), wI_at, if_pos ⟨rfl, rfl⟩]
  have f1 : M7.1 (45 + 1) x = nI k := by
    rw [hM7, wI_at, if_neg (by omega), wI_at, if_neg (by omega), wI_at, if_neg (by omega), hM4, wI_at, if_neg (by omega), wI_at, if_neg (by omega), wI_at, if_pos ⟨rfl, rfl⟩]
  have f3 : M7.1 (45 + 3) x = 0 := by
    rw [hM7, wI_at, if_neg (by omega), wI_at, if_neg (by omega), wI_at, if_neg (by omega), hM4, wI_at, if_neg (by omega), wI_at, if_pos ⟨rfl, rfl⟩]
  have f8 : M7.1 (45 + 8) x = 0 := by
    rw [hM7, wI_at, if_neg (by omega), wI_at, if_neg (by omega), wI_at, if_neg (by omega), hM4, wI_at, if_pos ⟨rfl, rfl⟩]
  have fm : ∀ m, m < 3 → M7.1 (45 + 5 + m) x = 0 := fun m hm => by
    rw [hM7, wI_at]
    by_cases q2 : m = 2
    · rw [if_pos (by omega)]
    rw [if_neg (by omega), wI_at]
    by_cases q1 : m = 1
    · rw [if_pos (by omega)]
    rw [if_neg (by omega), wI_at, if_pos (by omega)]
  have ff : ∀ c j, ¬ (c = 45 ∧ j = 0) → ¬ (j = x ∧ (c = 45 + 1 ∨ c = 45 + 3 ∨ c = 45 + 8 ∨ 50 ≤ c ∧ c ≤ 52)) → M7.1 c j = M.1 c j := fun c j a b => by
    rw [hM7, wI_at, if_neg (by omega), wI_at, if_neg (by omega), wI_at, if_neg (by omega), hM4, wI_at, if_neg (by omega), wI_at, if_neg (by omega), wI_at, if_neg (by omega), wI_at, if_neg (by omega)]
  have s0 : fX4_addPlace 45 (nI k) M = fnl gX4_addPlace (1, 45, nI k, nI x, nI 0, M4) := by
    unfold fX4_addPlace bX4_addPlace_0
    rw [gfI_e, hC.n, gfI_e, hC.n, pfI_e, np1, ← hx, wK (h.wI _ _ _) w45, st_w 8 (w_ln w45).1 hx8 (by decide), wB ((h.wI _ _ _).wI _ _ _) w45, st_w 8 (w_ln w45).2.2.1 hx8 (by decide), wS (((h.wI _ _ _).wI _ _ _).wI _ _ _) w45, st_w 8 (w_ln w45).2.2.2.2.1 hx8 (by decide), ← hM4, fen_l]
    rfl
  have st : ∀ m (M : Mm), m < 3 → RO M → gX4_addPlace (1, 45, nI k, nI x, nI m, M) = some (.inl (1, 45, nI k, nI x, nI (m + 1), wI M (45 + 5 + m) x 0)) := fun m M hm r => by
    show bX4_addPlace_38 45 (nI k) (nI x) (nI m) M = _
    unfold bX4_addPlace_38
    rw [show (3 : Int32) = nI 3 from rfl, if_neg (show ¬ nI 3 ≤ nI m by rw [nle_F (by omega) (by decide)]; exact id), wL r w45, wLr r w45 m rfl hm, st_w 8 (hl m hm) hx8 (by decide), np1]
  have s1 : fnl gX4_addPlace (1, 45, nI k, nI x, nI 0, M4) = fnl gX4_addPlace (1, 45, nI k, nI x, nI 3, M7) := by
    rw [hM7, fnl_in (st 0 M4 (by decide) r4), fnl_in (st 1 _ (by decide) (r4.wI _ _ _)), fnl_in (st 2 _ (by decide) ((r4.wI _ _ _).wI _ _ _))]
  have hof : ∀ j, j < 6 → M7.1 (45 + 2) j = nI (ofK T j) := fun j hj => by rw [ff _ _ (by omega) (by omega)]; exact hC.o hj
  have o8 : ∀ j, ofK T j < 256 := fun j => pow_lt8 (show tn T ≤ 8 by omega) (setN_lt _ _)
  have o8s : ∀ j, stb (ofK T j) x true < 256 := fun j => by
    have : ofK T j < 2 ^ 8 := o8 j
    exact stb_lt (n := 8) this hx8
  obtain ⟨s, hs⟩ : ∃ s : Nat → Int32, s = fun j => nI (stb (ofK T j) x true) := ⟨_, rfl⟩
  have or1 : ∀ j, nI (ofK T j) ||| ((1 : Int32) <<< (nI x &&& 31)) = s j := fun j => by rw [hs]; exact or_all _ (o8 j) x hx8
  have or2 : ∀ j, s j ||| ((1 : Int32) <<< (nI x &&& 31)) = s j := fun j => by
    rw [hs]
    have := or_all _ (o8s j) x hx8
    rw [stb_id] at this
    exact this
  obtain ⟨M8, hM8⟩ : ∃ M8, M8 = wI M7 (45 + 2) k (s k) := ⟨_, rfl⟩
  have r8 : RO M8 := by rw [hM8]; exact r7
  have g8 : ∀ j, j < 6 → M8.1 (45 + 2) j = if j = k then s j else nI (ofK T j) := fun j hj => by
    rw [hM8, wI_at]
    by_cases q : j = k
    · rw [if_pos ⟨rfl, q⟩, if_pos q, q]
    · rw [if_neg (fun z => q z.2), if_neg q]; exact hof j hj
  obtain ⟨M9, hM9⟩ : ∃ M9, M9 = wI M8 (45 + 2) (parN k) (s (parN k)) := ⟨_, rfl⟩
  have r9 : RO M9 := by rw [hM9]; exact r8
  have w9 : M8.1 (45 + 2) (parN k) ||| ((1 : Int32) <<< (nI x &&& 31)) = s (parN k) := by
    rw [g8 _ p2]
    by_cases q : parN k = k
    · rw [if_pos q]; exact or2 _
    · rw [if_neg q]; exact or1 _
  have g9 : ∀ j, j < 6 → M9.1 (45 + 2) j = if j = parN k ∨ j = k then s j else nI (ofK T j) := fun j hj => by
    rw [hM9, wI_at]
    by_cases q : j = parN k
    · rw [if_pos ⟨rfl, q⟩, if_pos (Or.inl q), q]
    · rw [if_neg (fun z => q z.2), g8 j hj]
      by_cases q2 : j = k
      · rw [if_pos q2, if_pos (Or.inr q2)]
      · rw [if_neg q2, if_neg (by omega)]
  obtain ⟨M10, hM10⟩ : ∃ M10, M10 = wI M9 (45 + 2) 0 (s 0) := ⟨_, rfl⟩
  have w10 : M9.1 (45 + 2) 0 ||| ((1 : Int32) <<< (nI x &&& 31)) = s 0 := by
    rw [g9 _ (by decide)]
    by_cases q : 0 = parN k ∨ 0 = k
    · rw [if_pos q]; exact or2 _
    · rw [if_neg q]; exact or1 _
  have g10 : ∀ j, j < 6 → M10.1 (45 + 2) j = if j = 0 ∨ j = parN k ∨ j = k then s j else nI (ofK T j) := fun j hj => by
    rw [hM10, wI_at]
    by_cases q : j = 0
    · rw [if_pos ⟨rfl, q⟩, if_pos (Or.inl q), q]
    · rw [if_neg (fun z => q z.2), g9 j hj]
      by_cases q2 : j = parN k ∨ j = k
      · rw [if_pos q2, if_pos (Or.inr q2)]
      · rw [if_neg q2, if_neg (by omega)]
  have gg : ∀ c j, c ≠ 45 + 2 → M10.1 c j = M7.1 c j := fun c j q => by rw [hM10, wI_at, if_neg (fun z => q z.1), hM9, wI_at, if_neg (fun z => q z.1), hM8, wI_at, if_neg (fun z => q z.1)]
  have s2 : fnl gX4_addPlace (1, 45, nI k, nI x, nI 3, M7) = some ((), M10) := by
    refine fnl_out ?_
    show bX4_addPlace_38 45 (nI k) (nI x) (nI 3) M7 = _
    unfold bX4_addPlace_38
    rw [if_pos (show (3 : Int32) ≤ nI 3 by decide), wO r7 w45, ldw2 w45 (by omega), st_w 6 (w_ln w45).2.1 (show k < 6 by omega) (by decide), hof k (by omega), or1, ← hM8, wO r8 w45, ldS_ok (show k < 6 by omega) (by decide), p1, ldw2 w45 p2, st_w 6 (w_ln w45).2.1 p2 (by decide), w9, ← hM9, wO r9 w45, show (0 : Int32) = nI 0 from rfl, ldw2 w45 (by decide), st_w 6 (w_ln w45).2.1 (show 0 < 6 by decide) (by decide), w10, ← hM10]
  refine ⟨M10, s0.trans (s1.trans s2), ⟨?_, ?_, ?_, fun y hy => ?_, fun j hj => ?_, fun y hy => ?_, fun m y hm hy => ?_, fun y hy => ?_, fun i hi => ?_, fun i hi => ?_, fun i hi => ?_⟩, fun c j q => ?_, ?_⟩
  · rw [gg _ _ (by omega), f0, hx]; rfl
  · rw [gg _ _ (by omega), ff _ _ (by omega) (by omega)]; exact hC.b
  · rw [gg _ _ (by omega), ff _ _ (by omega) (by omega)]; exact hC.s
  · have hy2 : y < tn T + 1 := hy
    show _ = nI (if y = tn T then k else tk T y)
    rw [gg _ _ (by omega)]
    by_cases q : y = tn T
    · rw [if_pos q, q, ← hx]; exact f1
    · rw [if_neg q, ff _ _ (by omega) (by omega)]; exact hC.k (by omega)
  · rw [g10 j hj, ofK_addp, ← hx, hs]
    have key : isK k j = true ↔ (j = 0 ∨ j = parN k ∨ j = k) := by
      unfold isK
      simp only [Bool.or_eq_true, beq_iff_eq]
      omega
    by_cases q : j = 0 ∨ j = parN k ∨ j = k
    · rw [if_pos q, if_pos (key.mpr q)]
    · rw [if_neg q, if_neg (fun z => q (key.mp z))]
  · have hy2 : y < tn T + 1 := hy
    show _ = nI (if y = tn T then 0 else te T y)
    rw [gg _ _ (by omega)]
    by_cases q : y = tn T
    · rw [if_pos q, q, ← hx]; exact f3
    · rw [if_neg q, ff _ _ (by omega) (by omega)]; exact hC.e (by omega)
  · have hy2 : y < tn T + 1 := hy
    show _ = nI (if y = tn T then 0 else tm T m y)
    rw [gg _ _ (by omega)]
    by_cases q : y = tn T
    · rw [if_pos q, q, ← hx]; exact fm m hm
    · rw [if_neg q, ff _ _ (by omega) (by omega)]; exact hC.2.2.2.2.2.2.1 m y hm (by omega)
  · have hy2 : y < tn T + 1 := hy
    show _ = if y = tn T then 0 else tw T y
    rw [gg _ _ (by omega)]
    by_cases q : y = tn T
    · rw [if_pos q, q, ← hx]; exact f8
    · rw [if_neg q, ff _ _ (by omega) (by omega)]; exact hC.w (by omega)
  · rw [gg _ _ (by omega), ff _ _ (by omega) (by omega)]; exact hC.p hi
  · rw [gg _ _ (by omega), ff _ _ (by omega) (by omega)]; exact hC.q hi
  · rw [gg _ _ (by omega), ff _ _ (by omega) (by omega)]; exact hC.z hi
  · rw [gg c j (by omega), ff c j (by omega) (by omega)]
  · rw [hM10, hM9, hM8, hM7, hM4]; rfl
end
section
variable {C n : Nat} {b : Nat → Int32} {p g c : Nat} {T : WT} {M M1 : Mm}
theorem item5 (h : CR C n b p g c T M) (hq : CQ C n) (hp : p < n) (hJ : JS n p g c T) : IR5 C n b M (itm b n p g c T) (fX0_readItem 4 45 M) := by
  obtain ⟨j1, j2, j3, j4, j5, j6, j7, hT⟩ := id hJ
  have hn8 := hT.1
  have hb4 := hT.2.1
  unfold fX0_readItem itm
  rw [h.sg hq, gfI_e, h.vp, h.ld hq hp]
  by_cases r1 : b p = 45
  · rw [if_pos r1, if_pos r1, gfI_e, h.vc]
    unfold bX0_readItem_33 bX0_readItem_51
    obtain ⟨r, hr, hr0⟩ : ∃ r : Int32, (if 14 ≤ nI c then (0 : Int32) else 1) = r ∧ (r = 0 ↔ 14 ≤ c) := by
      refine ⟨_, rfl, ?_⟩
      by_cases z : 14 ≤ c
      · rw [if_pos (show (14 : Int32) ≤ nI c from nI_le (a := 14) z (by omega))]; simp [z]
      · rw [if_neg (show ¬ (14 : Int32) ≤ nI c by rw [show (14 : Int32) = nI 14 from rfl, nle_F (by omega) (by decide)]; exact id)]; simp [z]
    have es := starts5 h j3 hn8 (s := 1) (by decide) (r := r)
    have es : fX0_startsItem 4 45 1 r M = _ := es
    have e2 : (if 14 ≤ nI c then (cal (fX0_startsItem 4 45 1 0 M) fun v10 M9 => if v10 = 0 then some ((0 : Int32), M9) else cal (fX0_readPath 4 45 M9) fun v12 M11 => if v12 = 0 then some (0, M11) else some (1, M11)) else (cal (fX0_startsItem 4 45 1 1 M) fun v10 M9 => if v10 = 0 then some (0, M9) else cal (fX0_readPath 4 45 M9) fun v12 M11 => if v12 = 0 then some (0, M11) else some (1, M11))) = (cal (fX0_startsItem 4 45 1 r M) fun v10 M9 => if v10 = 0 then some ((0 : Int32), M9) else cal (fX0_readPath 4 45 M9) fun v12 M11 => if v12 = 0 then some (0, M11) else some (1, M11)) := by
      rw [← hr]
      by_cases z : (14 : Int32) ≤ nI c
      · rw [if_pos z, if_pos z]
      · rw [if_neg z, if_neg z]
    rw [e2, es]
    unfold itP
    by_cases q3 : g = 3
    · rw [if_pos q3, if_pos (show tn T < 2 ∨ 1 < g ∨ r = 0 from Or.inr (Or.inl (by omega))), cal_ok, if_pos rfl]
      exact IR5.l h.vp Off.rf
    rw [if_neg q3]
    by_cases z : tn T < 2 ∨ 1 < g ∨ 14 ≤ c
    · rw [if_pos z, if_pos (show tn T < 2 ∨ 1 < g ∨ r = 0 by rw [hr0]; exact z), cal_ok, if_pos rfl]
      exact IR5.l h.vp Off.rf
    · rw [if_neg z, if_neg (show ¬ (tn T < 2 ∨ 1 < g ∨ r = 0) by rw [hr0]; exact z), cal_ok, if_neg (show ¬ (1 : Int32) = 0 by decide)]
      have h1 := h.st hq 1 (p + 1)
      have O1 : Off PR M (wI (wI M 4 3 (nI 1)) 4 2 (nI (p + 1))) := (Off.rf.wI (Or.inl ⟨rfl, by decide⟩)).wI (Or.inl ⟨rfl, by decide⟩)
      have i1 := path5 h1 hq (by omega) (hT.vt (by omega))
      refine IR5.mo O1 ?_
      cases hr : tlP b n (p + 1) c T with
      | inl q =>
        rw [hr] at i1
        obtain ⟨M2, e, e2, O2⟩ := i1
        rw [e, cal_ok, if_pos rfl]
        exact IR5.l e2 O2
      | inr S =>
        rw [hr] at i1
        obtain ⟨M2, e, e2, O2⟩ := i1
        rw [e, cal_ok, if_neg (show ¬ (1 : Int32) = 0 by decide)]
        exact ⟨M2, rfl, e2, O2⟩
  rw [if_neg r1, if_neg r1]
  by_cases r2 : b p = 118
  · rw [if_pos r2, if_pos r2, gfI_e, h.w.b]
    unfold bX0_readItem_75 bX0_readItem_93
    obtain ⟨r, hr, hr0⟩ : ∃ r : Int32, (if 4 ≤ nI (tb T) then (0 : Int32) else 1) = r ∧ (r = 0 ↔ 4 ≤ tb T) := by
      refine ⟨_, rfl, ?_⟩
      by_cases z : 4 ≤ tb T
      · rw [if_pos (show (4 : Int32) ≤ nI (tb T) from nI_le (a := 4) z (by omega))]; simp [z]
      · rw [if_neg (show ¬ (4 : Int32) ≤ nI (tb T) by rw [show (4 : Int32) = nI 4 from rfl, nle_F (by omega) (by decide)]; exact id)]; simp [z]
    have es := starts5 h j3 hn8 (s := 2) (by decide) (r := r)
    have es : fX0_startsItem 4 45 2 r M = _ := es
    have e2 : (if 4 ≤ nI (tb T) then (cal (fX0_startsItem 4 45 2 0 M) fun v10 M9 => if v10 = 0 then some ((0 : Int32), M9) else cal (fX0_readBird 4 45 M9) fun v12 M11 => if v12 = 0 then some (0, M11) else some (1, M11)) else (cal (fX0_startsItem 4 45 2 1 M) fun v10 M9 => if v10 = 0 then some (0, M9) else cal (fX0_readBird 4 45 M9) fun v12 M11 => if v12 = 0 then some (0, M11) else some (1, M11))) = (cal (fX0_startsItem 4 45 2 r M) fun v10 M9 => if v10 = 0 then some ((0 : Int32), M9) else cal (fX0_readBird 4 45 M9) fun v12 M11 => if v12 = 0 then some (0, M11) else some (1, M11)) := by
      rw [← hr]
      by_cases z : (4 : Int32) ≤ nI (tb T)
      · rw [if_pos z, if_pos z]
      · rw [if_neg z, if_neg z]
    rw [e2, es]
    unfold itB
    by_cases q3 : g = 3
    · rw [if_pos q3, if_pos (show tn T < 2 ∨ 2 < g ∨ r = 0 from Or.inr (Or.inl (by omega))), cal_ok, if_pos rfl]
      exact IR5.l h.vp Off.rf
    rw [if_neg q3]
    by_cases z : tn T < 2 ∨ 4 ≤ tb T
    · rw [if_pos z, if_pos (show tn T < 2 ∨ 2 < g ∨ r = 0 by rw [hr0]; omega), cal_ok, if_pos rfl]
      exact IR5.l h.vp Off.rf
    · rw [if_neg z, if_neg (show ¬ (tn T < 2 ∨ 2 < g ∨ r = 0) by rw [hr0]; omega), cal_ok, if_neg (show ¬ (1 : Int32) = 0 by decide)]
      have h1 := h.st hq 2 (p + 1)
      have O1 : Off PR M (wI (wI M 4 3 (nI 2)) 4 2 (nI (p + 1))) := (Off.rf.wI (Or.inl ⟨rfl, by decide⟩)).wI (Or.inl ⟨rfl, by decide⟩)
      have i1 := bird5 h1 hq (by omega) (by omega) hn8
      refine IR5.mo O1 ?_
      cases hr : tlB b n (p + 1) c T with
      | inl q =>
        rw [hr] at i1
        obtain ⟨M2, e, e2, O2⟩ := i1
        rw [e, cal_ok, if_pos rfl]
        exact IR5.l e2 O2
      | inr S =>
        rw [hr] at i1
        obtain ⟨M2, e, e2, O2⟩ := i1
        rw [e, cal_ok, if_neg (show ¬ (1 : Int32) = 0 by decide)]
        exact ⟨M2, rfl, e2, O2⟩
  rw [if_neg r2, if_neg r2]
  by_cases r3 : b p = 107
  · rw [if_pos r3, if_pos r3, gfI_e, h.vg]
    unfold bX0_readItem_117 bX0_readItem_135
    have es0 := starts5 h j3 hn8 (s := 3) (by decide) (r := 0)
    have es0 : fX0_startsItem 4 45 3 0 M = _ := es0
    have es1 := starts5 h j3 hn8 (s := 3) (by decide) (r := 1)
    have es1 : fX0_startsItem 4 45 3 1 M = _ := es1
    unfold itK
    by_cases q3 : g = 3
    · rw [if_pos q3, if_pos (show nI g = 3 by rw [q3]; rfl), es0, if_pos (show tn T < 2 ∨ 3 < g ∨ (0 : Int32) = 0 from Or.inr (Or.inr rfl)), cal_ok, if_pos rfl]
      exact IR5.l h.vp Off.rf
    rw [if_neg q3, if_neg (show ¬ nI g = 3 from fun z => q3 (nI_inj (b := 3) (by omega) (by decide) z)), es1]
    by_cases z : tn T < 2
    · rw [if_pos z, if_pos (show tn T < 2 ∨ 3 < g ∨ (1 : Int32) = 0 from Or.inl z), cal_ok, if_pos rfl]
      exact IR5.l h.vp Off.rf
    · rw [if_neg z, if_neg (show ¬ (tn T < 2 ∨ 3 < g ∨ (1 : Int32) = 0) from fun w => by
        rcases w with w | w | w
        · exact z w
        · omega
        · exact absurd w (by decide)), cal_ok, if_neg (show ¬ (1 : Int32) = 0 by decide)]
      have h1 := h.st hq 3 (p + 1)
      have O1 : Off PR M (wI (wI M 4 3 (nI 3)) 4 2 (nI (p + 1))) := (Off.rf.wI (Or.inl ⟨rfl, by decide⟩)).wI (Or.inl ⟨rfl, by decide⟩)
      have i1 := pockets5 h1 hq (by omega)
      refine IR5.mo O1 ?_
      cases hr : tlK b n (p + 1) c T with
      | inl q =>
        rw [hr] at i1
        obtain ⟨M2, e, e2, O2⟩ := i1
        rw [e, cal_ok, if_pos rfl]
        exact IR5.l e2 O2
      | inr S =>
        rw [hr] at i1
        obtain ⟨M2, e, e2, O2⟩ := i1
        rw [e, cal_ok, if_neg (show ¬ (1 : Int32) = 0 by decide)]
        exact ⟨M2, rfl, e2, O2⟩
  rw [if_neg r3, if_neg r3, kind5, cal_ok]
  unfold bX0_readItem_164 itL
  by_cases z1 : kdN (b p) = 9
  · rw [if_pos z1, if_pos rfl, if_pos (Or.inl z1)]
    by_cases q3 : g = 3
    · rw [if_pos q3]; exact IR5.l h.vp Off.rf
    · rw [if_neg q3]; exact IR5.l h.vp Off.rf
  have hk := kd_le z1
  rw [if_neg z1, if_neg (nI_n9 (by omega)), gfI_e, h.vg]
  by_cases z2 : g = 0
  · rw [if_neg (show ¬ g = 3 by omega), if_pos (show nI g = 0 by rw [z2]; rfl), gfI_e, h.w.n]
    by_cases z3 : 8 ≤ tn T
    · rw [if_neg (show ¬ nI (tn T) < 8 by rw [show (8 : Int32) = nI 8 from rfl, nlt_F z3 (by omega)]; exact id), if_pos (Or.inr (Or.inr z3))]
      exact IR5.l h.vp Off.rf
    · obtain ⟨M2, e2, hC2, O2⟩ := addp_ok h.ro h.w (by omega) hk
      have Oa := O2
      have O2 : Off PR M M2 := O2.mo (fun c j z => Or.inr z)
      have v2 : M2.1 4 2 = nI p := by rw [Oa.1 4 2 (by omega)]; exact h.vp
      have h2 := h.of (p1 := p) (g1 := 0) (c1 := c) hq O2 v2 (by rw [Oa.1 4 3 (by omega), h.vg, z2]) (by rw [Oa.1 4 4 (by omega)]; exact h.vc) hC2
      have h3 := h2.sp hq (p + 1)
      rw [if_pos (show nI (tn T) < 8 by rw [show (8 : Int32) = nI 8 from rfl, nlt_T (by omega) (by decide)]; trivial), e2, cal_ok, gfI_e, v2, pfI_e, np1, if_neg (show ¬ (kdN (b p) = 9 ∨ g ≠ 0 ∨ 8 ≤ tn T) by omega)]
      exact IR5.r h3 (O2.wI (Or.inl ⟨rfl, by decide⟩))
  · rw [if_neg (show ¬ nI g = 0 from nI_ne0 (by omega) (by omega)), if_pos (Or.inr (Or.inl z2))]
    by_cases q3 : g = 3
    · rw [if_pos q3]; exact IR5.l h.vp Off.rf
    · rw [if_neg q3]; exact IR5.l h.vp Off.rf
end

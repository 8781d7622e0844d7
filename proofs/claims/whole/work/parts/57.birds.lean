/-! BIRDS: what they eat, how they fly on, hours -/
def rchT (T : WT) (x : Nat) : Nat := setN (fun y => y == x || (isK (tk T x) 1 && (te T x).testBit y && !isK (tk T y) 2)) (tn T)
def crN (T : WT) (S : Nat) : Nat → Nat
  | 0 => 0
  | k + 1 => crN T S k + if S.testBit k then tm T 0 k else 0
def clrT (T : WT) (S k : Nat) : WT := (tn T, tb T, tk T, ts T, te T, fun m x => if m = 0 ∧ x < k ∧ S.testBit x then 0 else tm T m x, tw T, tp T, tq T, tz T)
def bdT (T : WT) (i : Nat) : WT := setp (clrT T (rchT T (tp T i)) (tn T)) i (flN (te T (tp T i)) (tp T i))
def bdE (T : WT) (i : Nat) : Nat := crN T (rchT T (tp T i)) (tn T)
def hbT (T : WT) : Nat → WT
  | 0 => T
  | k + 1 => bdT (hbT T k) k
def hbE (T : WT) : Nat → Nat
  | 0 => 0
  | k + 1 => hbE T k + bdE (hbT T k) k
def hsT (T : WT) : Nat → WT
  | 0 => T
  | n + 1 => hbT (hsT T n) (tb T)
def hsE (T : WT) : Nat → Nat
  | 0 => 0
  | n + 1 => hsE T n + hbE (hsT T n) (tb T)
theorem rch_lt (T : WT) (x : Nat) : rchT T x < 2 ^ tn T := setN_lt _ _
theorem clrT_0 {T : WT} {S : Nat} : clrT T S 0 = T := by
  unfold clrT
  have : (fun m x => if m = 0 ∧ x < 0 ∧ S.testBit x then 0 else tm T m x) = tm T := by
    funext m x
    rw [if_neg (by omega)]
  rw [this]
  rfl
theorem clrT_s {T : WT} {S k : Nat} : clrT T S (k + 1) = if S.testBit k then setm (clrT T S k) 0 k 0 else clrT T S k := by
  have e : (fun m x => if m = 0 ∧ x < k + 1 ∧ S.testBit x then 0 else tm T m x) = if S.testBit k then (fun m x => if m = 0 ∧ x = k then 0 else (fun m x => if m = 0 ∧ x < k ∧ S.testBit x then 0 else tm T m x) m x) else (fun m x => if m = 0 ∧ x < k ∧ S.testBit x then 0 else tm T m x) := by
    by_cases hS : S.testBit k = true
    · rw [if_pos hS]
      funext m x
      show _ = if m = 0 ∧ x = k then 0 else if m = 0 ∧ x < k ∧ S.testBit x then 0 else tm T m x
      by_cases q : m = 0 ∧ x = k
      · rw [if_pos q, if_pos ⟨q.1, by omega, by rw [q.2]; exact hS⟩]
      · rw [if_neg q]
        by_cases r : m = 0 ∧ x < k ∧ S.testBit x = true
        · rw [if_pos r, if_pos ⟨r.1, by omega, r.2.2⟩]
        · rw [if_neg r, if_neg (fun z => r ⟨z.1, by omega, z.2.2⟩)]
    · rw [if_neg hS]
      funext m x
      by_cases r : m = 0 ∧ x < k ∧ S.testBit x = true
      · rw [if_pos r, if_pos ⟨r.1, by omega, r.2.2⟩]
      · rw [if_neg r, if_neg (fun z => r ⟨z.1, by
          have : x ≠ k := fun e => hS (by rw [← e]; exact z.2.2)
          omega, z.2.2⟩)]
  by_cases hS : S.testBit k = true
  · rw [if_pos hS] at e ⊢
    unfold clrT
    rw [e]
    rfl
  · rw [if_neg hS] at e ⊢
    unfold clrT
    rw [e]
theorem setm_id {T : WT} {m x : Nat} : setm T m x (tm T m x) = T := by
  unfold setm
  have : (fun m1 x1 => if m1 = m ∧ x1 = x then tm T m x else tm T m1 x1) = tm T := by
    funext m1 x1
    by_cases q : m1 = m ∧ x1 = x
    · rw [if_pos q, q.1, q.2]
    · rw [if_neg q]
  rw [this]
  rfl
section
variable {M : Mm} {a : Nat} {T : WT}
theorem reach_ok (h : RO M) (hw : isW a) (hC : CWd a T M) (hV : VT T) {x : Nat} (hx : x < tn T) : fX4_reachFrom a (nI x) M = some (nI (rchT T x), M) := by
  have hn8 := hV.n8
  have e8 := hV.e8 hx
  have hK : ofK T 2 < 2 ^ tn T := setN_lt _ _
  have i1 := isOf_ok h hw hC hn8 hx (k := 1) (by decide)
  rw [show nI 1 = (1 : Int32) from rfl] at i1
  unfold fX4_reachFrom
  rw [shl1 x (by omega), ltI_e, i1, cal_ok]
  by_cases q : isK (tk T x) 1 = true
  · rw [if_pos q, show (2 : Int32) = nI 2 from rfl]
    simp (disch := first | assumption | omega | decide) only [↓reduceIte, ↓gfI_e, ↓pfI_e, ↓gfJ_e, ↓pfJ_e, ↓ltI_e, ↓ltJ_e, ↓cal_ok, ↓rz0, ↓rz1, ↓g33, ↓g45, ↓wK, ↓wO, ↓wB, ↓wL, ↓wS, ↓wP, ↓wQ, ↓wY, ↓wL0, ↓wL1, ↓wL2, ↓r93_95, ↓r93_96, ↓r93_98, ↓r93_99, ↓r93_100, ↓r93_101, ↓r93_106, ↓r93_107, ↓ldw1, ↓ldw2, ↓ldw3, ↓ldw5, ↓ldw6, ↓ldw7, ↓ldw8, ↓ldw9, ↓ldw10, ↓ldw11, ↓ld100, ↓ld101, ↓ld106, ↓ld107, nle_F, nle_T, nlt_F, nlt_T, neq_F, neq_T, nle0_T, nle0_F, nlt0_F, n0lt_T, n0lt_F, n0le_T, n1_eq0, n0_eq0, n0_eq1, n1_eq1, np1, hC.e, hC.o, nI_dif, nI_or]
    congr 3
    refine set_ext (n := tn T) (Nat.or_lt_two_pow (pow_lt hx) (dif_lt (hV.en hx))) (rch_lt _ _) (fun y hy => ?_)
    unfold rchT ofK
    rw [Nat.testBit_or, Nat.testBit_two_pow, dif_bit (by omega), setN_bit, setN_bit, q]
    by_cases hxy : x = y
    · simp [hy, hxy]
    · simp [hy, hxy, show ¬ y = x from fun e => hxy e.symm]
  · rw [if_neg q, if_pos rfl]
    congr 3
    refine set_ext (n := tn T) (pow_lt hx) (rch_lt _ _) (fun y hy => ?_)
    unfold rchT
    rw [Nat.testBit_two_pow, setN_bit, show isK (tk T x) 1 = false by simpa using q]
    by_cases hxy : x = y
    · simp [hy, hxy]
    · simp [hy, hxy, show ¬ y = x from fun e => hxy e.symm]
theorem crumbs5_ok (h : RO M) (hw : isW a) (hC : CWd a T M) (hV : VT T) {S : Nat} (hS : S < 256) : fX4_crumbsOn a (nI S) M = some (nI (crN T S (tn T)), M) := by
  have hn8 := hV.n8
  unfold fX4_crumbsOn bX4_crumbsOn_0
  rw [fen_l]
  refine fnl_loop (fun k => (1, a, nI S, nI (crN T S k), nI k, M)) (tn T) (fun k hk => ?_) ?_
  · show bX4_crumbsOn_4 a (nI S) (nI (crN T S k)) (nI k) M = some (Sum.inl (1, a, nI S, nI (crN T S k + if S.testBit k then tm T 0 k else 0), nI (k + 1), M))
    unfold bX4_crumbsOn_4 bX4_crumbsOn_32
    rw [bit_if hS (by omega)]
    by_cases q : S.testBit k = true
    · simp (disch := first | assumption | omega | decide) only [↓reduceIte, ↓gfI_e, ↓pfI_e, ↓gfJ_e, ↓pfJ_e, ↓ltI_e, ↓ltJ_e, ↓cal_ok, ↓rz0, ↓rz1, ↓g33, ↓g45, ↓wK, ↓wO, ↓wB, ↓wL, ↓wS, ↓wP, ↓wQ, ↓wY, ↓wL0, ↓wL1, ↓wL2, ↓r93_95, ↓r93_96, ↓r93_98, ↓r93_99, ↓r93_100, ↓r93_101, ↓r93_106, ↓r93_107, ↓ldw1, ↓ldw2, ↓ldw3, ↓ldw5, ↓ldw6, ↓ldw7, ↓ldw8, ↓ldw9, ↓ldw10, ↓ldw11, ↓ld100, ↓ld101, ↓ld106, ↓ld107, nle_F, nle_T, nlt_F, nlt_T, neq_F, neq_T, nle0_T, nle0_F, nlt0_F, n0lt_T, n0lt_F, n0le_T, n1_eq0, n0_eq0, n0_eq1, n1_eq1, np1, hC.n, hC.m0, q, nI_pl]
    · simp (disch := first | assumption | omega | decide) only [↓reduceIte, ↓gfI_e, ↓pfI_e, ↓gfJ_e, ↓pfJ_e, ↓ltI_e, ↓ltJ_e, ↓cal_ok, ↓rz0, ↓rz1, ↓g33, ↓g45, ↓wK, ↓wO, ↓wB, ↓wL, ↓wS, ↓wP, ↓wQ, ↓wY, ↓wL0, ↓wL1, ↓wL2, ↓r93_95, ↓r93_96, ↓r93_98, ↓r93_99, ↓r93_100, ↓r93_101, ↓r93_106, ↓r93_107, ↓ldw1, ↓ldw2, ↓ldw3, ↓ldw5, ↓ldw6, ↓ldw7, ↓ldw8, ↓ldw9, ↓ldw10, ↓ldw11, ↓ld100, ↓ld101, ↓ld106, ↓ld107, nle_F, nle_T, nlt_F, nlt_T, neq_F, neq_T, nle0_T, nle0_F, nlt0_F, n0lt_T, n0lt_F, n0le_T, n1_eq0, n0_eq0, n0_eq1, n1_eq1, np1, hC.n, q, Bool.false_eq_true, Nat.add_zero]
  · show bX4_crumbsOn_4 a (nI S) (nI (crN T S (tn T))) (nI (tn T)) M = _
    unfold bX4_crumbsOn_4
    simp (disch := first | assumption | omega | decide) only [↓reduceIte, ↓gfI_e, ↓pfI_e, ↓gfJ_e, ↓pfJ_e, ↓ltI_e, ↓ltJ_e, ↓cal_ok, ↓rz0, ↓rz1, ↓g33, ↓g45, ↓wK, ↓wO, ↓wB, ↓wL, ↓wS, ↓wP, ↓wQ, ↓wY, ↓wL0, ↓wL1, ↓wL2, ↓r93_95, ↓r93_96, ↓r93_98, ↓r93_99, ↓r93_100, ↓r93_101, ↓r93_106, ↓r93_107, ↓ldw1, ↓ldw2, ↓ldw3, ↓ldw5, ↓ldw6, ↓ldw7, ↓ldw8, ↓ldw9, ↓ldw10, ↓ldw11, ↓ld100, ↓ld101, ↓ld106, ↓ld107, nle_F, nle_T, nlt_F, nlt_T, neq_F, neq_T, nle0_T, nle0_F, nlt0_F, n0lt_T, n0lt_F, n0le_T, n1_eq0, n0_eq0, n0_eq1, n1_eq1, np1, hC.n]
theorem CWd.setp (hC : CWd a T M) {i v : Nat} : CWd a (setp T i v) (wI M (a + 9) i (nI v)) := by
  obtain ⟨h0, h1, h2, h3, h4, h5, h6, h7, h8, h9, h10⟩ := hC
  refine ⟨by rw [wI_at, if_neg (by omega)]; exact h0, by rw [wI_at, if_neg (by omega)]; exact h1, by rw [wI_at, if_neg (by omega)]; exact h2, fun y hy => by rw [wI_at, if_neg (by omega)]; exact h3 y hy, fun k hk => by rw [wI_at, if_neg (by omega)]; exact h4 k hk, fun y hy => by rw [wI_at, if_neg (by omega)]; exact h5 y hy, fun m1 y hm1 hy => by rw [wI_at, if_neg (by omega)]; exact h6 m1 y hm1 hy, fun y hy => by rw [wI_at, if_neg (by omega)]; exact h7 y hy, fun j hj => ?_, fun i hi => by rw [wI_at, if_neg (by omega)]; exact h9 i hi, fun i hi => by rw [wI_at, if_neg (by omega)]; exact h10 i hi⟩
  show _ = nI (if j = i then v else tp T j)
  by_cases q : j = i
  · rw [if_pos q, wI_at, if_pos (by omega)]
  · rw [if_neg q, wI_at, if_neg (by omega)]
    exact h8 j hj
theorem RVd.setm {f : Nat} (hW : RVd f T M) (hV : VT T) {m x v : Nat} (hm : m < 3) (hx : x < 8) : RVd f (setm T m x v) (wI M 106 (39 * f + 8 * m + x) (nI v)) := by
  have hn := hV.n8
  have hb := hV.b4
  obtain ⟨h0, h1, h3, h4, h5, h6, h7, h8⟩ := hW
  refine ⟨h0, h1, h3, h4, fun m1 y hm1 hy => ?_, fun y hy => by rw [wI_at, if_neg (by have : y < tn T := hy; omega)]; exact h6 y hy, fun i hi => by rw [wI_at, if_neg (by omega)]; exact h7 i hi, fun i hi => by rw [wI_at, if_neg (by omega)]; exact h8 i hi⟩
  have hy2 : y < tn T := hy
  show _ = nI (if m1 = m ∧ y = x then v else tm T m1 y)
  by_cases q : m1 = m ∧ y = x
  · rw [if_pos q, wI_at, if_pos (by omega)]
  · rw [if_neg q, wI_at, if_neg (by omega)]
    exact h5 m1 y hm1 hy
theorem RVd.setp {f : Nat} (hW : RVd f T M) (hV : VT T) {i v : Nat} (hi : i < 4) : RVd f (setp T i v) (wI M 106 (39 * f + 32 + i) (nI v)) := by
  have hn := hV.n8
  have hb := hV.b4
  obtain ⟨h0, h1, h3, h4, h5, h6, h7, h8⟩ := hW
  refine ⟨h0, h1, h3, h4, fun m1 y hm1 hy => by have : y < tn T := hy; rw [wI_at, if_neg (by omega)]; exact h5 m1 y hm1 hy, fun y hy => by rw [wI_at, if_neg (by have : y < tn T := hy; omega)]; exact h6 y hy, fun j hj => ?_, fun j hj => by rw [wI_at, if_neg (by omega)]; exact h8 j hj⟩
  show _ = nI (if j = i then v else tp T j)
  by_cases q : j = i
  · rw [if_pos q, wI_at, if_pos (by omega)]
  · rw [if_neg q, wI_at, if_neg (by omega)]
    exact h7 j hj
theorem VT.clr (hV : VT T) {S k : Nat} : VT (clrT T S k) := by
  obtain ⟨h1, h2, h3, h4, h5, h6, h7, h8, h9, h10, h11, h12⟩ := hV
  refine ⟨h1, h2, h3, h4, h5, h6, h7, h8, fun m y hm hy => ?_, h10, h11, h12⟩
  have := h9 m y hm hy
  show (if m = 0 ∧ y < k ∧ S.testBit y then 0 else tm T m y) + tq T m ≤ 29
  by_cases q : m = 0 ∧ y < k ∧ S.testBit y = true
  · rw [if_pos q]; omega
  · rw [if_neg q]; exact this
theorem VT.setp (hV : VT T) {i v : Nat} (hv : v < tn T) : VT (setp T i v) := by
  obtain ⟨h1, h2, h3, h4, h5, h6, h7, h8, h9, h10, h11, h12⟩ := hV
  refine ⟨h1, h2, h3, h4, h5, h6, h7, h8, h9, h10, fun j hj => ?_, h12⟩
  show (if j = i then v else tp T j) < tn T
  by_cases q : j = i
  · rw [if_pos q]; exact hv
  · rw [if_neg q]; exact h11 j hj
theorem fl_n (hV : VT T) {x : Nat} (hx : x < tn T) : flN (te T x) x < tn T := fl_lt _ hV.n8 _ (hV.en hx) _ hx
theorem VT.bd (hV : VT T) {i : Nat} (hi : i < tb T) : VT (bdT T i) := VT.setp (T := clrT T _ _) hV.clr (fl_n hV (hV.p8 hi))
theorem clear_ok (h : RO M) (hw : isW a) (hC : CWd a T M) (hV : VT T) {S : Nat} (hS : S < 256) : ∃ M1, fX4_clearCrumbs a (nI S) M = some ((), M1) ∧ CWd a (clrT T S (tn T)) M1 ∧ Off (fun c _ => c = a + 5) M M1 := by
  have hn8 := hV.n8
  unfold fX4_clearCrumbs bX4_clearCrumbs_0
  rw [fen_l]
  have key : ∃ r, fnl gX4_clearCrumbs (1, a, nI S, 0, M) = some r ∧ (CWd a (clrT T S (tn T)) r.2 ∧ Off (fun c _ => c = a + 5) M r.2) := by
    refine fnl_inv (g := gX4_clearCrumbs) (fun k s => ∃ M1, s = (1, a, nI S, nI k, M1) ∧ CWd a (clrT T S k) M1 ∧ Off (fun c _ => c = a + 5) M M1) (tn T) (fun r => CWd a (clrT T S (tn T)) r.2 ∧ Off (fun c _ => c = a + 5) M r.2) (fun k s hk hI => ?_) (fun s hI => ?_) 0 (Nat.zero_le _) (1, a, nI S, 0, M) ⟨M, rfl, by rw [clrT_0]; exact hC, Off.rf⟩
    · obtain ⟨M1, rfl, hC1, hO⟩ := hI
      have h1 := hO.ro h
      left
      by_cases q : S.testBit k = true
      · refine ⟨(1, a, nI S, nI (k + 1), wI M1 (a + 5) k (nI 0)), ?_, wI M1 (a + 5) k (nI 0), rfl, ?_, hO.wI rfl⟩
        · show bX4_clearCrumbs_2 a (nI S) (nI k) M1 = _
          unfold bX4_clearCrumbs_2 bX4_clearCrumbs_28
          rw [bit_if hS (by omega)]
          have hn : M1.1 a 0 = nI (tn T) := hC1.n
          simp (disch := first | assumption | omega | decide) only [↓reduceIte, ↓gfI_e, ↓pfI_e, ↓gfJ_e, ↓pfJ_e, ↓ltI_e, ↓ltJ_e, ↓cal_ok, ↓rz0, ↓rz1, ↓g33, ↓g45, ↓wK, ↓wO, ↓wB, ↓wL, ↓wS, ↓wP, ↓wQ, ↓wY, ↓wL0, ↓wL1, ↓wL2, ↓r93_95, ↓r93_96, ↓r93_98, ↓r93_99, ↓r93_100, ↓r93_101, ↓r93_106, ↓r93_107, ↓ldw1, ↓ldw2, ↓ldw3, ↓ldw5, ↓ldw6, ↓ldw7, ↓ldw8, ↓ldw9, ↓ldw10, ↓ldw11, ↓ld100, ↓ld101, ↓ld106, ↓ld107, nle_F, nle_T, nlt_F, nlt_T, neq_F, neq_T, nle0_T, nle0_F, nlt0_F, n0lt_T, n0lt_F, n0le_T, n1_eq0, n0_eq0, n0_eq1, n1_eq1, np1, hn, q, stw5]
          rfl
        · rw [clrT_s, if_pos q]
          exact hC1.setm (m := 0) (by decide)
      · refine ⟨(1, a, nI S, nI (k + 1), M1), ?_, M1, rfl, ?_, hO⟩
        · show bX4_clearCrumbs_2 a (nI S) (nI k) M1 = _
          unfold bX4_clearCrumbs_2 bX4_clearCrumbs_28
          rw [bit_if hS (by omega)]
          have hn : M1.1 a 0 = nI (tn T) := hC1.n
          simp (disch := first | assumption | omega | decide) only [↓reduceIte, ↓gfI_e, ↓pfI_e, ↓gfJ_e, ↓pfJ_e, ↓ltI_e, ↓ltJ_e, ↓cal_ok, ↓rz0, ↓rz1, ↓g33, ↓g45, ↓wK, ↓wO, ↓wB, ↓wL, ↓wS, ↓wP, ↓wQ, ↓wY, ↓wL0, ↓wL1, ↓wL2, ↓r93_95, ↓r93_96, ↓r93_98, ↓r93_99, ↓r93_100, ↓r93_101, ↓r93_106, ↓r93_107, ↓ldw1, ↓ldw2, ↓ldw3, ↓ldw5, ↓ldw6, ↓ldw7, ↓ldw8, ↓ldw9, ↓ldw10, ↓ldw11, ↓ld100, ↓ld101, ↓ld106, ↓ld107, nle_F, nle_T, nlt_F, nlt_T, neq_F, neq_T, nle0_T, nle0_F, nlt0_F, n0lt_T, n0lt_F, n0le_T, n1_eq0, n0_eq0, n0_eq1, n1_eq1, np1, hn, q, Bool.false_eq_true]
        · rw [clrT_s, if_neg q]
          exact hC1
    · obtain ⟨M1, rfl, hC1, hO⟩ := hI
      refine ⟨((), M1), ?_, hC1, hO⟩
      show bX4_clearCrumbs_2 a (nI S) (nI (tn T)) M1 = _
      unfold bX4_clearCrumbs_2
      have hn : M1.1 a 0 = nI (tn T) := hC1.n
      simp (disch := first | assumption | omega | decide) only [↓reduceIte, ↓gfI_e, ↓pfI_e, ↓gfJ_e, ↓pfJ_e, ↓ltI_e, ↓ltJ_e, ↓cal_ok, ↓rz0, ↓rz1, ↓g33, ↓g45, ↓wK, ↓wO, ↓wB, ↓wL, ↓wS, ↓wP, ↓wQ, ↓wY, ↓wL0, ↓wL1, ↓wL2, ↓r93_95, ↓r93_96, ↓r93_98, ↓r93_99, ↓r93_100, ↓r93_101, ↓r93_106, ↓r93_107, ↓ldw1, ↓ldw2, ↓ldw3, ↓ldw5, ↓ldw6, ↓ldw7, ↓ldw8, ↓ldw9, ↓ldw10, ↓ldw11, ↓ld100, ↓ld101, ↓ld106, ↓ld107, nle_F, nle_T, nlt_F, nlt_T, neq_F, neq_T, nle0_T, nle0_F, nlt0_F, n0lt_T, n0lt_F, n0le_T, n1_eq0, n0_eq0, n0_eq1, n1_eq1, np1, hn]
  obtain ⟨r, e, hr⟩ := key
  exact ⟨r.2, e, hr.1, hr.2⟩
end

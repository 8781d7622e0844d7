/-! HOURS, with a stone more on some places -/
def VX (T : WT) : Prop := (tn T = 0 ∧ tb T = 0 ∧ ts T = 0 ∧ (∀ m, m < 3 → tq T m = 0) ∨ 2 ≤ tn T ∧ ∀ i, i ≤ ts T → tz T i < tn T) ∧ tn T ≤ 8 ∧ tb T ≤ 4 ∧ ts T ≤ 30 ∧ (∀ x, x < tn T → tk T x ≤ 5) ∧ (∀ x, x < tn T → te T x < 2 ^ tn T) ∧ (∀ x y, x < tn T → y < tn T → (te T x).testBit y = (te T y).testBit x) ∧ (∀ x, x < tn T → (te T x).testBit x = false) ∧ (∀ m x, m < 3 → x < tn T → tm T m x + tq T m ≤ 30) ∧ (∀ m, m < 3 → tq T m ≤ 9) ∧ (∀ i, i < tb T → tp T i < tn T) ∧ tz T 0 = 0
section
variable {M : Mm} {T : WT} {x : Nat}
theorem VX.n8 (h : VX T) : tn T ≤ 8 := h.2.1
theorem VX.b4 (h : VX T) : tb T ≤ 4 := h.2.2.1
theorem VX.k5 (h : VX T) (hx : x < tn T) : tk T x ≤ 5 := h.2.2.2.2.1 x hx
theorem VX.e8 (h : VX T) (hx : x < tn T) : te T x < 256 := pow_lt8 h.n8 (h.2.2.2.2.2.1 x hx)
theorem VX.en (h : VX T) (hx : x < tn T) : te T x < 2 ^ tn T := h.2.2.2.2.2.1 x hx
theorem VX.p8 (h : VX T) (hx : x < tb T) : tp T x < tn T := h.2.2.2.2.2.2.2.2.2.2.1 x hx
theorem VX.mk {m : Nat} (h : VX T) (hm : m < 3) (hx : x < tn T) : tm T m x + tq T m ≤ 30 := h.2.2.2.2.2.2.2.2.1 m x hm hx
theorem VX.vw (h : VX T) : VW T := ⟨h.n8, fun _ hx => h.k5 hx, fun _ hx => h.en hx, fun _ _ hm hx => by have := h.mk hm hx; omega⟩
end
section
variable {M : Mm} {T : WT}
theorem rv_setp2 {f : Nat} (hW : RVd f T M) (hn : tn T ≤ 8) (hb : tb T ≤ 4) {i v : Nat} (hi : i < 4) : RVd f (setp T i v) (wI M 106 (39 * f + 32 + i) (nI v)) := by
  obtain ⟨h0, h1, h3, h4, h5, h6, h7, h8⟩ := hW
  refine ⟨h0, h1, h3, h4, fun m1 y hm1 hy => by have : y < tn T := hy; rw [wI_at, if_neg (by omega)]; exact h5 m1 y hm1 hy, fun y hy => by rw [wI_at, if_neg (by have : y < tn T := hy; omega)]; exact h6 y hy, fun j hj => ?_, fun j hj => by rw [wI_at, if_neg (by omega)]; exact h8 j hj⟩
  show _ = nI (if j = i then v else tp T j)
  by_cases q : j = i
  · rw [if_pos q, wI_at, if_pos (by omega)]
  · rw [if_neg q, wI_at, if_neg (by omega)]
    exact h7 j hj
theorem nextX_ok (h : RO M) {f : Nat} (hW : RVd f T M) (hV : VX T) {x : Nat} (hx : x < tn T) : fX6_nextOf 93 (nI x) M = some (nI (flN (te T x) x), M) := by
  have hn8 := hV.n8
  have he := hV.2.2.2.2.2.1 x hx
  have he8 : te T x < 256 := pow_lt8 hn8 he
  have hir := hV.2.2.2.2.2.2.2.1 x hx
  have ea := nx_all _ hn8 _ he x hx hir
  have ld : ∀ {α : Type} (K : Int32 → Option α), ldI M 101 (nI x) K = K (nI (te T x)) := fun K => by rw [ld_w 8 (show ln 101 = 8 from rfl) (by omega) (by decide), hW.2.2.2.1 x hx]
  unfold fX6_nextOf bX6_nextOf_0
  rw [gfI_e, hW.1, ltI_e]
  show fnl gX6_nextOf (1, 93, nI x, -9, nI (tn T) - 1, M) = _
  have l1 : fnl gX6_nextOf (1, 93, nI x, -9, nI (tn T) - 1, M) = fnl gX6_nextOf (1, 93, nI x, nx1 (tn T) (te T x) x (tn T), nI (tn T - tn T) - 1, M) := by
    refine fnl_up (fun j => (1, 93, nI x, nx1 (tn T) (te T x) x j, nI (tn T - j) - 1, M)) (tn T) (fun j hj => ?_)
    show bX6_nextOf_10 93 (nI x) (nx1 (tn T) (te T x) x j) (nI (tn T - j) - 1) M = _
    unfold bX6_nextOf_10 bX6_nextOf_36 bX6_nextOf_37
    rw [dn_pred hj hn8, if_neg (nI_pos (by omega)), gR h 0 93 13 101 (by decide), ld, has_ok he8 (by omega), cal_ok, dn_step hj hn8]
    show _ = some (Sum.inl (1, 93, nI x, (if (te T x).testBit (tn T - 1 - j) ∧ x < tn T - 1 - j then nI (tn T - 1 - j) else nx1 (tn T) (te T x) x j), nI (tn T - (j + 1)) - 1, M))
    by_cases q : (te T x).testBit (tn T - 1 - j) = true
    · rw [if_pos q, if_neg (by decide)]
      by_cases r : x < tn T - 1 - j
      · rw [if_neg (nI_ge r (by omega)), if_pos ⟨q, r⟩]
      · rw [if_pos (nI_le (by omega) (by omega)), if_neg (fun z => r z.2)]
    · rw [if_neg q, if_pos rfl, if_neg (fun z => q z.1)]
  rw [l1]
  have l2 : fnl gX6_nextOf (1, 93, nI x, nx1 (tn T) (te T x) x (tn T), nI (tn T - tn T) - 1, M) = fnl gX6_nextOf (2, 93, nI x, nx1 (tn T) (te T x) x (tn T), nI (tn T) - 1, M) := by
    refine fnl_in ?_
    show bX6_nextOf_10 93 (nI x) (nx1 (tn T) (te T x) x (tn T)) (nI (tn T - tn T) - 1) M = _
    unfold bX6_nextOf_10
    rw [Nat.sub_self, if_pos (show nI 0 - 1 < 0 by decide), gfI_e, hW.1, ltI_e]
  rw [l2]
  generalize nx1 (tn T) (te T x) x (tn T) = v0 at ea ⊢
  have key : ∀ d j, j + d = tn T → fnl gX6_nextOf (2, 93, nI x, nx2 (tn T) (te T x) x v0 j, nI (tn T - j) - 1, M) = some (if nx2 (tn T) (te T x) x v0 (tn T) = -9 then nI x else nx2 (tn T) (te T x) x v0 (tn T), M) := by
    intro d
    induction d with
    | zero =>
      intro j hj
      have hj : j = tn T := hj
      subst hj
      refine fnl_out ?_
      show bX6_nextOf_51 93 (nI x) (nx2 (tn T) (te T x) x v0 (tn T)) (nI (tn T - tn T) - 1) M = _
      unfold bX6_nextOf_51 bX6_nextOf_91
      rw [Nat.sub_self, if_pos (show nI 0 - 1 < 0 by decide)]
      by_cases q : nx2 (tn T) (te T x) x v0 (tn T) = -9
      · rw [if_pos q, if_pos q]
      · rw [if_neg q, if_neg q]
    | succ d ih =>
      intro j hj
      have hj1 : j < tn T := by omega
      have ih := ih (j + 1) (by omega)
      by_cases q : nx2 (tn T) (te T x) x v0 j = -9 ∨ nx2 (tn T) (te T x) x v0 j < nI x
      · have e2 : nx2 (tn T) (te T x) x v0 (j + 1) = if (te T x).testBit (tn T - 1 - j) then nI (tn T - 1 - j) else nx2 (tn T) (te T x) x v0 j := by
          show (if _ then _ else _) = _
          rw [if_pos q]
        have e66 : bX6_nextOf_66 93 (nI x) (nx2 (tn T) (te T x) x v0 j) (nI (tn T - 1 - j)) M = some (.inl (2, 93, nI x, nx2 (tn T) (te T x) x v0 (j + 1), nI (tn T - (j + 1)) - 1, M)) := by
          unfold bX6_nextOf_66 bX6_nextOf_84
          rw [gR h 0 93 13 101 (by decide), ld, has_ok he8 (by omega), cal_ok, dn_step hj1 hn8, e2]
          by_cases r : (te T x).testBit (tn T - 1 - j) = true
          · rw [if_pos r, if_neg (by decide), if_pos r]
          · rw [if_neg r, if_pos rfl, if_neg r]
        refine (fnl_in ?_).trans ih
        show bX6_nextOf_51 93 (nI x) (nx2 (tn T) (te T x) x v0 j) (nI (tn T - j) - 1) M = _
        unfold bX6_nextOf_51
        rw [dn_pred hj1 hn8, if_neg (nI_pos (by omega))]
        by_cases r : nx2 (tn T) (te T x) x v0 j = -9
        · rw [if_pos r]; exact e66
        · rw [if_neg r, if_neg (Int32.not_le.mpr (q.resolve_left r))]; exact e66
      · have stay : ∀ i, j ≤ i → nx2 (tn T) (te T x) x v0 i = nx2 (tn T) (te T x) x v0 j := by
          intro i hi
          induction i with
          | zero => rw [show j = 0 by omega]
          | succ i ihi =>
            by_cases hij : j = i + 1
            · rw [hij]
            · have e := ihi (by omega)
              show (if nx2 (tn T) (te T x) x v0 i = -9 ∨ nx2 (tn T) (te T x) x v0 i < nI x then _ else nx2 (tn T) (te T x) x v0 i) = _
              rw [e, if_neg q]
        rw [stay (tn T) (by omega)]
        refine fnl_out ?_
        show bX6_nextOf_51 93 (nI x) (nx2 (tn T) (te T x) x v0 j) (nI (tn T - j) - 1) M = _
        unfold bX6_nextOf_51 bX6_nextOf_91
        rw [dn_pred hj1 hn8, if_neg (nI_pos (by omega)), if_neg (fun z => q (Or.inl z)), if_pos (Int32.not_lt.mp (fun z => q (Or.inr z))), if_neg (fun z => q (Or.inl z)), if_neg (fun z => q (Or.inl z))]
  have := key (tn T) 0 (by omega)
  rw [ea] at this
  exact this
theorem VX.clr (hV : VX T) {S k : Nat} : VX (clrT T S k) := by
  obtain ⟨h1, h2, h3, h4, h5, h6, h7, h8, h9, h10, h11, h12⟩ := hV
  refine ⟨h1, h2, h3, h4, h5, h6, h7, h8, fun m y hm hy => ?_, h10, h11, h12⟩
  have := h9 m y hm hy
  show (if m = 0 ∧ y < k ∧ S.testBit y then 0 else tm T m y) + tq T m ≤ 30
  by_cases q : m = 0 ∧ y < k ∧ S.testBit y = true
  · rw [if_pos q]; omega
  · rw [if_neg q]; exact this
theorem VX.setp (hV : VX T) {i v : Nat} (hv : v < tn T) : VX (setp T i v) := by
  obtain ⟨h1, h2, h3, h4, h5, h6, h7, h8, h9, h10, h11, h12⟩ := hV
  refine ⟨h1, h2, h3, h4, h5, h6, h7, h8, h9, h10, fun j hj => ?_, h12⟩
  show (if j = i then v else tp T j) < tn T
  by_cases q : j = i
  · rw [if_pos q]; exact hv
  · rw [if_neg q]; exact h11 j hj
theorem flX_n (hV : VX T) {x : Nat} (hx : x < tn T) : flN (te T x) x < tn T := fl_lt _ hV.n8 _ (hV.en hx) _ hx
theorem VX.bd (hV : VX T) {i : Nat} (hi : i < tb T) : VX (bdT T i) := VX.setp (T := clrT T _ _) hV.clr (flX_n hV (hV.p8 hi))
theorem gladeX_ok (h : RO M) {f : Nat} (hW : RVd f T M) (hV : VX T) {x : Nat} (hx : x < tn T) : fX6_isGlade 93 (nI x) M = some (if isK (tk T x) 1 then 1 else 0, M) := by
  have hn8 := hV.n8
  have k5 := hV.k5 hx
  rw [(isK_all _ k5).2.2.2]
  unfold fX6_isGlade bX6_isGlade_20
  rw [show (1 : Int32) = nI 1 from rfl, show (4 : Int32) = nI 4 from rfl]
  by_cases q : tk T x = 1
  · simp (disch := first | assumption | omega | decide) only [↓reduceIte, ↓gfI_e, ↓pfI_e, ↓gfJ_e, ↓pfJ_e, ↓ltI_e, ↓ltJ_e, ↓cal_ok, ↓rz0, ↓rz1, ↓g33, ↓g45, ↓wK, ↓wO, ↓wB, ↓wL, ↓wS, ↓wP, ↓wQ, ↓wY, ↓wL0, ↓wL1, ↓wL2, ↓r93_95, ↓r93_96, ↓r93_98, ↓r93_99, ↓r93_100, ↓r93_101, ↓r93_106, ↓r93_107, ↓ldw1, ↓ldw2, ↓ldw3, ↓ldw5, ↓ldw6, ↓ldw7, ↓ldw8, ↓ldw9, ↓ldw10, ↓ldw11, ↓ld100, ↓ld101, ↓ld106, ↓ld107, nle_F, nle_T, nlt_F, nlt_T, neq_F, neq_T, nle0_T, nle0_F, nlt0_F, n0lt_T, n0lt_F, n0le_T, n1_eq0, n0_eq0, n0_eq1, n1_eq1, np1, hW.k, q]
    simp
  · by_cases r : tk T x = 4
    · simp (disch := first | assumption | omega | decide) only [↓reduceIte, ↓gfI_e, ↓pfI_e, ↓gfJ_e, ↓pfJ_e, ↓ltI_e, ↓ltJ_e, ↓cal_ok, ↓rz0, ↓rz1, ↓g33, ↓g45, ↓wK, ↓wO, ↓wB, ↓wL, ↓wS, ↓wP, ↓wQ, ↓wY, ↓wL0, ↓wL1, ↓wL2, ↓r93_95, ↓r93_96, ↓r93_98, ↓r93_99, ↓r93_100, ↓r93_101, ↓r93_106, ↓r93_107, ↓ldw1, ↓ldw2, ↓ldw3, ↓ldw5, ↓ldw6, ↓ldw7, ↓ldw8, ↓ldw9, ↓ldw10, ↓ldw11, ↓ld100, ↓ld101, ↓ld106, ↓ld107, nle_F, nle_T, nlt_F, nlt_T, neq_F, neq_T, nle0_T, nle0_F, nlt0_F, n0lt_T, n0lt_F, n0le_T, n1_eq0, n0_eq0, n0_eq1, n1_eq1, np1, hW.k, r]
      simp
    · simp (disch := first | assumption | omega | decide) only [↓reduceIte, ↓gfI_e, ↓pfI_e, ↓gfJ_e, ↓pfJ_e, ↓ltI_e, ↓ltJ_e, ↓cal_ok, ↓rz0, ↓rz1, ↓g33, ↓g45, ↓wK, ↓wO, ↓wB, ↓wL, ↓wS, ↓wP, ↓wQ, ↓wY, ↓wL0, ↓wL1, ↓wL2, ↓r93_95, ↓r93_96, ↓r93_98, ↓r93_99, ↓r93_100, ↓r93_101, ↓r93_106, ↓r93_107, ↓ldw1, ↓ldw2, ↓ldw3, ↓ldw5, ↓ldw6, ↓ldw7, ↓ldw8, ↓ldw9, ↓ldw10, ↓ldw11, ↓ld100, ↓ld101, ↓ld106, ↓ld107, nle_F, nle_T, nlt_F, nlt_T, neq_F, neq_T, nle0_T, nle0_F, nlt0_F, n0lt_T, n0lt_F, n0le_T, n1_eq0, n0_eq0, n0_eq1, n1_eq1, np1, hW.k]
      simp [q, r]
theorem thicketX_ok (h : RO M) {f : Nat} (hW : RVd f T M) (hV : VX T) {x : Nat} (hx : x < tn T) : fX6_isThicket 93 (nI x) M = some (if isK (tk T x) 2 then 1 else 0, M) := by
  have hn8 := hV.n8
  have k5 := hV.k5 hx
  rw [(isK_all _ k5).2.1]
  unfold fX6_isThicket bX6_isThicket_20
  rw [show (2 : Int32) = nI 2 from rfl, show (5 : Int32) = nI 5 from rfl]
  by_cases q : tk T x = 2
  · simp (disch := first | assumption | omega | decide) only [↓reduceIte, ↓gfI_e, ↓pfI_e, ↓gfJ_e, ↓pfJ_e, ↓ltI_e, ↓ltJ_e, ↓cal_ok, ↓rz0, ↓rz1, ↓g33, ↓g45, ↓wK, ↓wO, ↓wB, ↓wL, ↓wS, ↓wP, ↓wQ, ↓wY, ↓wL0, ↓wL1, ↓wL2, ↓r93_95, ↓r93_96, ↓r93_98, ↓r93_99, ↓r93_100, ↓r93_101, ↓r93_106, ↓r93_107, ↓ldw1, ↓ldw2, ↓ldw3, ↓ldw5, ↓ldw6, ↓ldw7, ↓ldw8, ↓ldw9, ↓ldw10, ↓ldw11, ↓ld100, ↓ld101, ↓ld106, ↓ld107, nle_F, nle_T, nlt_F, nlt_T, neq_F, neq_T, nle0_T, nle0_F, nlt0_F, n0lt_T, n0lt_F, n0le_T, n1_eq0, n0_eq0, n0_eq1, n1_eq1, np1, hW.k, q]
    simp
  · by_cases r : tk T x = 5
    · simp (disch := first | assumption | omega | decide) only [↓reduceIte, ↓gfI_e, ↓pfI_e, ↓gfJ_e, ↓pfJ_e, ↓ltI_e, ↓ltJ_e, ↓cal_ok, ↓rz0, ↓rz1, ↓g33, ↓g45, ↓wK, ↓wO, ↓wB, ↓wL, ↓wS, ↓wP, ↓wQ, ↓wY, ↓wL0, ↓wL1, ↓wL2, ↓r93_95, ↓r93_96, ↓r93_98, ↓r93_99, ↓r93_100, ↓r93_101, ↓r93_106, ↓r93_107, ↓ldw1, ↓ldw2, ↓ldw3, ↓ldw5, ↓ldw6, ↓ldw7, ↓ldw8, ↓ldw9, ↓ldw10, ↓ldw11, ↓ld100, ↓ld101, ↓ld106, ↓ld107, nle_F, nle_T, nlt_F, nlt_T, neq_F, neq_T, nle0_T, nle0_F, nlt0_F, n0lt_T, n0lt_F, n0le_T, n1_eq0, n0_eq0, n0_eq1, n1_eq1, np1, hW.k, r]
      simp
    · simp (disch := first | assumption | omega | decide) only [↓reduceIte, ↓gfI_e, ↓pfI_e, ↓gfJ_e, ↓pfJ_e, ↓ltI_e, ↓ltJ_e, ↓cal_ok, ↓rz0, ↓rz1, ↓g33, ↓g45, ↓wK, ↓wO, ↓wB, ↓wL, ↓wS, ↓wP, ↓wQ, ↓wY, ↓wL0, ↓wL1, ↓wL2, ↓r93_95, ↓r93_96, ↓r93_98, ↓r93_99, ↓r93_100, ↓r93_101, ↓r93_106, ↓r93_107, ↓ldw1, ↓ldw2, ↓ldw3, ↓ldw5, ↓ldw6, ↓ldw7, ↓ldw8, ↓ldw9, ↓ldw10, ↓ldw11, ↓ld100, ↓ld101, ↓ld106, ↓ld107, nle_F, nle_T, nlt_F, nlt_T, neq_F, neq_T, nle0_T, nle0_F, nlt0_F, n0lt_T, n0lt_F, n0le_T, n1_eq0, n0_eq0, n0_eq1, n1_eq1, np1, hW.k]
      simp [q, r]
theorem eatX_ok (h : RO M) {f : Nat} (hW : RVd f T M) (hV : VX T) {x : Nat} (hx : x < tn T) : fX6_eatSet 93 (nI x) M = some (nI (rchT T x), M) := by
  have hn8 := hV.n8
  have e8 := hV.e8 hx
  unfold fX6_eatSet bX6_eatSet_0
  rw [shl1 x (by omega), ltI_e, fen_l]
  by_cases q : isK (tk T x) 1 = true
  · have key : ∀ k, k ≤ tn T → 2 ^ x ||| setN (fun y => (te T x).testBit y && !isK (tk T y) 2) k < 256 := fun k hk => Nat.or_lt_two_pow (n := 8) (pow_lt (by omega)) (pow_lt8 (show k ≤ 8 by omega) (setN_lt _ _))
    refine (show fnl gX6_eatSet (1, 93, nI x, nI (2 ^ x), 0, M) = fnl gX6_eatSet (1, 93, nI x, nI (2 ^ x ||| setN (fun y => (te T x).testBit y && !isK (tk T y) 2) 0), nI 0, M) from by
      show _ = fnl gX6_eatSet (1, 93, nI x, nI (2 ^ x ||| 0), nI 0, M)
      rw [Nat.or_zero]
      rfl).trans ?_
    refine (fnl_loop (fun k => (1, 93, nI x, nI (2 ^ x ||| setN (fun y => (te T x).testBit y && !isK (tk T y) 2) k), nI k, M)) (tn T) (r := (nI (2 ^ x ||| setN (fun y => (te T x).testBit y && !isK (tk T y) 2) (tn T)), M)) (fun k hk => ?_) ?_).trans ?_
    · show bX6_eatSet_6 93 (nI x) (nI (2 ^ x ||| setN (fun y => (te T x).testBit y && !isK (tk T y) 2) k)) (nI k) M = some (Sum.inl (1, 93, nI x, nI (2 ^ x ||| setN (fun y => (te T x).testBit y && !isK (tk T y) 2) (k + 1)), nI (k + 1), M))
      unfold bX6_eatSet_6 bX6_eatSet_50 bX6_eatSet_51
      have e1 := has_ok (M := M) e8 (show k < 8 by omega)
      have e2 := thicketX_ok h hW hV hk
      rw [setN_or, ← Nat.or_assoc, ← nI_or (2 ^ x ||| _)]
      rw [gladeX_ok h hW hV hx, q]
      by_cases r : (te T x).testBit k = true
      · by_cases s : isK (tk T k) 2 = true
        · rw [r] at e1
          rw [s] at e2
          simp (disch := first | assumption | omega | decide) only [↓reduceIte, ↓gfI_e, ↓pfI_e, ↓gfJ_e, ↓pfJ_e, ↓ltI_e, ↓ltJ_e, ↓cal_ok, ↓rz0, ↓rz1, ↓g33, ↓g45, ↓wK, ↓wO, ↓wB, ↓wL, ↓wS, ↓wP, ↓wQ, ↓wY, ↓wL0, ↓wL1, ↓wL2, ↓r93_95, ↓r93_96, ↓r93_98, ↓r93_99, ↓r93_100, ↓r93_101, ↓r93_106, ↓r93_107, ↓ldw1, ↓ldw2, ↓ldw3, ↓ldw5, ↓ldw6, ↓ldw7, ↓ldw8, ↓ldw9, ↓ldw10, ↓ldw11, ↓ld100, ↓ld101, ↓ld106, ↓ld107, nle_F, nle_T, nlt_F, nlt_T, neq_F, neq_T, nle0_T, nle0_F, nlt0_F, n0lt_T, n0lt_F, n0le_T, n1_eq0, n0_eq0, n0_eq1, n1_eq1, np1, hW.n, hW.e, e1, e2, r, s, Bool.not_true, Bool.and_false, Bool.false_eq_true]
          rfl
        · rw [r] at e1
          rw [show isK (tk T k) 2 = false by simpa using s] at e2 ⊢
          simp (disch := first | assumption | omega | decide) only [↓reduceIte, ↓gfI_e, ↓pfI_e, ↓gfJ_e, ↓pfJ_e, ↓ltI_e, ↓ltJ_e, ↓cal_ok, ↓rz0, ↓rz1, ↓g33, ↓g45, ↓wK, ↓wO, ↓wB, ↓wL, ↓wS, ↓wP, ↓wQ, ↓wY, ↓wL0, ↓wL1, ↓wL2, ↓r93_95, ↓r93_96, ↓r93_98, ↓r93_99, ↓r93_100, ↓r93_101, ↓r93_106, ↓r93_107, ↓ldw1, ↓ldw2, ↓ldw3, ↓ldw5, ↓ldw6, ↓ldw7, ↓ldw8, ↓ldw9, ↓ldw10, ↓ldw11, ↓ld100, ↓ld101, ↓ld106, ↓ld107, nle_F, nle_T, nlt_F, nlt_T, neq_F, neq_T, nle0_T, nle0_F, nlt0_F, n0lt_T, n0lt_F, n0le_T, n1_eq0, n0_eq0, n0_eq1, n1_eq1, np1, hW.n, hW.e, e1, e2, r, Bool.not_false, Bool.and_true, Bool.false_eq_true, shl1]
      · rw [show (te T x).testBit k = false by simpa using r] at e1 ⊢
        simp (disch := first | assumption | omega | decide) only [↓reduceIte, ↓gfI_e, ↓pfI_e, ↓gfJ_e, ↓pfJ_e, ↓ltI_e, ↓ltJ_e, ↓cal_ok, ↓rz0, ↓rz1, ↓g33, ↓g45, ↓wK, ↓wO, ↓wB, ↓wL, ↓wS, ↓wP, ↓wQ, ↓wY, ↓wL0, ↓wL1, ↓wL2, ↓r93_95, ↓r93_96, ↓r93_98, ↓r93_99, ↓r93_100, ↓r93_101, ↓r93_106, ↓r93_107, ↓ldw1, ↓ldw2, ↓ldw3, ↓ldw5, ↓ldw6, ↓ldw7, ↓ldw8, ↓ldw9, ↓ldw10, ↓ldw11, ↓ld100, ↓ld101, ↓ld106, ↓ld107, nle_F, nle_T, nlt_F, nlt_T, neq_F, neq_T, nle0_T, nle0_F, nlt0_F, n0lt_T, n0lt_F, n0le_T, n1_eq0, n0_eq0, n0_eq1, n1_eq1, np1, hW.n, hW.e, e1, Bool.false_and, Bool.false_eq_true]
        rfl
    · show bX6_eatSet_6 93 (nI x) _ (nI (tn T)) M = _
      unfold bX6_eatSet_6 bX6_eatSet_59
      simp (disch := first | assumption | omega | decide) only [↓reduceIte, ↓gfI_e, ↓pfI_e, ↓gfJ_e, ↓pfJ_e, ↓ltI_e, ↓ltJ_e, ↓cal_ok, ↓rz0, ↓rz1, ↓g33, ↓g45, ↓wK, ↓wO, ↓wB, ↓wL, ↓wS, ↓wP, ↓wQ, ↓wY, ↓wL0, ↓wL1, ↓wL2, ↓r93_95, ↓r93_96, ↓r93_98, ↓r93_99, ↓r93_100, ↓r93_101, ↓r93_106, ↓r93_107, ↓ldw1, ↓ldw2, ↓ldw3, ↓ldw5, ↓ldw6, ↓ldw7, ↓ldw8, ↓ldw9, ↓ldw10, ↓ldw11, ↓ld100, ↓ld101, ↓ld106, ↓ld107, nle_F, nle_T, nlt_F, nlt_T, neq_F, neq_T, nle0_T, nle0_F, nlt0_F, n0lt_T, n0lt_F, n0le_T, n1_eq0, n0_eq0, n0_eq1, n1_eq1, np1, hW.n]
    · congr 3
      refine set_ext (n := tn T) (Nat.or_lt_two_pow (pow_lt hx) (setN_lt _ _)) (rch_lt _ _) (fun y hy => ?_)
      unfold rchT
      rw [Nat.testBit_or, Nat.testBit_two_pow, setN_bit, setN_bit, q]
      by_cases hxy : x = y
      · simp [hy, hxy]
      · simp [hy, hxy, show ¬ y = x from fun e => hxy e.symm]
  · have q1 : isK (tk T x) 1 = false := by simpa using q
    refine fnl_out ?_
    show bX6_eatSet_6 93 (nI x) (nI (2 ^ x)) (nI 0) M = _
    unfold bX6_eatSet_6 bX6_eatSet_59
    rw [gladeX_ok h hW hV hx, q1]
    simp (disch := first | assumption | omega | decide) only [↓reduceIte, ↓gfI_e, ↓pfI_e, ↓gfJ_e, ↓pfJ_e, ↓ltI_e, ↓ltJ_e, ↓cal_ok, ↓rz0, ↓rz1, ↓g33, ↓g45, ↓wK, ↓wO, ↓wB, ↓wL, ↓wS, ↓wP, ↓wQ, ↓wY, ↓wL0, ↓wL1, ↓wL2, ↓r93_95, ↓r93_96, ↓r93_98, ↓r93_99, ↓r93_100, ↓r93_101, ↓r93_106, ↓r93_107, ↓ldw1, ↓ldw2, ↓ldw3, ↓ldw5, ↓ldw6, ↓ldw7, ↓ldw8, ↓ldw9, ↓ldw10, ↓ldw11, ↓ld100, ↓ld101, ↓ld106, ↓ld107, nle_F, nle_T, nlt_F, nlt_T, neq_F, neq_T, nle0_T, nle0_F, nlt0_F, n0lt_T, n0lt_F, n0le_T, n1_eq0, n0_eq0, n0_eq1, n1_eq1, np1, hW.n, Bool.false_eq_true]
    congr 4
    refine set_ext (n := tn T) (pow_lt hx) (rch_lt _ _) (fun y hy => ?_)
    unfold rchT
    rw [Nat.testBit_two_pow, setN_bit, q1]
    by_cases hxy : x = y
    · simp [hy, hxy]
    · simp [hy, hxy, show ¬ y = x from fun e => hxy e.symm]
theorem crumbs6X_ok (h : RO M) {f : Nat} (hf : f < 4) (hW : RVd f T M) (hV : VX T) {S : Nat} (hS : S < 256) : fX6_crumbsOn 93 (nI f) (nI S) M = some (nI (crN T S (tn T)), M) := by
  have hn8 := hV.n8
  unfold fX6_crumbsOn bX6_crumbsOn_0
  rw [fen_l]
  refine fnl_loop (fun k => (1, 93, nI f, nI S, nI (crN T S k), nI k, M)) (tn T) (fun k hk => ?_) ?_
  · show bX6_crumbsOn_5 93 (nI f) (nI S) (nI (crN T S k)) (nI k) M = some (Sum.inl (1, 93, nI f, nI S, nI (crN T S k + if S.testBit k then tm T 0 k else 0), nI (k + 1), M))
    unfold bX6_crumbsOn_5 bX6_crumbsOn_36
    have e1 := has_ok (M := M) hS (show k < 8 by omega)
    have e2 := marks_ok h (f := f) (m := 0) (x := k) (by omega)
    rw [hW.m (by decide) hk, show nI 0 = (0 : Int32) from rfl] at e2
    by_cases q : S.testBit k = true
    · rw [q] at e1
      simp (disch := first | assumption | omega | decide) only [↓reduceIte, ↓gfI_e, ↓pfI_e, ↓gfJ_e, ↓pfJ_e, ↓ltI_e, ↓ltJ_e, ↓cal_ok, ↓rz0, ↓rz1, ↓g33, ↓g45, ↓wK, ↓wO, ↓wB, ↓wL, ↓wS, ↓wP, ↓wQ, ↓wY, ↓wL0, ↓wL1, ↓wL2, ↓r93_95, ↓r93_96, ↓r93_98, ↓r93_99, ↓r93_100, ↓r93_101, ↓r93_106, ↓r93_107, ↓ldw1, ↓ldw2, ↓ldw3, ↓ldw5, ↓ldw6, ↓ldw7, ↓ldw8, ↓ldw9, ↓ldw10, ↓ldw11, ↓ld100, ↓ld101, ↓ld106, ↓ld107, nle_F, nle_T, nlt_F, nlt_T, neq_F, neq_T, nle0_T, nle0_F, nlt0_F, n0lt_T, n0lt_F, n0le_T, n1_eq0, n0_eq0, n0_eq1, n1_eq1, np1, hW.n, e1, e2, q, nI_pl]
    · rw [show S.testBit k = false by simpa using q] at e1 ⊢
      simp (disch := first | assumption | omega | decide) only [↓reduceIte, ↓gfI_e, ↓pfI_e, ↓gfJ_e, ↓pfJ_e, ↓ltI_e, ↓ltJ_e, ↓cal_ok, ↓rz0, ↓rz1, ↓g33, ↓g45, ↓wK, ↓wO, ↓wB, ↓wL, ↓wS, ↓wP, ↓wQ, ↓wY, ↓wL0, ↓wL1, ↓wL2, ↓r93_95, ↓r93_96, ↓r93_98, ↓r93_99, ↓r93_100, ↓r93_101, ↓r93_106, ↓r93_107, ↓ldw1, ↓ldw2, ↓ldw3, ↓ldw5, ↓ldw6, ↓ldw7, ↓ldw8, ↓ldw9, ↓ldw10, ↓ldw11, ↓ld100, ↓ld101, ↓ld106, ↓ld107, nle_F, nle_T, nlt_F, nlt_T, neq_F, neq_T, nle0_T, nle0_F, nlt0_F, n0lt_T, n0lt_F, n0le_T, n1_eq0, n0_eq0, n0_eq1, n1_eq1, np1, hW.n, e1, Bool.false_eq_true, Nat.add_zero, Int32.add_zero]
  · show bX6_crumbsOn_5 93 (nI f) (nI S) (nI (crN T S (tn T))) (nI (tn T)) M = _
    unfold bX6_crumbsOn_5
    simp (disch := first | assumption | omega | decide) only [↓reduceIte, ↓gfI_e, ↓pfI_e, ↓gfJ_e, ↓pfJ_e, ↓ltI_e, ↓ltJ_e, ↓cal_ok, ↓rz0, ↓rz1, ↓g33, ↓g45, ↓wK, ↓wO, ↓wB, ↓wL, ↓wS, ↓wP, ↓wQ, ↓wY, ↓wL0, ↓wL1, ↓wL2, ↓r93_95, ↓r93_96, ↓r93_98, ↓r93_99, ↓r93_100, ↓r93_101, ↓r93_106, ↓r93_107, ↓ldw1, ↓ldw2, ↓ldw3, ↓ldw5, ↓ldw6, ↓ldw7, ↓ldw8, ↓ldw9, ↓ldw10, ↓ldw11, ↓ld100, ↓ld101, ↓ld106, ↓ld107, nle_F, nle_T, nlt_F, nlt_T, neq_F, neq_T, nle0_T, nle0_F, nlt0_F, n0lt_T, n0lt_F, n0le_T, n1_eq0, n0_eq0, n0_eq1, n1_eq1, np1, hW.n]
theorem VX.hb (hV : VX T) {k : Nat} (hk : k ≤ tb T) : VX (hbT T k) := by
  induction k with
  | zero => exact hV
  | succ k ih => exact VX.bd (ih (by omega)) (by rw [(hb_n k).2.1]; omega)
theorem VX.hs (hV : VX T) (k : Nat) : VX (hsT T k) := by
  induction k with
  | zero => exact hV
  | succ k ih => exact VX.hb ih (by rw [(hs_n k).2.1]; omega)
theorem bird6X_ok (h : RO M) {f : Nat} (hf : f < 4) (hW : RVd f T M) (hV : VX T) {i e : Nat} (hi : i < tb T) : ∃ M1, fnl gX6_hourOf (1, 93, nI f, nI e, nI i, 0, 0, 0, M) = fnl gX6_hourOf (1, 93, nI f, nI (e + bdE T i), nI (i + 1), 0, 0, 0, M1) ∧ RVd f (bdT T i) M1 ∧ Off (Pf f) M M1 := by
  have hn8 := hV.n8
  have hb4 := hV.b4
  have hp := hV.p8 hi
  have hr8 : rchT T (tp T i) < 256 := pow_lt8 hn8 (rch_lt _ _)
  have ev := v_ok h (f := f) (b := 32) (i := i) (by omega)
  rw [hW.p hi, show nI 32 = (32 : Int32) from rfl] at ev
  have e0 : fnl gX6_hourOf (1, 93, nI f, nI e, nI i, 0, 0, 0, M) = fnl gX6_hourOf (2, 93, nI f, nI (e + bdE T i), nI i, nI (tp T i), nI (rchT T (tp T i)), nI 0, M) := by
    refine fnl_in ?_
    show bX6_hourOf_4 93 (nI f) (nI e) (nI i) M = _
    unfold bX6_hourOf_4
    simp (disch := first | assumption | omega | decide) only [↓reduceIte, ↓gfI_e, ↓pfI_e, ↓gfJ_e, ↓pfJ_e, ↓ltI_e, ↓ltJ_e, ↓cal_ok, ↓rz0, ↓rz1, ↓g33, ↓g45, ↓wK, ↓wO, ↓wB, ↓wL, ↓wS, ↓wP, ↓wQ, ↓wY, ↓wL0, ↓wL1, ↓wL2, ↓r93_95, ↓r93_96, ↓r93_98, ↓r93_99, ↓r93_100, ↓r93_101, ↓r93_106, ↓r93_107, ↓ldw1, ↓ldw2, ↓ldw3, ↓ldw5, ↓ldw6, ↓ldw7, ↓ldw8, ↓ldw9, ↓ldw10, ↓ldw11, ↓ld100, ↓ld101, ↓ld106, ↓ld107, nle_F, nle_T, nlt_F, nlt_T, neq_F, neq_T, nle0_T, nle0_F, nlt0_F, n0lt_T, n0lt_F, n0le_T, n1_eq0, n0_eq0, n0_eq1, n1_eq1, np1, hW.b, ev, eatX_ok h hW hV hp, crumbs6X_ok h hf hW hV hr8, nI_pl]
    rfl
  obtain ⟨s1, e1, M1, rfl, hW1, hO1⟩ := fnl_go (g := gX6_hourOf) (fun k s => ∃ M1, s = (2, 93, nI f, nI (e + bdE T i), nI i, nI (tp T i), nI (rchT T (tp T i)), nI k, M1) ∧ RVd f (clrT T (rchT T (tp T i)) k) M1 ∧ Off (Pf f) M M1) (tn T) (fun k s hk hI => by
    obtain ⟨M1, rfl, hW1, hO1⟩ := hI
    have h1 := hO1.ro h
    have hn : M1.1 93 10 = nI (tn T) := hW1.n
    have eh := has_ok (M := M1) hr8 (show k < 8 by omega)
    have em := marks_ok h1 (f := f) (m := 0) (x := k) (by omega)
    rw [hW1.m (by decide) hk, show nI 0 = (0 : Int32) from rfl] at em
    have es : ∀ v, fX6_setMarks 93 (nI f) 0 (nI k) v M1 = some ((), wI M1 106 (39 * f + 8 * 0 + k) v) := fun v => setMarks_ok h1 (f := f) (m := 0) (x := k) (v := v) (by omega)
    by_cases q : (rchT T (tp T i)).testBit k = true
    · refine ⟨(2, 93, nI f, nI (e + bdE T i), nI i, nI (tp T i), nI (rchT T (tp T i)), nI (k + 1), wI M1 106 (39 * f + 8 * 0 + k) (nI 0)), ?_, _, rfl, ?_, hO1.wI ⟨rfl, by omega, by omega⟩⟩
      · show bX6_hourOf_43 93 (nI f) (nI (e + bdE T i)) (nI i) (nI (tp T i)) (nI (rchT T (tp T i))) (nI k) M1 = _
        unfold bX6_hourOf_43 bX6_hourOf_79
        rw [q] at eh
        simp (disch := first | assumption | omega | decide) only [↓reduceIte, ↓gfI_e, ↓pfI_e, ↓gfJ_e, ↓pfJ_e, ↓ltI_e, ↓ltJ_e, ↓cal_ok, ↓rz0, ↓rz1, ↓g33, ↓g45, ↓wK, ↓wO, ↓wB, ↓wL, ↓wS, ↓wP, ↓wQ, ↓wY, ↓wL0, ↓wL1, ↓wL2, ↓r93_95, ↓r93_96, ↓r93_98, ↓r93_99, ↓r93_100, ↓r93_101, ↓r93_106, ↓r93_107, ↓ldw1, ↓ldw2, ↓ldw3, ↓ldw5, ↓ldw6, ↓ldw7, ↓ldw8, ↓ldw9, ↓ldw10, ↓ldw11, ↓ld100, ↓ld101, ↓ld106, ↓ld107, nle_F, nle_T, nlt_F, nlt_T, neq_F, neq_T, nle0_T, nle0_F, nlt0_F, n0lt_T, n0lt_F, n0le_T, n1_eq0, n0_eq0, n0_eq1, n1_eq1, np1, hn, eh, es]
        rfl
      · rw [clrT_s, if_pos q]
        exact rv_setm2 hW1 hV.n8 hV.b4 (m := 0) (x := k) (v := 0) (by decide) (by omega)
    · refine ⟨(2, 93, nI f, nI (e + bdE T i), nI i, nI (tp T i), nI (rchT T (tp T i)), nI (k + 1), wI M1 106 (39 * f + 8 * 0 + k) (nI (tm (clrT T (rchT T (tp T i)) k) 0 k))), ?_, _, rfl, ?_, hO1.wI ⟨rfl, by omega, by omega⟩⟩
      · show bX6_hourOf_43 93 (nI f) (nI (e + bdE T i)) (nI i) (nI (tp T i)) (nI (rchT T (tp T i))) (nI k) M1 = _
        unfold bX6_hourOf_43 bX6_hourOf_79
        rw [show (rchT T (tp T i)).testBit k = false by simpa using q] at eh
        simp (disch := first | assumption | omega | decide) only [↓reduceIte, ↓gfI_e, ↓pfI_e, ↓gfJ_e, ↓pfJ_e, ↓ltI_e, ↓ltJ_e, ↓cal_ok, ↓rz0, ↓rz1, ↓g33, ↓g45, ↓wK, ↓wO, ↓wB, ↓wL, ↓wS, ↓wP, ↓wQ, ↓wY, ↓wL0, ↓wL1, ↓wL2, ↓r93_95, ↓r93_96, ↓r93_98, ↓r93_99, ↓r93_100, ↓r93_101, ↓r93_106, ↓r93_107, ↓ldw1, ↓ldw2, ↓ldw3, ↓ldw5, ↓ldw6, ↓ldw7, ↓ldw8, ↓ldw9, ↓ldw10, ↓ldw11, ↓ld100, ↓ld101, ↓ld106, ↓ld107, nle_F, nle_T, nlt_F, nlt_T, neq_F, neq_T, nle0_T, nle0_F, nlt0_F, n0lt_T, n0lt_F, n0le_T, n1_eq0, n0_eq0, n0_eq1, n1_eq1, np1, hn, eh, em, es, Bool.false_eq_true]
      · rw [clrT_s, if_neg q]
        have := rv_setm2 hW1 hV.n8 hV.b4 (m := 0) (x := k) (v := tm (clrT T (rchT T (tp T i)) k) 0 k) (by decide) (by omega)
        rw [setm_id] at this
        exact this) (s := (2, 93, nI f, nI (e + bdE T i), nI i, nI (tp T i), nI (rchT T (tp T i)), nI 0, M)) ⟨M, rfl, by rw [clrT_0]; exact hW, Off.rf⟩
  have h1 := hO1.ro h
  refine ⟨wI M1 106 (39 * f + 32 + i) (nI (flN (te T (tp T i)) (tp T i))), (e0.trans e1).trans (fnl_in ?_), rv_setp2 hW1 hV.n8 hV.b4 (by omega), hO1.wI ⟨rfl, by omega, by omega⟩⟩
  have hn : M1.1 93 10 = nI (tn T) := hW1.n
  have ex := nextX_ok h1 hW1 hV.clr (x := tp T i) hp
  have es : ∀ v, fX6_set 93 (nI f) 32 (nI i) v M1 = some ((), wI M1 106 (39 * f + 32 + i) v) := fun v => set_ok h1 (f := f) (b := 32) (i := i) (v := v) (by omega)
  show bX6_hourOf_43 93 (nI f) (nI (e + bdE T i)) (nI i) (nI (tp T i)) (nI (rchT T (tp T i))) (nI (tn T)) M1 = _
  unfold bX6_hourOf_43
  simp (disch := first | assumption | omega | decide) only [↓reduceIte, ↓gfI_e, ↓pfI_e, ↓gfJ_e, ↓pfJ_e, ↓ltI_e, ↓ltJ_e, ↓cal_ok, ↓rz0, ↓rz1, ↓g33, ↓g45, ↓wK, ↓wO, ↓wB, ↓wL, ↓wS, ↓wP, ↓wQ, ↓wY, ↓wL0, ↓wL1, ↓wL2, ↓r93_95, ↓r93_96, ↓r93_98, ↓r93_99, ↓r93_100, ↓r93_101, ↓r93_106, ↓r93_107, ↓ldw1, ↓ldw2, ↓ldw3, ↓ldw5, ↓ldw6, ↓ldw7, ↓ldw8, ↓ldw9, ↓ldw10, ↓ldw11, ↓ld100, ↓ld101, ↓ld106, ↓ld107, nle_F, nle_T, nlt_F, nlt_T, neq_F, neq_T, nle0_T, nle0_F, nlt0_F, n0lt_T, n0lt_F, n0le_T, n1_eq0, n0_eq0, n0_eq1, n1_eq1, np1, hn, ex, es]
  rfl
theorem hour6X_ok (h : RO M) {f : Nat} (hf : f < 4) (hW : RVd f T M) (hV : VX T) : ∃ M1, fX6_hourOf 93 (nI f) M = some (nI (hbE T (tb T)), M1) ∧ RVd f (hbT T (tb T)) M1 ∧ Off (Pf f) M M1 := by
  have hb4 := hV.b4
  unfold fX6_hourOf bX6_hourOf_0
  rw [fen_l]
  have all : ∀ k, k ≤ tb T → ∃ M1, fnl gX6_hourOf (1, 93, nI f, 0, 0, 0, 0, 0, M) = fnl gX6_hourOf (1, 93, nI f, nI (hbE T k), nI k, 0, 0, 0, M1) ∧ RVd f (hbT T k) M1 ∧ Off (Pf f) M M1 := by
    intro k
    induction k with
    | zero => exact fun _ => ⟨M, rfl, hW, Off.rf⟩
    | succ k ih =>
      intro hk
      obtain ⟨M1, e1, hW1, hO1⟩ := ih (by omega)
      obtain ⟨M2, e2, hW2, hO2⟩ := bird6X_ok (hO1.ro h) hf hW1 (hV.hb (by omega)) (i := k) (e := hbE T k) (by rw [(hb_n k).2.1]; omega)
      exact ⟨M2, e1.trans e2, hW2, hO1.tr hO2⟩
  obtain ⟨M1, e1, hW1, hO1⟩ := all _ (Nat.le_refl _)
  refine ⟨M1, e1.trans (fnl_out ?_), hW1, hO1⟩
  have hb : M1.1 93 11 = nI (tb T) := by rw [hW1.b, (hb_n (tb T)).2.1]
  show bX6_hourOf_4 93 (nI f) (nI (hbE T (tb T))) (nI (tb T)) M1 = _
  unfold bX6_hourOf_4
  simp (disch := first | assumption | omega | decide) only [↓reduceIte, ↓gfI_e, ↓pfI_e, ↓gfJ_e, ↓pfJ_e, ↓ltI_e, ↓ltJ_e, ↓cal_ok, ↓rz0, ↓rz1, ↓g33, ↓g45, ↓wK, ↓wO, ↓wB, ↓wL, ↓wS, ↓wP, ↓wQ, ↓wY, ↓wL0, ↓wL1, ↓wL2, ↓r93_95, ↓r93_96, ↓r93_98, ↓r93_99, ↓r93_100, ↓r93_101, ↓r93_106, ↓r93_107, ↓ldw1, ↓ldw2, ↓ldw3, ↓ldw5, ↓ldw6, ↓ldw7, ↓ldw8, ↓ldw9, ↓ldw10, ↓ldw11, ↓ld100, ↓ld101, ↓ld106, ↓ld107, nle_F, nle_T, nlt_F, nlt_T, neq_F, neq_T, nle0_T, nle0_F, nlt0_F, n0lt_T, n0lt_F, n0le_T, n1_eq0, n0_eq0, n0_eq1, n1_eq1, np1, hb]
theorem hours6X_ok (h : RO M) {f : Nat} (hf : f < 4) (hW : RVd f T M) (hV : VX T) {n : Nat} (hn : n < 2 ^ 31) : ∃ M1, fX6_hoursOf 93 (nI f) (nI n) M = some (nI (hsE T n), M1) ∧ RVd f (hsT T n) M1 ∧ Off (Pf f) M M1 := by
  unfold fX6_hoursOf bX6_hoursOf_0
  rw [fen_l]
  obtain ⟨s1, e1, M1, rfl, hW1, hO1⟩ := fnl_go (g := gX6_hoursOf) (fun k s => ∃ M1, s = (1, 93, nI f, nI n, nI (hsE T k), nI k, M1) ∧ RVd f (hsT T k) M1 ∧ Off (Pf f) M M1) n (fun k s hk hI => by
    obtain ⟨M1, rfl, hW1, hO1⟩ := hI
    obtain ⟨M2, e2, hW2, hO2⟩ := hour6X_ok (hO1.ro h) hf hW1 (hV.hs k)
    have hbk : tb (hsT T k) = tb T := (hs_n k).2.1
    rw [hbk] at e2 hW2
    refine ⟨(1, 93, nI f, nI n, nI (hsE T (k + 1)), nI (k + 1), M2), ?_, M2, rfl, hW2, hO1.tr hO2⟩
    show bX6_hoursOf_5 93 (nI f) (nI n) (nI (hsE T k)) (nI k) M1 = _
    unfold bX6_hoursOf_5
    simp (disch := first | assumption | omega | decide) only [↓reduceIte, ↓gfI_e, ↓pfI_e, ↓gfJ_e, ↓pfJ_e, ↓ltI_e, ↓ltJ_e, ↓cal_ok, ↓rz0, ↓rz1, ↓g33, ↓g45, ↓wK, ↓wO, ↓wB, ↓wL, ↓wS, ↓wP, ↓wQ, ↓wY, ↓wL0, ↓wL1, ↓wL2, ↓r93_95, ↓r93_96, ↓r93_98, ↓r93_99, ↓r93_100, ↓r93_101, ↓r93_106, ↓r93_107, ↓ldw1, ↓ldw2, ↓ldw3, ↓ldw5, ↓ldw6, ↓ldw7, ↓ldw8, ↓ldw9, ↓ldw10, ↓ldw11, ↓ld100, ↓ld101, ↓ld106, ↓ld107, nle_F, nle_T, nlt_F, nlt_T, neq_F, neq_T, nle0_T, nle0_F, nlt0_F, n0lt_T, n0lt_F, n0le_T, n1_eq0, n0_eq0, n0_eq1, n1_eq1, np1, e2, nI_pl]
    rfl) (s := (1, 93, nI f, nI n, 0, 0, M)) ⟨M, rfl, hW, Off.rf⟩
  refine ⟨M1, e1.trans (fnl_out ?_), hW1, hO1⟩
  show bX6_hoursOf_5 93 (nI f) (nI n) (nI (hsE T n)) (nI n) M1 = _
  unfold bX6_hoursOf_5
  simp (disch := first | assumption | omega | decide) only [↓reduceIte, ↓gfI_e, ↓pfI_e, ↓gfJ_e, ↓pfJ_e, ↓ltI_e, ↓ltJ_e, ↓cal_ok, ↓rz0, ↓rz1, ↓g33, ↓g45, ↓wK, ↓wO, ↓wB, ↓wL, ↓wS, ↓wP, ↓wQ, ↓wY, ↓wL0, ↓wL1, ↓wL2, ↓r93_95, ↓r93_96, ↓r93_98, ↓r93_99, ↓r93_100, ↓r93_101, ↓r93_106, ↓r93_107, ↓ldw1, ↓ldw2, ↓ldw3, ↓ldw5, ↓ldw6, ↓ldw7, ↓ldw8, ↓ldw9, ↓ldw10, ↓ldw11, ↓ld100, ↓ld101, ↓ld106, ↓ld107, nle_F, nle_T, nlt_F, nlt_T, neq_F, neq_T, nle0_T, nle0_F, nlt0_F, n0lt_T, n0lt_F, n0le_T, n1_eq0, n0_eq0, n0_eq1, n1_eq1, np1]

/-- a stone more on each place of a set, below k -/
def addS (T : WT) (S k : Nat) : WT := (tn T, tb T, tk T, ts T, te T, fun m x => if m = 1 ∧ x < k ∧ S.testBit x then tm T 1 x + 1 else tm T m x, tw T, tp T, tq T, tz T)
theorem add_0 {S : Nat} : addS T S 0 = T := by
  unfold addS
  have : (fun m x => if m = 1 ∧ x < 0 ∧ S.testBit x then tm T 1 x + 1 else tm T m x) = tm T := by
    funext m x
    rw [if_neg (by omega)]
  rw [this]
  rfl
theorem add_s {S k : Nat} : addS T S (k + 1) = setm (addS T S k) 1 k (tm T 1 k + if S.testBit k then 1 else 0) := by
  have e : (fun m x => if m = 1 ∧ x < k + 1 ∧ S.testBit x then tm T 1 x + 1 else tm T m x) = fun m x => if m = 1 ∧ x = k then (tm T 1 k + if S.testBit k then 1 else 0) else if m = 1 ∧ x < k ∧ S.testBit x then tm T 1 x + 1 else tm T m x := by
    funext m x
    by_cases q : m = 1 ∧ x = k
    · rw [if_pos q, q.1, q.2]
      by_cases r : S.testBit k = true
      · rw [if_pos ⟨rfl, by omega, r⟩, if_pos r]
      · rw [if_neg (fun z => r z.2.2), if_neg r]
        rfl
    · rw [if_neg q]
      by_cases r : m = 1 ∧ x < k ∧ S.testBit x = true
      · rw [if_pos r, if_pos ⟨r.1, by omega, r.2.2⟩]
      · rw [if_neg r, if_neg (fun z => r ⟨z.1, by omega, z.2.2⟩)]
  unfold addS
  rw [e]
  rfl
theorem vx_add (hV : VT T) {S k : Nat} : VX (addS T S k) := by
  obtain ⟨h1, h2, h3, h4, h5, h6, h7, h8, h9, h10, h11, h12⟩ := hV
  refine ⟨h1, h2, h3, h4, h5, h6, h7, h8, fun m y hm hy => ?_, h10, h11, h12⟩
  have := h9 m y hm hy
  show (if m = 1 ∧ y < k ∧ S.testBit y then tm T 1 y + 1 else tm T m y) + tq T m ≤ 30
  by_cases q : m = 1 ∧ y < k ∧ S.testBit y = true
  · rw [if_pos q]
    rw [q.1] at this ⊢
    omega
  · rw [if_neg q]; omega
theorem add_bd {S k i : Nat} : bdT (addS T S k) i = addS (bdT T i) S k := by
  have e : (fun m x => if m = 0 ∧ x < tn T ∧ (rchT T (tp T i)).testBit x then 0 else if m = 1 ∧ x < k ∧ S.testBit x then tm T 1 x + 1 else tm T m x) = fun m x => if m = 1 ∧ x < k ∧ S.testBit x then (if 1 = 0 ∧ x < tn T ∧ (rchT T (tp T i)).testBit x then 0 else tm T 1 x) + 1 else if m = 0 ∧ x < tn T ∧ (rchT T (tp T i)).testBit x then 0 else tm T m x := by
    funext m x
    by_cases q : m = 1 ∧ x < k ∧ S.testBit x = true
    · rw [if_neg (by omega), if_pos q, if_pos q, if_neg (by omega)]
    · rw [if_neg q, if_neg q]
  exact congrArg (fun f => ((tn T, tb T, tk T, ts T, te T, f, tw T, fun i1 => if i1 = i then flN (te T (tp T i)) (tp T i) else tp T i1, tq T, tz T) : WT)) e
theorem add_hb {S k : Nat} : ∀ i, hbT (addS T S k) i = addS (hbT T i) S k
  | 0 => rfl
  | i + 1 => by
    show bdT (hbT (addS T S k) i) i = addS (bdT (hbT T i) i) S k
    rw [add_hb i, add_bd]
theorem add_hs {S k : Nat} : ∀ n, hsT (addS T S k) n = addS (hsT T n) S k
  | 0 => rfl
  | n + 1 => by
    show hbT (hsT (addS T S k) n) (tb T) = addS (hbT (hsT T n) (tb T)) S k
    rw [add_hs n, add_hb]
theorem fw_add (hn : tn T ≤ 8) (hk : ∀ x, x < tn T → tk T x ≤ 5) {S : Nat} (hS : S < 2 ^ tn T) : fwT (addS T S (tn T)) = wsT T S := by
  have e1 : stS (addS T S (tn T)) = stS T ||| difN S (ofK T 5) := by
    refine set_ext (n := tn T) (setN_lt _ _) (Nat.or_lt_two_pow (setN_lt _ _) (dif_lt hS)) (fun y hy => ?_)
    unfold stS ofK
    rw [Nat.testBit_or, dif_bit (by omega), setN_bit, setN_bit, setN_bit, (isK_all _ (hk y hy)).1]
    show (decide (y < tn T) && decide (tk T y ≠ 5 ∧ (if (1 = 1 ∧ y < tn T ∧ S.testBit y) then tm T 1 y + 1 else tm T 1 y) ≠ 0)) = _
    unfold stB
    by_cases q : S.testBit y = true
    · by_cases r : tk T y = 5
      · simp [r, q, hy]
      · simp [r, hy, q]
    · simp [q, hy]
  have e2 : knS (addS T S (tn T)) = knS T := by
    unfold knS
    refine congrArg (fun p => setN p (tn T)) (funext fun y => ?_)
    show decide (tk T y ≠ 5 ∧ tk T y ≠ 2 ∧ ((if (2 = 1 ∧ y < tn T ∧ S.testBit y) then tm T 1 y + 1 else tm T 2 y) ≠ 0 ∨ tk T y = 4)) = _
    rw [if_neg (by omega)]
    rfl
  have e3 : crS (addS T S (tn T)) = crS T := by
    unfold crS
    refine congrArg (fun p => setN p (tn T)) (funext fun y => ?_)
    show decide (tk T y ≠ 5 ∧ tk T y ≠ 2 ∧ (if (0 = 1 ∧ y < tn T ∧ S.testBit y) then tm T 1 y + 1 else tm T 0 y) ≠ 0) = _
    rw [if_neg (by omega)]
    rfl
  unfold fwT wsT
  rw [e1, e2, e3]
  rfl
/-- all marks of a place are gone, the first k sorts -/
def gnT (T : WT) (x k : Nat) : WT := (tn T, tb T, tk T, ts T, te T, fun m y => if m < k ∧ y = x then 0 else tm T m y, tw T, tp T, tq T, tz T)
theorem gn_0 {x : Nat} : gnT T x 0 = T := by
  unfold gnT
  have : (fun m y => if m < 0 ∧ y = x then 0 else tm T m y) = tm T := by
    funext m y
    rw [if_neg (by omega)]
  rw [this]
  rfl
theorem gn_s {x k : Nat} : gnT T x (k + 1) = setm (gnT T x k) k x 0 := by
  have e : (fun m y => if m < k + 1 ∧ y = x then 0 else tm T m y) = fun m y => if m = k ∧ y = x then 0 else if m < k ∧ y = x then 0 else tm T m y := by
    funext m y
    by_cases q : m = k ∧ y = x
    · rw [if_pos q, if_pos (by omega)]
    · rw [if_neg q]
      by_cases r : m < k ∧ y = x
      · rw [if_pos r, if_pos (by omega)]
      · rw [if_neg r, if_neg (by omega)]
  unfold gnT
  rw [e]
  rfl
theorem VW.gn (hV : VW T) {x k : Nat} : VW (gnT T x k) := by
  obtain ⟨h1, h2, h3, h4⟩ := hV
  refine ⟨h1, h2, h3, fun m y hm hy => ?_⟩
  show (if m < k ∧ y = x then 0 else tm T m y) < 2 ^ 31
  by_cases q : m < k ∧ y = x
  · rw [if_pos q]; decide
  · rw [if_neg q]; exact h4 m y hm hy
theorem fw_gn (hn : tn T ≤ 8) (hk : ∀ x, x < tn T → tk T x ≤ 5) {x : Nat} : fwT (gnT T x 3) = (te T, difN (stS T) (2 ^ x), difN (knS T) (2 ^ x) ||| ofK T 4, difN (crS T) (2 ^ x)) := by
  have e1 : stS (gnT T x 3) = difN (stS T) (2 ^ x) := by
    refine set_ext (n := tn T) (setN_lt _ _) (dif_lt (setN_lt _ _)) (fun y hy => ?_)
    unfold stS
    rw [dif_bit (by omega), setN_bit, setN_bit, Nat.testBit_two_pow]
    show (decide (y < tn T) && decide (tk T y ≠ 5 ∧ (if (1 < 3 ∧ y = x) then 0 else tm T 1 y) ≠ 0)) = _
    unfold stB
    by_cases q : y = x
    · simp [q]
    · simp [q, hy, show ¬ x = y from fun z => q z.symm]
  have e3 : crS (gnT T x 3) = difN (crS T) (2 ^ x) := by
    refine set_ext (n := tn T) (setN_lt _ _) (dif_lt (setN_lt _ _)) (fun y hy => ?_)
    unfold crS
    rw [dif_bit (by omega), setN_bit, setN_bit, Nat.testBit_two_pow]
    show (decide (y < tn T) && decide (tk T y ≠ 5 ∧ tk T y ≠ 2 ∧ (if (0 < 3 ∧ y = x) then 0 else tm T 0 y) ≠ 0)) = _
    unfold crB
    by_cases q : y = x
    · simp [q]
    · simp [q, hy, show ¬ x = y from fun z => q z.symm]
  have e2 : knS (gnT T x 3) = difN (knS T) (2 ^ x) ||| ofK T 4 := by
    refine set_ext (n := tn T) (setN_lt _ _) (Nat.or_lt_two_pow (dif_lt (setN_lt _ _)) (setN_lt _ _)) (fun y hy => ?_)
    unfold knS ofK
    rw [Nat.testBit_or, dif_bit (by omega), setN_bit, setN_bit, setN_bit, Nat.testBit_two_pow, (isK_all _ (hk y hy)).2.2.1]
    show (decide (y < tn T) && decide (tk T y ≠ 5 ∧ tk T y ≠ 2 ∧ ((if (2 < 3 ∧ y = x) then 0 else tm T 2 y) ≠ 0 ∨ tk T y = 4))) = _
    unfold knB
    by_cases r : tk T y = 4
    · by_cases q : y = x
      · rw [q] at r hy
        simp [q, r, hy]
      · simp [q, r, hy, show ¬ x = y from fun z => q z.symm]
    · by_cases q : y = x
      · rw [q] at r
        simp [q, r]
      · simp [q, r, hy, show ¬ x = y from fun z => q z.symm]
  unfold fwT
  rw [e1, e2, e3]
  rfl
end


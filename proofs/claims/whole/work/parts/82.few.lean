/-! FEWEST, SUREST -/
theorem ite_cg {α : Type} {p q : Prop} [Decidable p] [Decidable q] (h : p ↔ q) (a b : α) : (if p then a else b) = if q then a else b := by
  by_cases z : p
  · rw [if_pos z, if_pos (h.mp z)]
  · rw [if_neg z, if_neg (fun w => z (h.mpr w))]
def bsS (lead : Nat → Bool) (off : Nat) : Nat → Nat
  | 0 => 256
  | k + 1 => if difN k off = 0 ∧ (bsS lead off k = 256 ∨ cntN k < cntN (bsS lead off k)) ∧ lead k = true then k else bsS lead off k
def cvI (c : Nat) : Int32 := if c = 256 then -9 else nI c
def fvI (c : Nat) : Int32 := if c = 256 then 9 else nI (cntN c)
theorem bsS_lt {lead : Nat → Bool} {off : Nat} : ∀ k, k ≤ 256 → bsS lead off k = 256 ∨ bsS lead off k < k
  | 0, _ => Or.inl rfl
  | k + 1, hk => by
    have h1 := bsS_lt (lead := lead) (off := off) k (by omega)
    show (if difN k off = 0 ∧ (bsS lead off k = 256 ∨ cntN k < cntN (bsS lead off k)) ∧ lead k = true then k else bsS lead off k) = 256 ∨ (if difN k off = 0 ∧ (bsS lead off k = 256 ∨ cntN k < cntN (bsS lead off k)) ∧ lead k = true then k else bsS lead off k) < k + 1
    by_cases q : difN k off = 0 ∧ (bsS lead off k = 256 ∨ cntN k < cntN (bsS lead off k)) ∧ lead k = true
    · rw [if_pos q]; omega
    · rw [if_neg q]; omega
theorem cv_no {c : Nat} (hc : c < 256) : ¬ cvI c = -9 := by
  unfold cvI
  rw [if_neg (by omega)]
  exact n9_ne (by omega)
section
variable {M : Mm} {a : Nat} {U T : WT}
theorem few_ok (h : RO M) (hw : isW a) (hC : CWd a U M) (hV : VT U) (hG : SG a U M) {off p : Nat} (hf : off < 2 ^ tn U) (hp : p < tn U) (g : Bool) : ∃ M1, fX1_fewestStones 6 (nI p) (nI off) (if g then 1 else 0) M = some (cvI (bsS (leadB U g p) off (off + 1)), M1) ∧ Off (fun c j => c = 8 ∨ c = 6 ∧ j = 8) M M1 := by
  have haw := isW_lt hw
  have hn8 := hV.n8
  have hf8 := pow_lt8 hn8 hf
  obtain ⟨gI, hgI⟩ : ∃ gI : Int32, gI = if g then 1 else 0 := ⟨_, rfl⟩
  rw [← hgI]
  unfold fX1_fewestStones bX1_fewestStones_0
  rw [fen_l]
  obtain ⟨s, e1, M1, rfl, g1, O1⟩ := fnl_go (g := gX1_fewestStones) (fun k s => ∃ M1, s = (1, 6, nI p, nI off, gI, cvI (bsS (leadB U g p) off k), fvI (bsS (leadB U g p) off k), nI k, M1) ∧ SG a U M1 ∧ Off (fun c j => c = 8 ∨ c = 6 ∧ j = 8) M M1) (off + 1) (fun k s hk hI => by
    obtain ⟨M1, rfl, g1, O1⟩ := hI
    have r1 := O1.ro h
    have hC1 : CWd a U M1 := hC.pt (fun c j q1 q2 => O1.1 c j (by omega))
    have hlt : ¬ nI off < nI k := by rw [nlt_F (by omega) (by omega)]; exact id
    have ed : (nI k &&& (nI off ^^^ (-1)) = 0) ↔ difN k off = 0 := by
      rw [nI_dif (by omega)]
      exact nI_e0 (Nat.lt_of_le_of_lt Nat.and_le_left (by omega))
    have eb : fJ6_bitCount_0f7a4 (nI k) M1 = some (nI (cntN k), M1) := by rw [bitCount_ok, bc_all k (by omega)]
    have hck := cn_le k (by omega)
    have hbs := bsS_lt (lead := leadB U g p) (off := off) k (by omega)
    have hfv : (fvI (bsS (leadB U g p) off k) ≤ nI (cntN k)) ↔ ¬ (bsS (leadB U g p) off k = 256 ∨ cntN k < cntN (bsS (leadB U g p) off k)) := by
      unfold fvI
      by_cases z : bsS (leadB U g p) off k = 256
      · rw [if_pos z, L9, nle_F (by omega) (by omega)]
        simp [z]
      · have hc2 := cn_le (bsS (leadB U g p) off k) (by omega)
        rw [if_neg z]
        by_cases w : cntN (bsS (leadB U g p) off k) ≤ cntN k
        · rw [nle_T w (by omega)]
          simp only [true_iff]
          omega
        · rw [nle_F (by omega) (by omega)]
          simp only [false_iff]
          omega
    have es : bsS (leadB U g p) off (k + 1) = if difN k off = 0 ∧ (bsS (leadB U g p) off k = 256 ∨ cntN k < cntN (bsS (leadB U g p) off k)) ∧ leadB U g p k = true then k else bsS (leadB U g p) off k := rfl
    generalize bsS (leadB U g p) off k = c at *
    by_cases q1 : difN k off = 0
    · by_cases q2 : c = 256 ∨ cntN k < cntN c
      · have hkS : k < 2 ^ tn U := Nat.lt_of_le_of_lt (by omega) hf
        obtain ⟨M2, e2, g2, O2⟩ := leads_ok r1 hw hC1 hV g1 hkS hp g
        rw [← hgI] at e2
        by_cases q3 : leadB U g p k = true
        · rw [es, if_pos ⟨q1, q2, q3⟩]
          refine ⟨(1, 6, nI p, nI off, gI, cvI k, fvI k, nI (k + 1), M2), ?_, M2, rfl, g2, O1.tr O2⟩
          rw [if_pos q3] at e2
          have eb2 : fJ6_bitCount_0f7a4 (nI k) M2 = some (nI (cntN k), M2) := by rw [bitCount_ok, bc_all k (by omega)]
          show bX1_fewestStones_11 6 (nI p) (nI off) gI (cvI c) (fvI c) (nI k) M1 = _
          unfold bX1_fewestStones_11 bX1_fewestStones_58
          rw [if_neg hlt, if_pos (ed.mpr q1), eb, cal_ok, if_neg (fun z => hfv.mp z q2), e2, cal_ok, if_neg (by decide), eb2, cal_ok, np1]
          unfold cvI fvI
          rw [if_neg (by omega), if_neg (by omega)]
        · rw [es, if_neg (fun z => q3 z.2.2)]
          refine ⟨(1, 6, nI p, nI off, gI, cvI c, fvI c, nI (k + 1), M2), ?_, M2, rfl, g2, O1.tr O2⟩
          rw [if_neg q3] at e2
          show bX1_fewestStones_11 6 (nI p) (nI off) gI (cvI c) (fvI c) (nI k) M1 = _
          unfold bX1_fewestStones_11 bX1_fewestStones_58
          rw [if_neg hlt, if_pos (ed.mpr q1), eb, cal_ok, if_neg (fun z => hfv.mp z q2), e2, cal_ok, if_pos rfl, np1]
      · rw [es, if_neg (fun z => q2 z.2.1)]
        refine ⟨(1, 6, nI p, nI off, gI, cvI c, fvI c, nI (k + 1), M1), ?_, M1, rfl, g1, O1⟩
        show bX1_fewestStones_11 6 (nI p) (nI off) gI (cvI c) (fvI c) (nI k) M1 = _
        unfold bX1_fewestStones_11 bX1_fewestStones_58
        rw [if_neg hlt, if_pos (ed.mpr q1), eb, cal_ok, if_pos (hfv.mpr q2), np1]
    · rw [es, if_neg (fun z => q1 z.1)]
      refine ⟨(1, 6, nI p, nI off, gI, cvI c, fvI c, nI (k + 1), M1), ?_, M1, rfl, g1, O1⟩
      show bX1_fewestStones_11 6 (nI p) (nI off) gI (cvI c) (fvI c) (nI k) M1 = _
      unfold bX1_fewestStones_11 bX1_fewestStones_58
      rw [if_neg hlt, if_neg (fun z => q1 (ed.mp z)), np1]) (s := (1, 6, nI p, nI off, gI, -9, 9, 0, M)) ⟨M, rfl, hG, Off.rf⟩
  refine ⟨M1, e1.trans (fnl_out ?_), O1⟩
  show bX1_fewestStones_11 6 (nI p) (nI off) gI _ _ (nI (off + 1)) M1 = _
  unfold bX1_fewestStones_11
  rw [if_pos (show nI off < nI (off + 1) by rw [nlt_T (by omega) (by omega)]; trivial)]
theorem stones_ok (h : RO M) (hW : RWd T M) (hV : VT T) {off p n : Nat} (hf : off < 2 ^ tn T) (hp : p < tn T) (hpe : M.1 93 38 = nI p) (hps : M.1 93 37 = nI off) (hn : n ≤ 40) (g : Bool) : ∃ M1, Off PB M M1 ∧ fX6_stonesFor 93 (nI n) (if g then 1 else 0) M = some (if bsS (leadB (hsT T n) g p) off (off + 1) = 256 then (-9, M1) else (nI (cntN (bsS (leadB (hsT T n) g p) off (off + 1))), wI M1 93 2 (nI (bsS (leadB (hsT T n) g p) off (off + 1))))) := by
  have hn8 := hV.n8
  have hf8 := pow_lt8 hn8 hf
  obtain ⟨lead, hlead⟩ : ∃ lead, lead = leadB (hsT T n) g p := ⟨_, rfl⟩
  obtain ⟨gI, hgI⟩ : ∃ gI : Int32, gI = if g then 1 else 0 := ⟨_, rfl⟩
  rw [← hgI, ← hlead]
  unfold fX6_stonesFor bX6_stonesFor_0
  rw [fen_l]
  have ps : ∀ M4 : Mm, Off PB M M4 → M4.1 93 37 = nI off := fun M4 o => by rw [o.1 93 37 (fun z => by unfold PB at z; omega)]; exact hps
  obtain ⟨s, e1, M1, rfl, O1⟩ := fnl_go (g := gX6_stonesFor) (fun k s => ∃ M1, s = (1, 93, nI n, gI, cvI (bsS lead off k), nI k, M1) ∧ Off PB M M1) (off + 1) (fun k s hk hI => by
    obtain ⟨M1, rfl, O1⟩ := hI
    have r1 := O1.ro h
    have hlt : ¬ nI off < nI k := by rw [nlt_F (by omega) (by omega)]; exact id
    have ed : (nI k &&& (nI off ^^^ (-1)) = 0) ↔ difN k off = 0 := by
      rw [nI_dif (by omega)]
      exact nI_e0 (Nat.lt_of_le_of_lt Nat.and_le_left (by omega))
    have hck := cn_le k (by omega)
    have hbs := bsS_lt (lead := lead) (off := off) k (by omega)
    have es : bsS lead off (k + 1) = if difN k off = 0 ∧ (bsS lead off k = 256 ∨ cntN k < cntN (bsS lead off k)) ∧ lead k = true then k else bsS lead off k := rfl
    generalize bsS lead off k = c at *
    have e38 : ∀ s0 : Int32, ∃ M2, bX6_stonesFor_38 93 (nI n) gI (cvI c) (nI k) s0 M1 = some (.inl (1, 93, nI n, gI, cvI (if difN k off = 0 ∧ ¬ s0 = 0 ∧ lead k = true then k else c), nI (k + 1), M2)) ∧ Off PB M M2 := by
      intro s0
      unfold bX6_stonesFor_38 bX6_stonesFor_73 bX6_stonesFor_74
      rw [gfI_e, ps M1 O1]
      by_cases q1 : difN k off = 0
      · rw [if_pos (ed.mpr q1)]
        by_cases q2 : s0 = 0
        · rw [if_pos q2, if_neg (fun z => z.2.1 q2), np1]
          exact ⟨M1, rfl, O1⟩
        · have hkS : k < 2 ^ tn T := Nat.lt_of_le_of_lt (by omega) hf
          have hW1 : RWd T M1 := hW.same2 hV (fun c j q => O1.1 c j (fun z => by unfold PB at z; omega))
          obtain ⟨M2, e2, O2⟩ := brings_ok r1 hW1 hV hkS hp (by rw [O1.1 93 38 (fun z => by unfold PB at z; omega)]; exact hpe) hn g
          rw [← hgI, ← hlead] at e2
          rw [if_neg q2, e2, cal_ok, np1]
          refine ⟨M2, ?_, O1.tr O2⟩
          by_cases q3 : lead k = true
          · rw [if_pos q3, if_neg (by decide), if_pos ⟨q1, q2, q3⟩]
            unfold cvI
            rw [if_neg (by omega)]
          · rw [if_neg q3, if_pos rfl, if_neg (fun z => q3 z.2.2)]
      · rw [if_neg (fun z => q1 (ed.mp z)), if_neg (fun z => q1 z.1), np1]
        exact ⟨M1, rfl, O1⟩
    rw [es]
    by_cases q : c = 256
    · obtain ⟨M2, e2, O2⟩ := e38 1
      refine ⟨(1, 93, nI n, gI, cvI (if difN k off = 0 ∧ (c = 256 ∨ cntN k < cntN c) ∧ lead k = true then k else c), nI (k + 1), M2), ?_, M2, rfl, O2⟩
      show bX6_stonesFor_6 93 (nI n) gI (cvI c) (nI k) M1 = _
      unfold bX6_stonesFor_6 bX6_stonesFor_33
      rw [gfI_e, ps M1 O1, if_neg hlt, if_pos (show cvI c = -9 by unfold cvI; rw [if_pos q]), e2]
      rw [ite_cg (show (difN k off = 0 ∧ ¬ (1 : Int32) = 0 ∧ lead k = true) ↔ (difN k off = 0 ∧ (c = 256 ∨ cntN k < cntN c) ∧ lead k = true) from ⟨fun z => ⟨z.1, Or.inl q, z.2.2⟩, fun z => ⟨z.1, by decide, z.2.2⟩⟩)]
    · have hc : c < 256 := by omega
      have hc2 := cn_le c hc
      have ev : cvI c = nI c := by unfold cvI; rw [if_neg q]
      have eb1 := bits_ok (M := M1) (S := k) (by omega)
      have eb2 := bits_ok (M := M1) (S := c) hc
      by_cases q2 : cntN c ≤ cntN k
      · obtain ⟨M2, e2, O2⟩ := e38 0
        refine ⟨(1, 93, nI n, gI, cvI (if difN k off = 0 ∧ (c = 256 ∨ cntN k < cntN c) ∧ lead k = true then k else c), nI (k + 1), M2), ?_, M2, rfl, O2⟩
        show bX6_stonesFor_6 93 (nI n) gI (cvI c) (nI k) M1 = _
        unfold bX6_stonesFor_6
        rw [gfI_e, ps M1 O1, if_neg hlt, if_neg (cv_no hc), eb1, cal_ok, ev, eb2, cal_ok, if_pos (nI_le q2 (by omega)), ← ev, e2, if_neg (fun z => z.2.1 rfl), if_neg (fun z => by omega)]
      · obtain ⟨M2, e2, O2⟩ := e38 1
        refine ⟨(1, 93, nI n, gI, cvI (if difN k off = 0 ∧ (c = 256 ∨ cntN k < cntN c) ∧ lead k = true then k else c), nI (k + 1), M2), ?_, M2, rfl, O2⟩
        show bX6_stonesFor_6 93 (nI n) gI (cvI c) (nI k) M1 = _
        unfold bX6_stonesFor_6 bX6_stonesFor_33
        rw [gfI_e, ps M1 O1, if_neg hlt, if_neg (cv_no hc), eb1, cal_ok, ev, eb2, cal_ok, if_neg (show ¬ nI (cntN c) ≤ nI (cntN k) by rw [nle_F (by omega) (by omega)]; exact id), ← ev, e2]
        rw [ite_cg (show (difN k off = 0 ∧ ¬ (1 : Int32) = 0 ∧ lead k = true) ↔ (difN k off = 0 ∧ (c = 256 ∨ cntN k < cntN c) ∧ lead k = true) from ⟨fun z => ⟨z.1, Or.inr (by omega), z.2.2⟩, fun z => ⟨z.1, by decide, z.2.2⟩⟩)]) (s := (1, 93, nI n, gI, -9, 0, M)) ⟨M, rfl, Off.rf⟩
  have r1 := O1.ro h
  have hbs := bsS_lt (lead := lead) (off := off) (off + 1) (by omega)
  generalize bsS lead off (off + 1) = c at *
  refine ⟨M1, O1, e1.trans (fnl_out ?_)⟩
  show bX6_stonesFor_6 93 (nI n) gI (cvI c) (nI (off + 1)) M1 = _
  unfold bX6_stonesFor_6
  rw [gfI_e, ps M1 O1, if_pos (show nI off < nI (off + 1) by rw [nlt_T (by omega) (by omega)]; trivial)]
  by_cases q : c = 256
  · rw [if_pos (show cvI c = -9 by unfold cvI; rw [if_pos q]), if_pos q]
  · have ev : cvI c = nI c := by unfold cvI; rw [if_neg q]
    rw [if_neg (cv_no (by omega)), if_neg q, ev, bits_ok (by omega), cal_ok, tells_ok, cal_ok]
/-! the plan -/
def plG (T : WT) (f : Nat → Int32) : Nat → Nat → Nat → Nat → Option (Nat × Nat)
  | 0, _, p, S => some (p, S)
  | d + 1, i, p, S => if (0 ≤ f i ∧ f i < nI (tn T)) ∧ (te T p).testBit (f i).toNatClampNeg = true then plG T f d (i + 1) (f i).toNatClampNeg (S ||| 2 ^ (f i).toNatClampNeg) else none
theorem plG_in {f : Nat → Int32} (hn8 : tn T ≤ 8) : ∀ d i p S r, plG T f d i p S = some r → p < tn T → S < 2 ^ tn T → r.1 < tn T ∧ r.2 < 2 ^ tn T := by
  intro d
  induction d with
  | zero =>
    intro i p S r h hp hS
    have : (p, S) = r := Option.some.inj h
    rw [← this]
    exact ⟨hp, hS⟩
  | succ d ih =>
    intro i p S r h hp hS
    have h : (if (0 ≤ f i ∧ f i < nI (tn T)) ∧ (te T p).testBit (f i).toNatClampNeg = true then plG T f d (i + 1) (f i).toNatClampNeg (S ||| 2 ^ (f i).toNatClampNeg) else none) = some r := h
    by_cases q : (0 ≤ f i ∧ f i < nI (tn T)) ∧ (te T p).testBit (f i).toNatClampNeg = true
    · rw [if_pos q] at h
      obtain ⟨x, hx, ex⟩ := i32_lt_nat (n := tn T) (by omega) q.1.1 q.1.2
      rw [ex, cl_n (by omega)] at h
      exact ih _ _ _ _ h hx (Nat.or_lt_two_pow hS (pow_lt hx))
    · rw [if_neg q] at h
      exact absurd h (by simp)
theorem plan5_go (h : RO M) (hC : CWd 33 T M) (hV : VT T) {k n sz : Nat} (hk : k < 6) (hsz : sz ≤ 8) (hz : M.1 (13 + 2 * k) 1 = nI sz) {f : Nat → Int32} (hf : ∀ i, i < sz → M.1 (13 + 2 * k + 1) i = f i) (gI : Int32) : ∀ d i p S, i + d = sz → p < tn T → S < 2 ^ tn T → fnl gX5_plan (1, 0, nI k, nI n, gI, nI p, nI S, nI i, M) = match plG T f d i p S with
    | none => some (-3, refuseM M 3)
    | some r => fnl gX5_plan (1, 0, nI k, nI n, gI, nI r.1, nI r.2, nI sz, M) := by
  have hn8 := hV.n8
  intro d
  induction d with
  | zero =>
    intro i p S hi hp hS
    rw [show i = sz by omega]
    rfl
  | succ d ih =>
    intro i p S hi hp hS
    have eg : plG T f (d + 1) i p S = if (0 ≤ f i ∧ f i < nI (tn T)) ∧ (te T p).testBit (f i).toNatClampNeg = true then plG T f d (i + 1) (f i).toNatClampNeg (S ||| 2 ^ (f i).toNatClampNeg) else none := rfl
    have hfi := hf i (by omega)
    have er := refuse_ok h (v := 3) (f := 3) rfl (by decide)
    rw [eg]
    by_cases q1 : 0 ≤ f i ∧ f i < nI (tn T)
    · obtain ⟨x, hx, ex⟩ := i32_lt_nat (n := tn T) (by omega) q1.1 q1.2
      have ec : (f i).toNatClampNeg = x := by rw [ex, cl_n (by omega)]
      rw [ec]
      have eb := isBeside_ok h w33 hC hV hp (y := x) (by omega)
      by_cases q2 : (te T p).testBit x = true
      · rw [if_pos ⟨q1, q2⟩]
        rw [if_pos q2] at eb
        refine (fnl_in ?_).trans (ih (i + 1) x (S ||| 2 ^ x) (by omega) hx (Nat.or_lt_two_pow hS (pow_lt hx)))
        show bX5_plan_89 0 (nI k) (nI n) gI (nI p) (nI S) (nI i) M = _
        unfold bX5_plan_89
        rw [g1s h, ldRow h hk, gfI_e, hz, if_neg (show ¬ nI sz ≤ nI i by rw [nle_F (by omega) (by omega)]; exact id), g1s h, ldRow h hk, gStrip h hk, ldRow1 hk (by omega), hfi, g33 h, hasPlace_ok hC, cal_ok, if_pos q1, if_neg (by decide), g33 h, ex, eb, cal_ok, if_neg (by decide), ltI_e, shl1 x (by omega), nI_or, np1]
      · rw [if_neg (fun z => q2 z.2)]
        rw [if_neg q2] at eb
        refine fnl_out ?_
        show bX5_plan_89 0 (nI k) (nI n) gI (nI p) (nI S) (nI i) M = _
        unfold bX5_plan_89 bX5_plan_143
        rw [g1s h, ldRow h hk, gfI_e, hz, if_neg (show ¬ nI sz ≤ nI i by rw [nle_F (by omega) (by omega)]; exact id), g1s h, ldRow h hk, gStrip h hk, ldRow1 hk (by omega), hfi, g33 h, hasPlace_ok hC, cal_ok, if_pos q1, if_neg (by decide), g33 h, ex, eb, cal_ok, if_pos rfl, er, cal_ok]
    · rw [if_neg (fun z => q1 z.1)]
      refine fnl_out ?_
      show bX5_plan_89 0 (nI k) (nI n) gI (nI p) (nI S) (nI i) M = _
      unfold bX5_plan_89 bX5_plan_143
      rw [g1s h, ldRow h hk, gfI_e, hz, if_neg (show ¬ nI sz ≤ nI i by rw [nle_F (by omega) (by omega)]; exact id), g1s h, ldRow h hk, gStrip h hk, ldRow1 hk (by omega), hfi, g33 h, hasPlace_ok hC, cal_ok, if_neg q1, if_pos rfl, er, cal_ok]
def P37 (c j : Nat) : Prop := c = 93 ∧ (j = 37 ∨ j = 38)
theorem plan6_go (hV : VT T) {k sz : Nat} (hk : k < 6) (hsz : sz ≤ 8) {f : Nat → Int32} : ∀ d i p S (M : Mm), i + d = sz → p < tn T → S < 2 ^ tn T → RO M → RWd T M → M.1 95 k = nI sz → (∀ i, i < sz → M.1 96 (40 * k + i) = f i) → M.1 93 38 = nI p → M.1 93 37 = nI S → ∃ M1, Off P37 M M1 ∧ fnl gX6_needPlan (1, 93, nI k, nI i, M) = (match plG T f d i p S with
    | none => some (-3, meetsM M1 3)
    | some _ => some (0, M1)) ∧ (∀ r, plG T f d i p S = some r → M1.1 93 38 = nI r.1 ∧ M1.1 93 37 = nI r.2) := by
  have hn8 := hV.n8
  intro d
  induction d with
  | zero =>
    intro i p S M hi hp hS h hW hz hf e38 e37
    refine ⟨M, Off.rf, fnl_out ?_, fun r hr => ?_⟩
    · show bX6_needPlan_81 93 (nI k) (nI i) M = _
      unfold bX6_needPlan_81
      rw [r93_95 h, ld95 hk, hz, if_pos (nI_le (show sz ≤ i by omega) (by omega))]
    · have : (p, S) = r := Option.some.inj hr
      rw [← this]
      exact ⟨e38, e37⟩
  | succ d ih =>
    intro i p S M hi hp hS h hW hz hf e38 e37
    have eg : plG T f (d + 1) i p S = if (0 ≤ f i ∧ f i < nI (tn T)) ∧ (te T p).testBit (f i).toNatClampNeg = true then plG T f d (i + 1) (f i).toNatClampNeg (S ||| 2 ^ (f i).toNatClampNeg) else none := rfl
    have hfi := hf i (by omega)
    have er := meets_ok h (v := 3) (f := 3) rfl (by decide)
    have ea := rowAt_ok h hk (show i < 40 by omega)
    rw [hfi] at ea
    have hlt : ¬ nI sz ≤ nI i := by rw [nle_F (by omega) (by omega)]; exact id
    rw [eg]
    by_cases q1 : 0 ≤ f i ∧ f i < nI (tn T)
    · obtain ⟨x, hx, ex⟩ := i32_lt_nat (n := tn T) (by omega) q1.1 q1.2
      have ec : (f i).toNatClampNeg = x := by rw [ex, cl_n (by omega)]
      rw [ec]
      have eh := has_ok (M := M) (hV.e8 hp) (show x < 8 by omega)
      by_cases q2 : (te T p).testBit x = true
      · rw [if_pos ⟨q1, q2⟩]
        rw [if_pos q2] at eh
        obtain ⟨M2, hM2⟩ : ∃ M2, M2 = wI (wI M 93 38 (nI x)) 93 37 (nI (S ||| 2 ^ x)) := ⟨_, rfl⟩
        have O2 : Off P37 M M2 := by rw [hM2]; exact (Off.rf.wI ⟨rfl, Or.inr rfl⟩).wI ⟨rfl, Or.inl rfl⟩
        have o2 : ∀ c j, ¬ P37 c j → M2.1 c j = M.1 c j := O2.1
        obtain ⟨M3, O3, e3, f3⟩ := ih (i + 1) x (S ||| 2 ^ x) M2 (by omega) hx (Nat.or_lt_two_pow hS (pow_lt hx)) (O2.ro h) (hW.same2 hV (fun c j q => o2 c j (fun z => by unfold P37 at z; omega))) (by rw [o2 _ _ (fun z => by unfold P37 at z; omega)]; exact hz) (fun i hi => by rw [o2 _ _ (fun z => by unfold P37 at z; omega)]; exact hf i hi) (by rw [hM2, wI_at, if_neg (by omega), wI_at, if_pos ⟨rfl, rfl⟩]) (by rw [hM2, wI_at, if_pos ⟨rfl, rfl⟩])
        refine ⟨M3, O2.tr O3, (fnl_in ?_).trans e3, f3⟩
        show bX6_needPlan_81 93 (nI k) (nI i) M = _
        unfold bX6_needPlan_81
        rw [r93_95 h, ld95 hk, hz, if_neg hlt, ea, cal_ok, isPlace_ok hW hn8, cal_ok, if_pos q1, if_neg (by decide), r93_101 h, gfI_e, e38, ld101 (by omega), hW.2.2.2.2.1 p hp, ex, eh, cal_ok, if_neg (by decide), pfI_e, gfI_e, show (wI M 93 38 (nI x)).1 93 37 = nI S by rw [wI_at, if_neg (by omega)]; exact e37, shl1 x (by omega), nI_or, pfI_e, ← hM2, np1]
      · rw [if_neg (fun z => q2 z.2)]
        rw [if_neg q2] at eh
        refine ⟨M, Off.rf, fnl_out ?_, fun r hr => absurd hr (by simp)⟩
        show bX6_needPlan_81 93 (nI k) (nI i) M = _
        unfold bX6_needPlan_81 bX6_needPlan_125
        rw [r93_95 h, ld95 hk, hz, if_neg hlt, ea, cal_ok, isPlace_ok hW hn8, cal_ok, if_pos q1, if_neg (by decide), r93_101 h, gfI_e, e38, ld101 (by omega), hW.2.2.2.2.1 p hp, ex, eh, cal_ok, if_pos rfl, er, cal_ok]
    · rw [if_neg (fun z => q1 z.1)]
      refine ⟨M, Off.rf, fnl_out ?_, fun r hr => absurd hr (by simp)⟩
      show bX6_needPlan_81 93 (nI k) (nI i) M = _
      unfold bX6_needPlan_81 bX6_needPlan_125
      rw [r93_95 h, ld95 hk, hz, if_neg hlt, ea, cal_ok, isPlace_ok hW hn8, cal_ok, if_neg q1, if_pos rfl, er, cal_ok]
end
theorem rel_37 {M M1 : Mm} {f : Nat} (h : Rel M) (hf : f < 6) (hO : Off P37 (refuseM M f) M1) : Rel (meetsM M1 f) := by
  have h0 := rel_refuse h f
  refine h0.sc (hO.ro h.1 : RO M1) (fun c j hi => ?_) (by show M1.2.1 = _; rw [hO.2]; rfl)
  unfold imp at hi
  show (if c = 94 ∧ j = f then M1.1 94 f + 1 else if c = 93 ∧ j = 0 then nI f else M1.1 c j) = (if c = 94 ∧ j = f then (refuseM M f).1 94 f + 1 else if c = 93 ∧ j = 0 then nI f else (refuseM M f).1 c j)
  by_cases q : c = 94 ∧ j = f
  · rw [if_pos q, if_pos q, hO.1 94 f (fun z => by unfold P37 at z; omega)]
  · rw [if_neg q, if_neg q]
    by_cases r : c = 93 ∧ j = 0
    · rw [if_pos r, if_pos r]
    · rw [if_neg r, if_neg r]
      exact hO.1 c j (fun z => by unfold P37 at z; omega)

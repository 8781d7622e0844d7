/-! LOTS -/
def jn (N : Nat) : Int64 := Int64.ofNat N
theorem jn_toInt {N : Nat} (h : N < 2 ^ 63) : (jn N).toInt = (N : Int) := Int64.toInt_ofNat_of_lt h
theorem jn_div {N K : Nat} (hN : N < 2 ^ 62) (hK : K < 2 ^ 62) : jn N / jn K = jn (N / K) := by
  have hd : N / K ≤ N := Nat.div_le_self _ _
  apply Int64.toInt_inj.mp
  rw [Int64.toInt_div, jn_toInt (by omega), jn_toInt (by omega)]
  rw [Int.tdiv_eq_ediv_of_nonneg (by omega), ← Int.natCast_ediv]
  obtain ⟨q, hq⟩ : ∃ q, q = N / K := ⟨_, rfl⟩
  rw [← hq] at hd ⊢
  rw [jn_toInt (by omega)]
  exact Int.bmod_eq_of_le (by omega) (by omega)
theorem jn_rm {N K : Nat} (hN : N < 2 ^ 62) (hK : K < 2 ^ 62) : jn N - jn N / jn K * jn K = jn (N % K) := by
  rw [jn_div hN hK]
  show Int64.ofNat N - Int64.ofNat (N / K) * Int64.ofNat K = Int64.ofNat (N % K)
  rw [← Int64.ofNat_mul]
  have h := Nat.div_add_mod N K
  rw [Nat.mul_comm] at h
  have e : Int64.ofNat N = Int64.ofNat (N / K * K) + Int64.ofNat (N % K) := by rw [← Int64.ofNat_add, h]
  rw [e, Int64.add_comm, Int64.add_sub_cancel]
theorem jn_I {N : Nat} (h : N < 2 ^ 31) : (nI N).toInt64 = jn N := by
  apply Int64.toInt_inj.mp
  rw [Int32.toInt_toInt64, nI_toInt h, jn_toInt (by omega)]
theorem jn_32 {N : Nat} (h : N < 2 ^ 31) : (jn N).toInt32 = nI N := by
  rw [← jn_I h]
  exact Int32.toInt32_toInt64 _
theorem jn_ne {N : Nat} (h0 : N ≠ 0) (h : N < 2 ^ 62) : ¬ jn N = 0 := fun q => by
  have := congrArg Int64.toInt q
  rw [jn_toInt (by omega)] at this
  have z : (0 : Int64).toInt = 0 := by decide
  rw [z] at this
  omega
/-! the member of a set -/
def clN (S : Nat) : Nat → Nat
  | 0 => S
  | i + 1 => clN S i &&& (clN S i - 1)
def mbN (S i : Nat) : Nat := lsN (clN S i) 0
theorem mb_all : ∀ S, S < 256 → ∀ i, i < 8 → i < cntN S → (clN S i ≠ 0 ∧ clN S i < 256) ∧ mbN S i < 8 ∧ S.testBit (mbN S i) = true := by decide +kernel
theorem cl_step {S i : Nat} (h : clN S i ≠ 0) : nI (clN S i) &&& (nI (clN S i) - 1) = nI (clN S (i + 1)) := by
  rw [show nI (clN S i) - 1 = nI (clN S i - 1) from nsub (b := 1) (by omega), nI_and]
  rfl
theorem member_ok {S i : Nat} {M : Mm} (hS : S < 256) (hi : i < cntN S) : fX5_member (nI S) (nI i) M = some (nI (mbN S i), M) := by
  have h8 := cn_le S hS
  unfold fX5_member bX5_member_0
  rw [fen_l]
  refine fnl_loop (fun k => (1, nI i, nI (clN S k), nI k, M)) i (fun k hk => ?_) ?_
  · show bX5_member_4 (nI i) (nI (clN S k)) (nI k) M = some (Sum.inl (1, nI i, nI (clN S (k + 1)), nI (k + 1), M))
    unfold bX5_member_4
    rw [if_neg (show ¬ nI i ≤ nI k by rw [nle_F hk (by omega)]; exact id), cl_step (mb_all S hS k (by omega) (by omega)).1.1, ltI_e, np1]
  · show bX5_member_4 (nI i) (nI (clN S i)) (nI i) M = _
    have hm := mb_all S hS i (by omega) hi
    unfold bX5_member_4
    rw [if_pos (nI_le (Nat.le_refl _) (by omega)), least_ok, cal_ok, (ls_all _ hm.1.2 hm.1.1).2.2.2]
    rfl
/-- scanning: how many are left at a place -/
def lfN (S i x : Nat) : Nat := i - sumB (fun y => S.testBit y) x
def scB (S i : Nat) : Bool := (List.range (mbN S i)).all (fun x => (!S.testBit x || lfN S i x != 0) && (lfN S i (x + 1) == lfN S i x - (if S.testBit x then 1 else 0))) && (lfN S i (mbN S i) == 0)
theorem sc_b : ∀ S, S < 256 → ∀ i, i < 8 → i < cntN S → scB S i = true := by decide +kernel
theorem sc_all (S : Nat) (hS : S < 256) (i : Nat) (hi : i < 8) (hc : i < cntN S) : (∀ x, x < mbN S i → (S.testBit x = false ∨ lfN S i x ≠ 0) ∧ lfN S i (x + 1) = lfN S i x - (if S.testBit x then 1 else 0)) ∧ lfN S i (mbN S i) = 0 := by
  have h := sc_b S hS i hi hc
  unfold scB at h
  rw [Bool.and_eq_true, List.all_eq_true] at h
  refine ⟨fun x hx => ?_, by simpa using h.2⟩
  have h1 := h.1 x (List.mem_range.mpr hx)
  rw [Bool.and_eq_true] at h1
  refine ⟨?_, by simpa using h1.2⟩
  cases hb : S.testBit x with
  | false => exact Or.inl rfl
  | true =>
    have h2 := h1.1
    rw [hb] at h2
    exact Or.inr (by simpa using h2)
def lx (T : WT) : Nat := te T (hereN T)
def lpl (T : WT) (N : Nat) : Nat := mbN (lx T) (N % cntN (lx T))
def ltT (T : WT) (N : Nat) : WT := if N / 64 % 2 = 1 ∧ tq T 0 ≠ 0 then dropT (setq (setz T (lpl T N)) 0 (tq T 0 - 1)) 0 (lpl T N) else setz T (lpl T N)
def nxL (N : Nat) : Nat := N * 48271 % 2147483647
def ltF : Nat → Nat → WT → Nat → Nat × WT
  | 0, i, T, _ => (i, T)
  | d + 1, i, T, N => if lx T = 0 then (i, T) else ltF d (i + 1) (ltT T (nxL N)) (nxL N)
theorem cnt_0 : ∀ S, S < 256 → S ≠ 0 → cntN S ≠ 0 := by decide +kernel
section
variable {M : Mm} {T : WT}
theorem lpl_in (hV : VT T) (h0 : tn T ≠ 0) (hl : lx T ≠ 0) (N : Nat) : N % cntN (lx T) < cntN (lx T) ∧ cntN (lx T) ≤ 8 ∧ lpl T N < tn T := by
  have hh := here_lt hV h0
  have he := hV.e8 hh
  have hc := cnt_0 (lx T) he hl
  have h1 : N % cntN (lx T) < cntN (lx T) := Nat.mod_lt _ (by omega)
  have h8 := cn_le (lx T) he
  have hm := mb_all (lx T) he _ (by omega) h1
  refine ⟨h1, h8, ?_⟩
  refine Classical.byContradiction fun z => ?_
  have : (lx T).testBit (mbN (lx T) (N % cntN (lx T))) = false := Nat.testBit_lt_two_pow (Nat.lt_of_lt_of_le (hV.en hh) (Nat.pow_le_pow_right (by decide) (Nat.not_lt.mp z)))
  rw [hm.2.2] at this
  exact absurd this (by decide)
theorem vt_lt (hV : VT T) (h0 : tn T ≠ 0) (hl : lx T ≠ 0) (hs : ts T < 30) (N : Nat) : VT (ltT T N) ∧ tn (ltT T N) = tn T ∧ tb (ltT T N) = tb T ∧ tk (ltT T N) = tk T ∧ ts (ltT T N) = ts T + 1 := by
  have hp := (lpl_in hV h0 hl N).2.2
  have hz := hV.setz (v := lpl T N) h0 hp hs
  unfold ltT
  by_cases q : N / 64 % 2 = 1 ∧ tq T 0 ≠ 0
  · rw [if_pos q]
    have hq := VT.setq (T := setz T (lpl T N)) (m := 0) (v := tq T 0 - 1) hz h0 (by show tq T 0 - 1 ≤ tq T 0; omega)
    have hmk := hV.mk (m := 0) (by decide) hp
    have hd := VT.drop (T := setq (setz T (lpl T N)) 0 (tq T 0 - 1)) (m := 0) (x := lpl T N) hq (by
      show tm T 0 (lpl T N) + 1 + (if 0 = 0 then tq T 0 - 1 else tq T 0) ≤ 29
      rw [if_pos rfl]
      omega)
    obtain ⟨n1, n2, n3, n4, n5⟩ := dropT_n (T := setq (setz T (lpl T N)) 0 (tq T 0 - 1)) (m := 0) (x := lpl T N)
    exact ⟨hd, n1, n2, n3, n4⟩
  · rw [if_neg q]
    exact ⟨hz, rfl, rfl, rfl, rfl⟩
theorem lot_num {N : Nat} (hN : N < 2147483647) : jn N * 48271 - jn N * 48271 / 2147483647 * 2147483647 = jn (nxL N) ∧ nxL N < 2147483647 := by
  have e : jn N * 48271 = jn (N * 48271) := (Int64.ofNat_mul N 48271).symm
  refine ⟨?_, Nat.mod_lt _ (by decide)⟩
  rw [e]
  exact jn_rm (K := 2147483647) (by omega) (by decide)
theorem lot_odd {N : Nat} (hN : N < 2147483647) : (lg_cmp (jn N / 64 - jn N / 64 / 2 * 2) 1 = 0) ↔ N / 64 % 2 = 1 := by
  rw [show jn N / 64 = jn (N / 64) from jn_div (K := 64) (by omega) (by decide), show jn (N / 64) - jn (N / 64) / 2 * 2 = jn (N / 64 % 2) from jn_rm (K := 2) (by omega) (by decide), lg_e0]
  have hl : N / 64 % 2 < 2 := Nat.mod_lt _ (by decide)
  constructor
  · intro q
    have := congrArg Int64.toInt q
    rw [jn_toInt (by omega)] at this
    have z : (1 : Int64).toInt = 1 := by decide
    rw [z] at this
    omega
  · intro q
    rw [q]
    rfl
theorem lots5_go {n : Nat} (hn : n ≤ 20) : ∀ d i (T : WT) N (M : Mm), i + d = n → VT T → tn T ≠ 0 → CWd 33 T M → RO M → ts T + d ≤ 30 → N < 2147483647 → ∃ M1, fnl gX5_lots (1, 0, nI n, jn N, nI i, M) = some (nI (ltF d i T N).1, M1) ∧ CWd 33 (ltF d i T N).2 M1 ∧ Off (fun c _ => 33 ≤ c ∧ c ≤ 44) M M1 := by
  intro d
  induction d with
  | zero =>
    intro i T N M hi hV h0 hC h hs hN
    refine ⟨M, fnl_out ?_, hC, Off.rf⟩
    show bX5_lots_61 0 (nI n) (jn N) (nI i) M = _
    unfold bX5_lots_61
    rw [show i = n by omega, if_pos (nI_le (Nat.le_refl _) (by omega))]
    rfl
  | succ d ih =>
    intro i T N M hi hV h0 hC h hs hN
    have hn8 := hV.n8
    have hw := w33
    have hh := here_lt hV h0
    have he := hV.e8 hh
    have he : lx T < 256 := he
    have hlt : ¬ nI n ≤ nI i := by rw [nle_F (by omega) (by omega)]; exact id
    have ee := hC.e hh
    have ee : M.1 (33 + 3) (hereN T) = nI (lx T) := ee
    have e0 : ltF (d + 1) i T N = if lx T = 0 then (i, T) else ltF d (i + 1) (ltT T (nxL N)) (nxL N) := rfl
    rw [e0]
    by_cases ql : lx T = 0
    · rw [if_pos ql]
      refine ⟨M, fnl_out ?_, hC, Off.rf⟩
      show bX5_lots_61 0 (nI n) (jn N) (nI i) M = _
      unfold bX5_lots_61
      rw [if_neg hlt, g33 h, wB h hw, g33 h, standing_ok h hw hC hV.s30, cal_ok, show tz T (ts T) = hereN T from rfl, ldw3 hw (by omega), ee, ql, if_pos nI_0]
    · rw [if_neg ql]
      obtain ⟨k1, k2, k3⟩ := lpl_in hV h0 ql (nxL N)
      obtain ⟨l1, l2⟩ := lot_num hN
      obtain ⟨v1, v2, v3, v4, v5⟩ := vt_lt hV h0 ql (by omega) (nxL N)
      have hnx : ¬ nI (lx T) = 0 := nI_ne0 (by omega) (by omega)
      have eb : fJ6_bitCount_0f7a4 (nI (lx T)) M = some (nI (cntN (lx T)), M) := by rw [bitCount_ok, bc_all _ he]
      have c0 := cnt_0 _ he ql
      have er : jn (nxL N) - jn (nxL N) / (nI (cntN (lx T))).toInt64 * (nI (cntN (lx T))).toInt64 = jn (nxL N % cntN (lx T)) := by
        rw [jn_I (by omega)]
        exact jn_rm (by omega) (by omega)
      have hcz : ¬ (nI (cntN (lx T))).toInt64 = 0 := by rw [jn_I (by omega)]; exact jn_ne c0 (by omega)
      have em := member_ok (M := M) he k1
      have est := stepTo_ok h hw hC (v := lpl T (nxL N)) (by omega)
      obtain ⟨M2, hM2⟩ : ∃ M2, M2 = wI (wI M 33 2 (nI (ts T + 1))) (33 + 11) (ts T + 1) (nI (lpl T (nxL N))) := ⟨_, rfl⟩
      rw [← hM2] at est
      have r2 : RO M2 := by rw [hM2]; exact h
      have hC2 : CWd 33 (setz T (lpl T (nxL N))) M2 := by rw [hM2]; exact hC.setz
      have O2 : Off (fun c _ => 33 ≤ c ∧ c ≤ 44) M M2 := by rw [hM2]; exact (Off.rf.wI (by omega)).wI (by omega)
      have key : ∀ M3 : Mm, RO M3 → CWd 33 (ltT T (nxL N)) M3 → Off (fun c _ => 33 ≤ c ∧ c ≤ 44) M M3 → bX5_lots_61 0 (nI n) (jn N) (nI i) M = some (.inl (1, 0, nI n, jn (nxL N), nI (i + 1), M3)) → ∃ M1, fnl gX5_lots (1, 0, nI n, jn N, nI i, M) = some (nI (ltF d (i + 1) (ltT T (nxL N)) (nxL N)).1, M1) ∧ CWd 33 (ltF d (i + 1) (ltT T (nxL N)) (nxL N)).2 M1 ∧ Off (fun c _ => 33 ≤ c ∧ c ≤ 44) M M1 := by
        intro M3 r3 hC3 O3 e3
        obtain ⟨M4, e4, hC4, O4⟩ := ih (i + 1) (ltT T (nxL N)) (nxL N) M3 (by omega) v1 (by rw [v2]; exact h0) hC3 r3 (by rw [v5]; omega) l2
        exact ⟨M4, (fnl_in e3).trans e4, hC4, O3.tr O4⟩
      have pre : ∀ z, bX5_lots_61 0 (nI n) (jn N) (nI i) M = z ↔ (if lg_cmp (jn (nxL N) / 64 - jn (nxL N) / 64 / 2 * 2) 1 = 0 then gfR M2 14 0 2 fun v17 => gfR M2 0 v17 9 fun v18 => ldI M2 v18 0 fun v19 => if v19 ≤ 0 then bX5_lots_157 0 (nI n) (jn (nxL N)) (nI i) M2 else gfR M2 14 0 2 fun v20 => cal (fX4_dropHere v20 0 M2) fun _ M21 => bX5_lots_157 0 (nI n) (jn (nxL N)) (nI i) M21 else bX5_lots_157 0 (nI n) (jn (nxL N)) (nI i) M2) = z := by
        intro z
        unfold bX5_lots_61
        rw [if_neg hlt, g33 h, wB h hw, g33 h, standing_ok h hw hC hV.s30, cal_ok, show tz T (ts T) = hereN T from rfl, ldw3 hw (by omega), ee, if_neg hnx, rmJ_ok (show ¬ (2147483647 : Int64) = 0 by decide), l1, g33 h, eb, cal_ok, rmJ_ok hcz, er, jn_32 (by omega), em, cal_ok, show mbN (lx T) (nxL N % cntN (lx T)) = lpl T (nxL N) from rfl, est, cal_ok, dvJ_ok (show ¬ (64 : Int64) = 0 by decide), rmJ_ok two_ne]
      have hz2 := VT.setz hV (v := lpl T (nxL N)) h0 k3 (by omega)
      have q2 : M2.1 (33 + 10) 0 = nI (tq T 0) := hC2.q (x := 0) (by decide)
      have hq9 := hV.pk (m := 0) (by decide)
      by_cases qa : nxL N / 64 % 2 = 1
      · by_cases qb : tq T 0 = 0
        · have et : ltT T (nxL N) = setz T (lpl T (nxL N)) := by unfold ltT; rw [if_neg (fun z => z.2 qb)]
          refine key M2 r2 (by rw [et]; exact hC2) O2 ((pre _).mpr ?_)
          unfold bX5_lots_157
          rw [if_pos ((lot_odd l2).mpr qa), g33 r2, wQ r2 hw, show ldI M2 (33 + 10) 0 _ = ldI M2 (33 + 10) (nI 0) _ from rfl, ldw10 hw (by decide), q2, qb, if_pos (show nI 0 ≤ 0 by decide), np1]
        · have et : ltT T (nxL N) = dropT (setq (setz T (lpl T (nxL N))) 0 (tq T 0 - 1)) 0 (lpl T (nxL N)) := by unfold ltT; rw [if_pos ⟨qa, qb⟩]
          have ed := dropHere_ok r2 hw hC2 hz2 (m := 0) (by decide) qb h0
          have hzz : tz (setz T (lpl T (nxL N))) (ts (setz T (lpl T (nxL N)))) = lpl T (nxL N) := by
            show (if ts T + 1 = ts T + 1 then lpl T (nxL N) else tz T (ts T + 1)) = _
            rw [if_pos rfl]
          rw [hzz] at ed
          have ed : fX4_dropHere 33 0 M2 = some ((), dropC 33 (setq (setz T (lpl T (nxL N))) 0 (tq T 0 - 1)) (wI M2 (33 + 10) 0 (nI (tq T 0 - 1))) 0 (lpl T (nxL N))) := ed
          obtain ⟨M3, hM3⟩ : ∃ M3, M3 = dropC 33 (setq (setz T (lpl T (nxL N))) 0 (tq T 0 - 1)) (wI M2 (33 + 10) 0 (nI (tq T 0 - 1))) 0 (lpl T (nxL N)) := ⟨_, rfl⟩
          rw [← hM3] at ed
          refine key M3 ?_ ?_ ?_ ((pre _).mpr ?_)
          · rw [hM3]; exact RO.of2 r2 (by rw [dropC_2]; rfl)
          · rw [et, hM3]; exact (hC2.setq).drop (by decide)
          · refine ⟨fun c j q => ?_, ?_⟩
            · rw [hM3, dropC_off (by omega) (by decide), wI_at, if_neg (by omega)]
              exact O2.1 c j q
            · rw [hM3, dropC_2]; exact O2.2
          · unfold bX5_lots_157
            rw [if_pos ((lot_odd l2).mpr qa), g33 r2, wQ r2 hw, show ldI M2 (33 + 10) 0 _ = ldI M2 (33 + 10) (nI 0) _ from rfl, ldw10 hw (by decide), q2, if_neg (show ¬ nI (tq T 0) ≤ 0 by rw [nle0_F (by omega) (by omega)]; exact id), g33 r2, ed, cal_ok, np1]
      · have et : ltT T (nxL N) = setz T (lpl T (nxL N)) := by unfold ltT; rw [if_neg (fun z => qa z.1)]
        refine key M2 r2 (by rw [et]; exact hC2) O2 ((pre _).mpr ?_)
        unfold bX5_lots_157
        rw [if_neg (fun z => qa ((lot_odd l2).mp z)), np1]
end

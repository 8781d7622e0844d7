/-! CrumbWoodModel.nextHome(III)I -/
set_option maxRecDepth 100000 in
def pX6_nextHome (x : SB) (q : Nat × Nat × Int32 × Int32 × Int32 × Int32 × Int32 × Int32 × Mm) : Prop := match q.1 with
  | 1 => sh q.2.1 = 16 → ∀ (ls : Array Slot) (H : Heap) (locs : List Loc), lv_has ls x.2.2.2.1 [(0, rf x.2.1 q.2.1), (1, .int q.2.2.1), (2, .int q.2.2.2.1), (3, .int q.2.2.2.2.1), (4, .int q.2.2.2.2.2.1)] → PW x.2.1 (q.2.2.2.2.2.2.2.2) H → SH x H locs → SW x H locs 18 ls []
  | 2 => sh q.2.1 = 16 → ∀ (ls : Array Slot) (H : Heap) (locs : List Loc), lv_has ls x.2.2.2.1 [(0, rf x.2.1 q.2.1), (1, .int q.2.2.1), (2, .int q.2.2.2.1), (3, .int q.2.2.2.2.1), (4, .int q.2.2.2.2.2.1), (5, .int q.2.2.2.2.2.2.1), (6, .int q.2.2.2.2.2.2.2.1)] → PW x.2.1 (q.2.2.2.2.2.2.2.2) H → SH x H locs → SW x H locs 49 ls []
  | _ => True
set_option maxRecDepth 100000 in
noncomputable def bX6_nextHome_97 (l0 : Nat) (l1 : Int32) (l2 : Int32) (l3 : Int32) (l4 : Int32) (l5 : Int32) (l6 : Int32) (M : Mm) : Option ((Nat × Nat × Int32 × Int32 × Int32 × Int32 × Int32 × Int32 × Mm) ⊕ Int32 × Mm) := some (.inl (2, l0, l1, l2, l3, l4, l5, (l6 + 1), M))
set_option maxRecDepth 100000 in
set_option maxHeartbeats 4000000 in
theorem sX6_nextHome_97 {x : SB} {F : ((Nat × Nat × Int32 × Int32 × Int32 × Int32 × Int32 × Int32 × Mm) ⊕ Int32 × Mm) → Prop} (X : CX x cX6_nextHome RX6 3) (hL : x.2.2.2.1 = 7) (Hr : RTI x cX6_nextHome .int F Sum.inr) (HH : ∀ q, F (.inl q) → pX6_nextHome x q) {l0 : Nat} {l1 : Int32} {l2 : Int32} {l3 : Int32} {l4 : Int32} {l5 : Int32} {l6 : Int32} {M : Mm} (h_l0 : sh l0 = 16) : SIM x F (bX6_nextHome_97 l0 l1 l2 l3 l4 l5 l6 M) 97 [(0, rf x.2.1 l0), (1, .int l1), (2, .int l2), (3, .int l3), (4, .int l4), (5, .int l5), (6, .int l6)] [] M := by
  unfold bX6_nextHome_97
  refine r_iinc [(6, .int (l6 + 1)), (0, rf x.2.1 l0), (1, .int l1), (2, .int l2), (3, .int l3), (4, .int l4), (5, .int l5)] X dX6_nextHome_97 6 rfl rfl (nlt hL (by decide)) rfl ?_
  refine r_goto 49 X dX6_nextHome_100 (by decide) ?_
  exact r_hdr [(0, rf x.2.1 l0), (1, .int l1), (2, .int l2), (3, .int l3), (4, .int l4), (5, .int l5), (6, .int (l6 + 1))] [1, 2, 3, 4, 5, 6, 0] rfl (fun h => HH _ h h_l0)
set_option maxRecDepth 100000 in
noncomputable def bX6_nextHome_49 (l0 : Nat) (l1 : Int32) (l2 : Int32) (l3 : Int32) (l4 : Int32) (l5 : Int32) (l6 : Int32) (M : Mm) : Option ((Nat × Nat × Int32 × Int32 × Int32 × Int32 × Int32 × Int32 × Mm) ⊕ Int32 × Mm) := gfI M l0 10 fun v1 => if v1 ≤ l6 then some (.inl (1, l0, l1, l2, l3, (l4 + (-1)), 0, 0, M)) else gfR M 0 l0 13 fun v2 => ldI M v2 l2 fun v3 => cal (fX6_has v3 l6 M) fun v5 M4 => if v5 = 0 then bX6_nextHome_97 l0 l1 l2 l3 l4 l5 l6 M4 else cal (fX6_has l3 l6 M4) fun v7 M6 => if v7 = 0 then cal (fX6_seen l0 l1 l6 M6) fun v9 M8 => if (v9 &&& l5) = 0 then bX6_nextHome_97 l0 l1 l2 l3 l4 l5 l6 M8 else some (.inr (l6, M8)) else bX6_nextHome_97 l0 l1 l2 l3 l4 l5 l6 M6
set_option maxRecDepth 100000 in
set_option maxHeartbeats 4000000 in
theorem sX6_nextHome_49 {x : SB} {F : ((Nat × Nat × Int32 × Int32 × Int32 × Int32 × Int32 × Int32 × Mm) ⊕ Int32 × Mm) → Prop} (X : CX x cX6_nextHome RX6 3) (hL : x.2.2.2.1 = 7) (Hr : RTI x cX6_nextHome .int F Sum.inr) (HH : ∀ q, F (.inl q) → pX6_nextHome x q) {l0 : Nat} {l1 : Int32} {l2 : Int32} {l3 : Int32} {l4 : Int32} {l5 : Int32} {l6 : Int32} {M : Mm} (h_l0 : sh l0 = 16) : SIM x F (bX6_nextHome_49 l0 l1 l2 l3 l4 l5 l6 M) 49 [(0, rf x.2.1 l0), (1, .int l1), (2, .int l2), (3, .int l3), (4, .int l4), (5, .int l5), (6, .int l6)] [] M := by
  unfold bX6_nextHome_49
  refine r_iload X dX6_nextHome_49 6 rfl ?_
  refine r_aload_n X dX6_nextHome_51 rfl 0 rfl ?_
  refine r_getI X fl_X6_167 (by decide) h_l0 dX6_nextHome_52 (fun v1 => ?_)
  refine r_icmp_ge 103 X dX6_nextHome_55 (by decide) ?_ ?_
  · refine r_iinc [(4, .int (l4 + (-1))), (0, rf x.2.1 l0), (1, .int l1), (2, .int l2), (3, .int l3), (5, .int l5), (6, .int l6)] X dX6_nextHome_103 4 rfl rfl (nlt hL (by decide)) rfl ?_
    refine r_goto 18 X dX6_nextHome_106 (by decide) ?_
    exact r_hdr [(0, rf x.2.1 l0), (1, .int l1), (2, .int l2), (3, .int l3), (4, .int (l4 + (-1)))] [1, 2, 3, 4, 0] rfl (fun h => HH _ h h_l0)
  · refine r_aload_n X dX6_nextHome_58 rfl 0 rfl ?_
    refine r_getR X fl_X6_36 (by decide) h_l0 dX6_nextHome_59 (fun v2 h_v2 => ?_)
    refine r_iload_n X dX6_nextHome_62 rfl 2 rfl ?_
    refine r_iald X h_v2 dX6_nextHome_63 (fun v3 => ?_)
    refine r_iload X dX6_nextHome_64 6 rfl ?_
    refine r_callSI [.int v3, .int l6] X mt_X6_145 (by decide) (okX6_has _ _ X.J) rfl (Nat.le_of_ble_eq_true rfl) dX6_nextHome_66 rfl (fun v5 M4 => ?_)
    refine r_if_eq 97 X dX6_nextHome_69 (by decide) ?_ ?_
    · exact r_to [(0, rf x.2.1 l0), (1, .int l1), (2, .int l2), (3, .int l3), (4, .int l4), (5, .int l5), (6, .int l6)] [0, 1, 2, 3, 4, 5, 6] rfl (sX6_nextHome_97 X hL Hr HH h_l0)
    · refine r_iload_n X dX6_nextHome_72 rfl 3 rfl ?_
      refine r_iload X dX6_nextHome_73 6 rfl ?_
      refine r_callSI [.int l3, .int l6] X mt_X6_145 (by decide) (okX6_has _ _ X.J) rfl (Nat.le_of_ble_eq_true rfl) dX6_nextHome_75 rfl (fun v7 M6 => ?_)
      refine r_if_ne 97 X dX6_nextHome_78 (by decide) ?_ ?_
      · refine r_aload_n X dX6_nextHome_81 rfl 0 rfl ?_
        refine r_iload_n X dX6_nextHome_82 rfl 1 rfl ?_
        refine r_iload X dX6_nextHome_83 6 rfl ?_
        refine r_callVI [.int l1, .int l6] X mt_X6_208 (by decide) h_l0 (by decide) (okX6_seen _ _ X.J h_l0) rfl (Nat.le_of_ble_eq_true rfl) dX6_nextHome_85 rfl (fun v9 M8 => ?_)
        refine r_iload X dX6_nextHome_88 5 rfl ?_
        refine r_iand X dX6_nextHome_90 ?_
        refine r_if_eq 97 X dX6_nextHome_91 (by decide) ?_ ?_
        · exact r_to [(0, rf x.2.1 l0), (1, .int l1), (2, .int l2), (3, .int l3), (4, .int l4), (5, .int l5), (6, .int l6)] [0, 1, 2, 3, 4, 5, 6] rfl (sX6_nextHome_97 X hL Hr HH h_l0)
        · refine r_iload X dX6_nextHome_94 6 rfl ?_
          exact r_iret Hr rfl dX6_nextHome_96
      · exact r_to [(0, rf x.2.1 l0), (1, .int l1), (2, .int l2), (3, .int l3), (4, .int l4), (5, .int l5), (6, .int l6)] [0, 1, 2, 3, 4, 5, 6] rfl (sX6_nextHome_97 X hL Hr HH h_l0)
set_option maxRecDepth 100000 in
noncomputable def bX6_nextHome_44 (l0 : Nat) (l1 : Int32) (l2 : Int32) (l3 : Int32) (l4 : Int32) (s0 : Int32) (M : Mm) : Option ((Nat × Nat × Int32 × Int32 × Int32 × Int32 × Int32 × Int32 × Mm) ⊕ Int32 × Mm) := some (.inl (2, l0, l1, l2, l3, l4, s0, 0, M))
set_option maxRecDepth 100000 in
set_option maxHeartbeats 4000000 in
theorem sX6_nextHome_44 {x : SB} {F : ((Nat × Nat × Int32 × Int32 × Int32 × Int32 × Int32 × Int32 × Mm) ⊕ Int32 × Mm) → Prop} (X : CX x cX6_nextHome RX6 3) (hL : x.2.2.2.1 = 7) (Hr : RTI x cX6_nextHome .int F Sum.inr) (HH : ∀ q, F (.inl q) → pX6_nextHome x q) {l0 : Nat} {l1 : Int32} {l2 : Int32} {l3 : Int32} {l4 : Int32} {s0 : Int32} {M : Mm} (h_l0 : sh l0 = 16) : SIM x F (bX6_nextHome_44 l0 l1 l2 l3 l4 s0 M) 44 [(0, rf x.2.1 l0), (1, .int l1), (2, .int l2), (3, .int l3), (4, .int l4)] [.int s0] M := by
  unfold bX6_nextHome_44
  refine r_istore [(5, .int s0), (0, rf x.2.1 l0), (1, .int l1), (2, .int l2), (3, .int l3), (4, .int l4)] X dX6_nextHome_44 (nlt hL (by decide)) rfl ?_
  refine r_iconst (v := 0) X dX6_nextHome_46 (by decide) ?_
  refine r_istore [(6, .int 0), (5, .int s0), (0, rf x.2.1 l0), (1, .int l1), (2, .int l2), (3, .int l3), (4, .int l4)] X dX6_nextHome_47 (nlt hL (by decide)) rfl ?_
  exact r_hdr [(0, rf x.2.1 l0), (1, .int l1), (2, .int l2), (3, .int l3), (4, .int l4), (5, .int s0), (6, .int 0)] [2, 3, 4, 5, 6, 1, 0] rfl (fun h => HH _ h h_l0)
set_option maxRecDepth 100000 in
noncomputable def bX6_nextHome_18 (l0 : Nat) (l1 : Int32) (l2 : Int32) (l3 : Int32) (l4 : Int32) (M : Mm) : Option ((Nat × Nat × Int32 × Int32 × Int32 × Int32 × Int32 × Int32 × Mm) ⊕ Int32 × Mm) := if l4 < (-1) then some (.inr ((-9), M)) else if l4 = 1 then bX6_nextHome_44 l0 l1 l2 l3 l4 2 M else if l4 = 0 then bX6_nextHome_44 l0 l1 l2 l3 l4 4 M else bX6_nextHome_44 l0 l1 l2 l3 l4 1 M
set_option maxRecDepth 100000 in
set_option maxHeartbeats 4000000 in
theorem sX6_nextHome_18 {x : SB} {F : ((Nat × Nat × Int32 × Int32 × Int32 × Int32 × Int32 × Int32 × Mm) ⊕ Int32 × Mm) → Prop} (X : CX x cX6_nextHome RX6 3) (hL : x.2.2.2.1 = 7) (Hr : RTI x cX6_nextHome .int F Sum.inr) (HH : ∀ q, F (.inl q) → pX6_nextHome x q) {l0 : Nat} {l1 : Int32} {l2 : Int32} {l3 : Int32} {l4 : Int32} {M : Mm} (h_l0 : sh l0 = 16) : SIM x F (bX6_nextHome_18 l0 l1 l2 l3 l4 M) 18 [(0, rf x.2.1 l0), (1, .int l1), (2, .int l2), (3, .int l3), (4, .int l4)] [] M := by
  unfold bX6_nextHome_18
  refine r_iload X dX6_nextHome_18 4 rfl ?_
  refine r_iconst (v := (-1)) X dX6_nextHome_20 (by decide) ?_
  refine r_icmp_lt 109 X dX6_nextHome_21 (by decide) ?_ ?_
  · refine r_bipush (v := (-9)) X dX6_nextHome_109 (by decide) ?_
    exact r_iret Hr rfl dX6_nextHome_111
  · refine r_iload X dX6_nextHome_24 4 rfl ?_
    refine r_iconst (v := 1) X dX6_nextHome_26 (by decide) ?_
    refine r_icmp_ne 34 X dX6_nextHome_27 (by decide) ?_ ?_
    · refine r_iconst (v := 2) X dX6_nextHome_30 (by decide) ?_
      refine r_goto 44 X dX6_nextHome_31 (by decide) ?_
      exact r_to [(0, rf x.2.1 l0), (1, .int l1), (2, .int l2), (3, .int l3), (4, .int l4)] [0, 1, 2, 3, 4] rfl (sX6_nextHome_44 X hL Hr HH h_l0)
    · refine r_iload X dX6_nextHome_34 4 rfl ?_
      refine r_if_ne 43 X dX6_nextHome_36 (by decide) ?_ ?_
      · refine r_iconst (v := 4) X dX6_nextHome_39 (by decide) ?_
        refine r_goto 44 X dX6_nextHome_40 (by decide) ?_
        exact r_to [(0, rf x.2.1 l0), (1, .int l1), (2, .int l2), (3, .int l3), (4, .int l4)] [0, 1, 2, 3, 4] rfl (sX6_nextHome_44 X hL Hr HH h_l0)
      · refine r_iconst (v := 1) X dX6_nextHome_43 (by decide) ?_
        exact r_to [(0, rf x.2.1 l0), (1, .int l1), (2, .int l2), (3, .int l3), (4, .int l4)] [0, 1, 2, 3, 4] rfl (sX6_nextHome_44 X hL Hr HH h_l0)
set_option maxRecDepth 100000 in
noncomputable def bX6_nextHome_0 (l0 : Nat) (l1 : Int32) (l2 : Int32) (l3 : Int32) (M : Mm) : Option ((Nat × Nat × Int32 × Int32 × Int32 × Int32 × Int32 × Int32 × Mm) ⊕ Int32 × Mm) := gfR M 0 l0 13 fun v10 => ldI M v10 l2 fun v11 => cal (fX6_has v11 0 M) fun v13 M12 => if v13 = 0 then some (.inl (1, l0, l1, l2, l3, 1, 0, 0, M12)) else some (.inr (0, M12))
set_option maxRecDepth 100000 in
set_option maxHeartbeats 4000000 in
theorem sX6_nextHome_0 {x : SB} {F : ((Nat × Nat × Int32 × Int32 × Int32 × Int32 × Int32 × Int32 × Mm) ⊕ Int32 × Mm) → Prop} (X : CX x cX6_nextHome RX6 3) (hL : x.2.2.2.1 = 7) (Hr : RTI x cX6_nextHome .int F Sum.inr) (HH : ∀ q, F (.inl q) → pX6_nextHome x q) {l0 : Nat} {l1 : Int32} {l2 : Int32} {l3 : Int32} {M : Mm} (h_l0 : sh l0 = 16) : SIM x F (bX6_nextHome_0 l0 l1 l2 l3 M) 0 [(0, rf x.2.1 l0), (1, .int l1), (2, .int l2), (3, .int l3)] [] M := by
  unfold bX6_nextHome_0
  refine r_aload_n X dX6_nextHome_0 rfl 0 rfl ?_
  refine r_getR X fl_X6_36 (by decide) h_l0 dX6_nextHome_1 (fun v10 h_v10 => ?_)
  refine r_iload_n X dX6_nextHome_4 rfl 2 rfl ?_
  refine r_iald X h_v10 dX6_nextHome_5 (fun v11 => ?_)
  refine r_iconst (v := 0) X dX6_nextHome_6 (by decide) ?_
  refine r_callSI [.int v11, .int 0] X mt_X6_145 (by decide) (okX6_has _ _ X.J) rfl (Nat.le_of_ble_eq_true rfl) dX6_nextHome_7 rfl (fun v13 M12 => ?_)
  refine r_if_eq 15 X dX6_nextHome_10 (by decide) ?_ ?_
  · refine r_iconst (v := 1) X dX6_nextHome_15 (by decide) ?_
    refine r_istore [(4, .int 1), (0, rf x.2.1 l0), (1, .int l1), (2, .int l2), (3, .int l3)] X dX6_nextHome_16 (nlt hL (by decide)) rfl ?_
    exact r_hdr [(0, rf x.2.1 l0), (1, .int l1), (2, .int l2), (3, .int l3), (4, .int 1)] [1, 2, 3, 4, 0] rfl (fun h => HH _ h h_l0)
  · refine r_iconst (v := 0) X dX6_nextHome_13 (by decide) ?_
    exact r_iret Hr rfl dX6_nextHome_14
set_option maxRecDepth 100000 in
noncomputable def gX6_nextHome (q : Nat × Nat × Int32 × Int32 × Int32 × Int32 × Int32 × Int32 × Mm) : Option ((Nat × Nat × Int32 × Int32 × Int32 × Int32 × Int32 × Int32 × Mm) ⊕ Int32 × Mm) := match q.1 with
  | 1 => bX6_nextHome_18 (q.2.1) (q.2.2.1) (q.2.2.2.1) (q.2.2.2.2.1) (q.2.2.2.2.2.1) (q.2.2.2.2.2.2.2.2)
  | 2 => bX6_nextHome_49 (q.2.1) (q.2.2.1) (q.2.2.2.1) (q.2.2.2.2.1) (q.2.2.2.2.2.1) (q.2.2.2.2.2.2.1) (q.2.2.2.2.2.2.2.1) (q.2.2.2.2.2.2.2.2)
  | _ => none
set_option maxRecDepth 100000 in
noncomputable def fX6_nextHome (l0 : Nat) (l1 : Int32) (l2 : Int32) (l3 : Int32) (M : Mm) : Option (Int32 × Mm) := fen gX6_nextHome (bX6_nextHome_0 l0 l1 l2 l3 M)
set_option maxRecDepth 100000 in
set_option maxHeartbeats 4000000 in
theorem okX6_nextHome (l : Launch) (g : GX) (hJ : IJ g) {l0 : Nat} {l1 : Int32} {l2 : Int32} {l3 : Int32} {M : Mm} (h_l0 : sh l0 = 16) : CT l g yX6_nextHome cX6_nextHome 7 (some .int) 3 [rf g l0, .int l1, .int l2, .int l3] M (fX6_nextHome l0 l1 l2 l3 M) (fun r => some (.int r)) := by
  refine ct_I rfl hJ (Nat.le_of_ble_eq_true rfl) (fun x r hg hL hl X hf Hr => ?_)
  subst hg
  have Hr2 : RTI x cX6_nextHome .int (Sum.elim (pX6_nextHome x) (fun q => q = r)) Sum.inr := fun v M h => Hr v M h
  have HP : ∀ q, fnl gX6_nextHome q = some r → pX6_nextHome x q := by
    intro q hq
    refine fnl_ind (pX6_nextHome x) (fun q hq => ?_) hq
    obtain ⟨n, l0, l1, l2, l3, l4, l5, l6, M⟩ := q
    match n, hq with
    | 1, hq => exact fun h_l0 ls H locs hl hP hS => sX6_nextHome_18 X hL Hr2 (fun _ h => h) h_l0 hq ls H locs hl hP hS
    | 2, hq => exact fun h_l0 ls H locs hl hP hS => sX6_nextHome_49 X hL Hr2 (fun _ h => h) h_l0 hq ls H locs hl hP hS
    | 0, hq => exact trivial
    | n + 3, hq => exact trivial
  exact fun _ ls H locs hl hP hS => sX6_nextHome_0 X hL Hr2 (fun _ h => h) h_l0 (fen_w hf HP) ls H locs hl hP hS
/-! CrumbWoodModel.follows(II)Z -/
set_option maxRecDepth 100000 in
def pX6_follows (x : SB) (q : Nat × Nat × Int32 × Int32 × Int32 × Mm) : Prop := match q.1 with
  | 1 => sh q.2.1 = 16 → ∀ (ls : Array Slot) (H : Heap) (locs : List Loc), lv_has ls x.2.2.2.1 [(0, rf x.2.1 q.2.1), (1, .int q.2.2.1), (3, .int q.2.2.2.1), (4, .int q.2.2.2.2.1)] → PW x.2.1 (q.2.2.2.2.2) H → SH x H locs → SW x H locs 19 ls []
  | _ => True
set_option maxRecDepth 100000 in
noncomputable def bX6_follows_79 (l4 : Int32) (M : Mm) : Option ((Nat × Nat × Int32 × Int32 × Int32 × Mm) ⊕ Int32 × Mm) := if l4 = 0 then some (.inr (1, M)) else some (.inr (0, M))
set_option maxRecDepth 100000 in
set_option maxHeartbeats 4000000 in
theorem sX6_follows_79 {x : SB} {F : ((Nat × Nat × Int32 × Int32 × Int32 × Mm) ⊕ Int32 × Mm) → Prop} (X : CX x cX6_follows RX6 4) (hL : x.2.2.2.1 = 5) (Hr : RTI x cX6_follows .boolean F Sum.inr) (HH : ∀ q, F (.inl q) → pX6_follows x q) {l4 : Int32} {M : Mm}  : SIM x F (bX6_follows_79 l4 M) 79 [(4, .int l4)] [] M := by
  unfold bX6_follows_79
  refine r_iload X dX6_follows_79 0 rfl ?_
  refine r_if_ne 88 X dX6_follows_81 (by decide) ?_ ?_
  · refine r_iconst (v := 1) X dX6_follows_84 (by decide) ?_
    refine r_goto 89 X dX6_follows_85 (by decide) ?_
    exact r_iret Hr rfl dX6_follows_89
  · refine r_iconst (v := 0) X dX6_follows_88 (by decide) ?_
    exact r_iret Hr rfl dX6_follows_89
set_option maxRecDepth 100000 in
noncomputable def bX6_follows_19 (l0 : Nat) (l1 : Int32) (l3 : Int32) (l4 : Int32) (M : Mm) : Option ((Nat × Nat × Int32 × Int32 × Int32 × Mm) ⊕ Int32 × Mm) := if l4 = 0 then bX6_follows_79 l4 M else if l4 = (-9) then bX6_follows_79 l4 M else cal (fX6_nextHome l0 l1 l4 l3 M) fun v2 M1 => if v2 = (-9) then some (.inl (1, l0, l1, l3, v2, M1)) else ltI (l3 ||| ((1 : Int32) <<< (v2 &&& 31))) fun v3 => gfR M1 0 l0 33 fun v4 => gfI M1 l0 32 fun v5 => stI M1 v4 v5 v2 fun M6 => gfI M6 l0 32 fun v7 => pfI M6 l0 32 (v7 + 1) fun M8 => some (.inl (1, l0, l1, v3, v2, M8))
set_option maxRecDepth 100000 in
set_option maxHeartbeats 4000000 in
theorem sX6_follows_19 {x : SB} {F : ((Nat × Nat × Int32 × Int32 × Int32 × Mm) ⊕ Int32 × Mm) → Prop} (X : CX x cX6_follows RX6 4) (hL : x.2.2.2.1 = 5) (Hr : RTI x cX6_follows .boolean F Sum.inr) (HH : ∀ q, F (.inl q) → pX6_follows x q) {l0 : Nat} {l1 : Int32} {l3 : Int32} {l4 : Int32} {M : Mm} (h_l0 : sh l0 = 16) : SIM x F (bX6_follows_19 l0 l1 l3 l4 M) 19 [(0, rf x.2.1 l0), (1, .int l1), (3, .int l3), (4, .int l4)] [] M := by
  unfold bX6_follows_19
  refine r_iload X dX6_follows_19 3 rfl ?_
  refine r_if_eq 79 X dX6_follows_21 (by decide) ?_ ?_
  · exact r_to [(4, .int l4)] [3] rfl (sX6_follows_79 X hL Hr HH)
  · refine r_iload X dX6_follows_24 3 rfl ?_
    refine r_bipush (v := (-9)) X dX6_follows_26 (by decide) ?_
    refine r_icmp_eq 79 X dX6_follows_28 (by decide) ?_ ?_
    · exact r_to [(4, .int l4)] [3] rfl (sX6_follows_79 X hL Hr HH)
    · refine r_aload_n X dX6_follows_31 rfl 0 rfl ?_
      refine r_iload_n X dX6_follows_32 rfl 1 rfl ?_
      refine r_iload X dX6_follows_33 3 rfl ?_
      refine r_iload_n X dX6_follows_35 rfl 2 rfl ?_
      refine r_callVI [.int l1, .int l4, .int l3] X mt_X6_241 (by decide) h_l0 (by decide) (okX6_nextHome _ _ X.J h_l0) rfl (Nat.le_of_ble_eq_true rfl) dX6_follows_36 rfl (fun v2 M1 => ?_)
      refine r_istore [(4, .int v2), (0, rf x.2.1 l0), (1, .int l1), (3, .int l3)] X dX6_follows_39 (nlt hL (by decide)) rfl ?_
      refine r_iload X dX6_follows_41 0 rfl ?_
      refine r_bipush (v := (-9)) X dX6_follows_43 (by decide) ?_
      refine r_icmp_eq 19 X dX6_follows_45 (by decide) ?_ ?_
      · exact r_hdr [(0, rf x.2.1 l0), (1, .int l1), (3, .int l3), (4, .int v2)] [1, 2, 3, 0] rfl (fun h => HH _ h h_l0)
      · refine r_iload_n X dX6_follows_48 rfl 3 rfl ?_
        refine r_iconst (v := 1) X dX6_follows_49 (by decide) ?_
        refine r_iload X dX6_follows_50 0 rfl ?_
        refine r_ishl X dX6_follows_52 ?_
        refine r_ior X dX6_follows_53 ?_
        refine r_letI (fun v3 => ?_)
        refine r_istore_n [(3, .int v3), (4, .int v2), (0, rf x.2.1 l0), (1, .int l1)] X dX6_follows_54 rfl (nlt hL (by decide)) rfl ?_
        refine r_aload_n X dX6_follows_55 rfl 2 rfl ?_
        refine r_getR X fl_X6_73 (by decide) h_l0 dX6_follows_56 (fun v4 h_v4 => ?_)
        refine r_aload_n X dX6_follows_59 rfl 2 rfl ?_
        refine r_getI X fl_X6_238 (by decide) h_l0 dX6_follows_60 (fun v5 => ?_)
        refine r_iload X dX6_follows_63 1 rfl ?_
        refine r_iast X h_v4 dX6_follows_65 (fun M6 => ?_)
        refine r_aload_n X dX6_follows_66 rfl 2 rfl ?_
        refine r_dup X dX6_follows_67 rfl ?_
        refine r_getI X fl_X6_238 (by decide) h_l0 dX6_follows_68 (fun v7 => ?_)
        refine r_iconst (v := 1) X dX6_follows_71 (by decide) ?_
        refine r_iadd X dX6_follows_72 ?_
        refine r_putI X fl_X6_238 (by decide) h_l0 (fun _ => rfl) (fun _ => rfl) dX6_follows_73 (fun M8 => ?_)
        refine r_goto 19 X dX6_follows_76 (by decide) ?_
        exact r_hdr [(0, rf x.2.1 l0), (1, .int l1), (3, .int v3), (4, .int v2)] [2, 3, 0, 1] rfl (fun h => HH _ h h_l0)
set_option maxRecDepth 100000 in
noncomputable def bX6_follows_0 (l0 : Nat) (l1 : Int32) (l2 : Int32) (M : Mm) : Option ((Nat × Nat × Int32 × Int32 × Int32 × Mm) ⊕ Int32 × Mm) := ltI ((1 : Int32) <<< (l2 &&& 31)) fun v9 => pfI M l0 32 1 fun M10 => gfR M10 0 l0 33 fun v11 => stI M10 v11 0 l2 fun M12 => some (.inl (1, l0, l1, v9, l2, M12))
set_option maxRecDepth 100000 in
set_option maxHeartbeats 4000000 in
theorem sX6_follows_0 {x : SB} {F : ((Nat × Nat × Int32 × Int32 × Int32 × Mm) ⊕ Int32 × Mm) → Prop} (X : CX x cX6_follows RX6 4) (hL : x.2.2.2.1 = 5) (Hr : RTI x cX6_follows .boolean F Sum.inr) (HH : ∀ q, F (.inl q) → pX6_follows x q) {l0 : Nat} {l1 : Int32} {l2 : Int32} {M : Mm} (h_l0 : sh l0 = 16) : SIM x F (bX6_follows_0 l0 l1 l2 M) 0 [(0, rf x.2.1 l0), (1, .int l1), (2, .int l2)] [] M := by
  unfold bX6_follows_0
  refine r_iconst (v := 1) X dX6_follows_0 (by decide) ?_
  refine r_iload_n X dX6_follows_1 rfl 2 rfl ?_
  refine r_ishl X dX6_follows_2 ?_
  refine r_letI (fun v9 => ?_)
  refine r_istore_n [(3, .int v9), (0, rf x.2.1 l0), (1, .int l1), (2, .int l2)] X dX6_follows_3 rfl (nlt hL (by decide)) rfl ?_
  refine r_iload_n X dX6_follows_4 rfl 3 rfl ?_
  refine r_istore [(4, .int l2), (3, .int v9), (0, rf x.2.1 l0), (1, .int l1), (2, .int l2)] X dX6_follows_5 (nlt hL (by decide)) rfl ?_
  refine r_aload_n X dX6_follows_7 rfl 2 rfl ?_
  refine r_iconst (v := 1) X dX6_follows_8 (by decide) ?_
  refine r_putI X fl_X6_238 (by decide) h_l0 (fun _ => rfl) (fun _ => rfl) dX6_follows_9 (fun M10 => ?_)
  refine r_aload_n X dX6_follows_12 rfl 2 rfl ?_
  refine r_getR X fl_X6_73 (by decide) h_l0 dX6_follows_13 (fun v11 h_v11 => ?_)
  refine r_iconst (v := 0) X dX6_follows_16 (by decide) ?_
  refine r_iload_n X dX6_follows_17 rfl 4 rfl ?_
  refine r_iast X h_v11 dX6_follows_18 (fun M12 => ?_)
  exact r_hdr [(0, rf x.2.1 l0), (1, .int l1), (3, .int v9), (4, .int l2)] [2, 3, 1, 0] rfl (fun h => HH _ h h_l0)
set_option maxRecDepth 100000 in
noncomputable def gX6_follows (q : Nat × Nat × Int32 × Int32 × Int32 × Mm) : Option ((Nat × Nat × Int32 × Int32 × Int32 × Mm) ⊕ Int32 × Mm) := match q.1 with
  | 1 => bX6_follows_19 (q.2.1) (q.2.2.1) (q.2.2.2.1) (q.2.2.2.2.1) (q.2.2.2.2.2)
  | _ => none
set_option maxRecDepth 100000 in
noncomputable def fX6_follows (l0 : Nat) (l1 : Int32) (l2 : Int32) (M : Mm) : Option (Int32 × Mm) := fen gX6_follows (bX6_follows_0 l0 l1 l2 M)
set_option maxRecDepth 100000 in
set_option maxHeartbeats 4000000 in
theorem okX6_follows (l : Launch) (g : GX) (hJ : IJ g) {l0 : Nat} {l1 : Int32} {l2 : Int32} {M : Mm} (h_l0 : sh l0 = 16) : CT l g yX6_follows cX6_follows 5 (some .boolean) 4 [rf g l0, .int l1, .int l2] M (fX6_follows l0 l1 l2 M) (fun r => some (.int r)) := by
  refine ct_I rfl hJ (Nat.le_of_ble_eq_true rfl) (fun x r hg hL hl X hf Hr => ?_)
  subst hg
  have Hr2 : RTI x cX6_follows .boolean (Sum.elim (pX6_follows x) (fun q => q = r)) Sum.inr := fun v M h => Hr v M h
  have HP : ∀ q, fnl gX6_follows q = some r → pX6_follows x q := by
    intro q hq
    refine fnl_ind (pX6_follows x) (fun q hq => ?_) hq
    obtain ⟨n, l0, l1, l3, l4, M⟩ := q
    match n, hq with
    | 1, hq => exact fun h_l0 ls H locs hl hP hS => sX6_follows_19 X hL Hr2 (fun _ h => h) h_l0 hq ls H locs hl hP hS
    | 0, hq => exact trivial
    | n + 2, hq => exact trivial
  exact fun _ ls H locs hl hP hS => sX6_follows_0 X hL Hr2 (fun _ h => h) h_l0 (fen_w hf HP) ls H locs hl hP hS
/-! CrumbWoodModel.hereNow()I -/
set_option maxRecDepth 100000 in
noncomputable def fX6_hereNow (l0 : Nat) (M : Mm) : Option (Int32 × Mm) := gfR M 0 l0 26 fun v1 => gfI M l0 25 fun v2 => ldI M v1 v2 fun v3 => some ((v3, M))
set_option maxRecDepth 100000 in
set_option maxHeartbeats 4000000 in
theorem sX6_hereNow_0 {x : SB} {F : (Int32 × Mm) → Prop} (X : CX x cX6_hereNow RX6 0) (hL : x.2.2.2.1 = 1) (Hr : RTI x cX6_hereNow .int F (fun q => q)) {l0 : Nat} {M : Mm} (h_l0 : sh l0 = 16) : SIM x F (fX6_hereNow l0 M) 0 [(0, rf x.2.1 l0)] [] M := by
  unfold fX6_hereNow
  refine r_aload_n X dX6_hereNow_0 rfl 0 rfl ?_
  refine r_getR X fl_X6_54 (by decide) h_l0 dX6_hereNow_1 (fun v1 h_v1 => ?_)
  refine r_aload_n X dX6_hereNow_4 rfl 0 rfl ?_
  refine r_getI X fl_X6_177 (by decide) h_l0 dX6_hereNow_5 (fun v2 => ?_)
  refine r_iald X h_v1 dX6_hereNow_8 (fun v3 => ?_)
  exact r_iret Hr rfl dX6_hereNow_9
set_option maxRecDepth 100000 in
set_option maxHeartbeats 4000000 in
theorem okX6_hereNow (l : Launch) (g : GX) (hJ : IJ g) {l0 : Nat} {M : Mm} (h_l0 : sh l0 = 16) : CT l g yX6_hereNow cX6_hereNow 1 (some .int) 0 [rf g l0] M (fX6_hereNow l0 M) (fun r => some (.int r)) := by
  refine ct_I rfl hJ (Nat.le_of_ble_eq_true rfl) (fun x r hg hL hl X hf Hr => ?_)
  subst hg
  exact fun _ ls H locs hl hP hS => sX6_hereNow_0 X hL Hr h_l0 ⟨_, hf, rfl⟩ ls H locs hl hP hS
/-! CrumbWoodModel.changedBy(Z)I -/
set_option maxRecDepth 100000 in
def pX6_changedBy (x : SB) (q : Nat × Nat × Int32 × Int32 × Int32 × Mm) : Prop := match q.1 with
  | 1 => sh q.2.1 = 16 → ∀ (ls : Array Slot) (H : Heap) (locs : List Loc), lv_has ls x.2.2.2.1 [(0, rf x.2.1 q.2.1), (1, .int q.2.2.1), (2, .int q.2.2.2.1), (3, .int q.2.2.2.2.1)] → PW x.2.1 (q.2.2.2.2.2) H → SH x H locs → SW x H locs 19 ls []
  | _ => True
set_option maxRecDepth 100000 in
noncomputable def bX6_changedBy_61 (l0 : Nat) (l1 : Int32) (l3 : Int32) (s0 : Int32) (s1 : Int32) (M : Mm) : Option ((Nat × Nat × Int32 × Int32 × Int32 × Mm) ⊕ Int32 × Mm) := ltI (s1 ||| s0) fun v1 => some (.inl (1, l0, l1, v1, (l3 + 1), M))
set_option maxRecDepth 100000 in
set_option maxHeartbeats 4000000 in
theorem sX6_changedBy_61 {x : SB} {F : ((Nat × Nat × Int32 × Int32 × Int32 × Mm) ⊕ Int32 × Mm) → Prop} (X : CX x cX6_changedBy RX6 5) (hL : x.2.2.2.1 = 4) (Hr : RTI x cX6_changedBy .int F Sum.inr) (HH : ∀ q, F (.inl q) → pX6_changedBy x q) {l0 : Nat} {l1 : Int32} {l3 : Int32} {s0 : Int32} {s1 : Int32} {M : Mm} (h_l0 : sh l0 = 16) : SIM x F (bX6_changedBy_61 l0 l1 l3 s0 s1 M) 61 [(0, rf x.2.1 l0), (1, .int l1), (3, .int l3)] [.int s0, .int s1] M := by
  unfold bX6_changedBy_61
  refine r_ior X dX6_changedBy_61 ?_
  refine r_letI (fun v1 => ?_)
  refine r_istore_n [(2, .int v1), (0, rf x.2.1 l0), (1, .int l1), (3, .int l3)] X dX6_changedBy_62 rfl (nlt hL (by decide)) rfl ?_
  refine r_iinc [(3, .int (l3 + 1)), (2, .int v1), (0, rf x.2.1 l0), (1, .int l1)] X dX6_changedBy_63 3 rfl rfl (nlt hL (by decide)) rfl ?_
  refine r_goto 19 X dX6_changedBy_66 (by decide) ?_
  exact r_hdr [(0, rf x.2.1 l0), (1, .int l1), (2, .int v1), (3, .int (l3 + 1))] [2, 3, 1, 0] rfl (fun h => HH _ h h_l0)
set_option maxRecDepth 100000 in
noncomputable def bX6_changedBy_19 (l0 : Nat) (l1 : Int32) (l2 : Int32) (l3 : Int32) (M : Mm) : Option ((Nat × Nat × Int32 × Int32 × Int32 × Mm) ⊕ Int32 × Mm) := gfI M l0 10 fun v2 => if v2 ≤ l3 then some (.inr (l2, M)) else cal (fX6_copyTo l0 0 1 M) fun _ M3 => cal (fX6_drops l0 1 1 l3 M3) fun _ M4 => cal (fX6_hereNow l0 M4) fun v6 M5 => cal (fX6_follows l0 1 v6 M5) fun v8 M7 => if v8 = l1 then bX6_changedBy_61 l0 l1 l3 0 l2 M7 else bX6_changedBy_61 l0 l1 l3 ((1 : Int32) <<< (l3 &&& 31)) l2 M7
set_option maxRecDepth 100000 in
set_option maxHeartbeats 4000000 in
theorem sX6_changedBy_19 {x : SB} {F : ((Nat × Nat × Int32 × Int32 × Int32 × Mm) ⊕ Int32 × Mm) → Prop} (X : CX x cX6_changedBy RX6 5) (hL : x.2.2.2.1 = 4) (Hr : RTI x cX6_changedBy .int F Sum.inr) (HH : ∀ q, F (.inl q) → pX6_changedBy x q) {l0 : Nat} {l1 : Int32} {l2 : Int32} {l3 : Int32} {M : Mm} (h_l0 : sh l0 = 16) : SIM x F (bX6_changedBy_19 l0 l1 l2 l3 M) 19 [(0, rf x.2.1 l0), (1, .int l1), (2, .int l2), (3, .int l3)] [] M := by
  unfold bX6_changedBy_19
  refine r_iload_n X dX6_changedBy_19 rfl 3 rfl ?_
  refine r_aload_n X dX6_changedBy_20 rfl 0 rfl ?_
  refine r_getI X fl_X6_167 (by decide) h_l0 dX6_changedBy_21 (fun v2 => ?_)
  refine r_icmp_ge 69 X dX6_changedBy_24 (by decide) ?_ ?_
  · refine r_iload_n X dX6_changedBy_69 rfl 2 rfl ?_
    exact r_iret Hr rfl dX6_changedBy_70
  · refine r_aload_n X dX6_changedBy_27 rfl 0 rfl ?_
    refine r_iconst (v := 0) X dX6_changedBy_28 (by decide) ?_
    refine r_iconst (v := 1) X dX6_changedBy_29 (by decide) ?_
    refine r_callVV [.int 0, .int 1] X mt_X6_247 (by decide) h_l0 (by decide) (okX6_copyTo _ _ X.J h_l0) rfl (Nat.le_of_ble_eq_true rfl) dX6_changedBy_30 rfl (fun _ M3 => ?_)
    refine r_aload_n X dX6_changedBy_33 rfl 0 rfl ?_
    refine r_iconst (v := 1) X dX6_changedBy_34 (by decide) ?_
    refine r_iconst (v := 1) X dX6_changedBy_35 (by decide) ?_
    refine r_iload_n X dX6_changedBy_36 rfl 3 rfl ?_
    refine r_callVV [.int 1, .int 1, .int l3] X mt_X6_227 (by decide) h_l0 (by decide) (okX6_drops _ _ X.J h_l0) rfl (Nat.le_of_ble_eq_true rfl) dX6_changedBy_37 rfl (fun _ M4 => ?_)
    refine r_iload_n X dX6_changedBy_40 rfl 2 rfl ?_
    refine r_aload_n X dX6_changedBy_41 rfl 0 rfl ?_
    refine r_iconst (v := 1) X dX6_changedBy_42 (by decide) ?_
    refine r_aload_n X dX6_changedBy_43 rfl 0 rfl ?_
    refine r_callVI [] X mt_X6_223 (by decide) h_l0 (by decide) (okX6_hereNow _ _ X.J h_l0) rfl (Nat.le_of_ble_eq_true rfl) dX6_changedBy_44 rfl (fun v6 M5 => ?_)
    refine r_callVI [.int 1, .int v6] X mt_X6_244 (by decide) h_l0 (by decide) (okX6_follows _ _ X.J h_l0) rfl (Nat.le_of_ble_eq_true rfl) dX6_changedBy_47 rfl (fun v8 M7 => ?_)
    refine r_iload_n X dX6_changedBy_50 rfl 1 rfl ?_
    refine r_icmp_eq 60 X dX6_changedBy_51 (by decide) ?_ ?_
    · refine r_iconst (v := 0) X dX6_changedBy_60 (by decide) ?_
      exact r_to [(0, rf x.2.1 l0), (1, .int l1), (3, .int l3)] [0, 1, 3] rfl (sX6_changedBy_61 X hL Hr HH h_l0)
    · refine r_iconst (v := 1) X dX6_changedBy_54 (by decide) ?_
      refine r_iload_n X dX6_changedBy_55 rfl 3 rfl ?_
      refine r_ishl X dX6_changedBy_56 ?_
      refine r_goto 61 X dX6_changedBy_57 (by decide) ?_
      exact r_to [(0, rf x.2.1 l0), (1, .int l1), (3, .int l3)] [0, 1, 3] rfl (sX6_changedBy_61 X hL Hr HH h_l0)
set_option maxRecDepth 100000 in
noncomputable def bX6_changedBy_0 (l0 : Nat) (l1 : Int32) (M : Mm) : Option ((Nat × Nat × Int32 × Int32 × Int32 × Mm) ⊕ Int32 × Mm) := cal (fX6_hereNow l0 M) fun v10 M9 => cal (fX6_follows l0 0 v10 M9) fun v12 M11 => if v12 = l1 then some (.inl (1, l0, l1, 0, 0, M11)) else some (.inr (0, M11))
set_option maxRecDepth 100000 in
set_option maxHeartbeats 4000000 in
theorem sX6_changedBy_0 {x : SB} {F : ((Nat × Nat × Int32 × Int32 × Int32 × Mm) ⊕ Int32 × Mm) → Prop} (X : CX x cX6_changedBy RX6 5) (hL : x.2.2.2.1 = 4) (Hr : RTI x cX6_changedBy .int F Sum.inr) (HH : ∀ q, F (.inl q) → pX6_changedBy x q) {l0 : Nat} {l1 : Int32} {M : Mm} (h_l0 : sh l0 = 16) : SIM x F (bX6_changedBy_0 l0 l1 M) 0 [(0, rf x.2.1 l0), (1, .int l1)] [] M := by
  unfold bX6_changedBy_0
  refine r_aload_n X dX6_changedBy_0 rfl 0 rfl ?_
  refine r_iconst (v := 0) X dX6_changedBy_1 (by decide) ?_
  refine r_aload_n X dX6_changedBy_2 rfl 0 rfl ?_
  refine r_callVI [] X mt_X6_223 (by decide) h_l0 (by decide) (okX6_hereNow _ _ X.J h_l0) rfl (Nat.le_of_ble_eq_true rfl) dX6_changedBy_3 rfl (fun v10 M9 => ?_)
  refine r_callVI [.int 0, .int v10] X mt_X6_244 (by decide) h_l0 (by decide) (okX6_follows _ _ X.J h_l0) rfl (Nat.le_of_ble_eq_true rfl) dX6_changedBy_6 rfl (fun v12 M11 => ?_)
  refine r_iload_n X dX6_changedBy_9 rfl 1 rfl ?_
  refine r_icmp_eq 15 X dX6_changedBy_10 (by decide) ?_ ?_
  · refine r_iconst (v := 0) X dX6_changedBy_15 (by decide) ?_
    refine r_istore_n [(2, .int 0), (0, rf x.2.1 l0), (1, .int l1)] X dX6_changedBy_16 rfl (nlt hL (by decide)) rfl ?_
    refine r_iconst (v := 0) X dX6_changedBy_17 (by decide) ?_
    refine r_istore_n [(3, .int 0), (2, .int 0), (0, rf x.2.1 l0), (1, .int l1)] X dX6_changedBy_18 rfl (nlt hL (by decide)) rfl ?_
    exact r_hdr [(0, rf x.2.1 l0), (1, .int l1), (2, .int 0), (3, .int 0)] [2, 3, 1, 0] rfl (fun h => HH _ h h_l0)
  · refine r_iconst (v := 0) X dX6_changedBy_13 (by decide) ?_
    exact r_iret Hr rfl dX6_changedBy_14
set_option maxRecDepth 100000 in
noncomputable def gX6_changedBy (q : Nat × Nat × Int32 × Int32 × Int32 × Mm) : Option ((Nat × Nat × Int32 × Int32 × Int32 × Mm) ⊕ Int32 × Mm) := match q.1 with
  | 1 => bX6_changedBy_19 (q.2.1) (q.2.2.1) (q.2.2.2.1) (q.2.2.2.2.1) (q.2.2.2.2.2)
  | _ => none
set_option maxRecDepth 100000 in
noncomputable def fX6_changedBy (l0 : Nat) (l1 : Int32) (M : Mm) : Option (Int32 × Mm) := fen gX6_changedBy (bX6_changedBy_0 l0 l1 M)
set_option maxRecDepth 100000 in
set_option maxHeartbeats 4000000 in
theorem okX6_changedBy (l : Launch) (g : GX) (hJ : IJ g) {l0 : Nat} {l1 : Int32} {M : Mm} (h_l0 : sh l0 = 16) : CT l g yX6_changedBy cX6_changedBy 4 (some .int) 5 [rf g l0, .int l1] M (fX6_changedBy l0 l1 M) (fun r => some (.int r)) := by
  refine ct_I rfl hJ (Nat.le_of_ble_eq_true rfl) (fun x r hg hL hl X hf Hr => ?_)
  subst hg
  have Hr2 : RTI x cX6_changedBy .int (Sum.elim (pX6_changedBy x) (fun q => q = r)) Sum.inr := fun v M h => Hr v M h
  have HP : ∀ q, fnl gX6_changedBy q = some r → pX6_changedBy x q := by
    intro q hq
    refine fnl_ind (pX6_changedBy x) (fun q hq => ?_) hq
    obtain ⟨n, l0, l1, l2, l3, M⟩ := q
    match n, hq with
    | 1, hq => exact fun h_l0 ls H locs hl hP hS => sX6_changedBy_19 X hL Hr2 (fun _ h => h) h_l0 hq ls H locs hl hP hS
    | 0, hq => exact trivial
    | n + 2, hq => exact trivial
  exact fun _ ls H locs hl hP hS => sX6_changedBy_0 X hL Hr2 (fun _ h => h) h_l0 (fen_w hf HP) ls H locs hl hP hS
/-! CrumbWoodModel.astray()I -/
set_option maxRecDepth 100000 in
noncomputable def fX6_astray (l0 : Nat) (M : Mm) : Option (Int32 × Mm) := gfI M l0 10 fun v1 => if v1 = 0 then some (((-4), M)) else cal (fX6_changedBy l0 1 M) fun v3 M2 => some ((v3, M2))
set_option maxRecDepth 100000 in
set_option maxHeartbeats 4000000 in
theorem sX6_astray_0 {x : SB} {F : (Int32 × Mm) → Prop} (X : CX x cX6_astray RX6 6) (hL : x.2.2.2.1 = 1) (Hr : RTI x cX6_astray .int F (fun q => q)) {l0 : Nat} {M : Mm} (h_l0 : sh l0 = 16) : SIM x F (fX6_astray l0 M) 0 [(0, rf x.2.1 l0)] [] M := by
  unfold fX6_astray
  refine r_aload_n X dX6_astray_0 rfl 0 rfl ?_
  refine r_getI X fl_X6_167 (by decide) h_l0 dX6_astray_1 (fun v1 => ?_)
  refine r_if_ne 12 X dX6_astray_4 (by decide) ?_ ?_
  · refine r_bipush (v := (-4)) X dX6_astray_7 (by decide) ?_
    refine r_goto 17 X dX6_astray_9 (by decide) ?_
    exact r_iret Hr rfl dX6_astray_17
  · refine r_aload_n X dX6_astray_12 rfl 0 rfl ?_
    refine r_iconst (v := 1) X dX6_astray_13 (by decide) ?_
    refine r_callVI [.int 1] X mt_X6_271 (by decide) h_l0 (by decide) (okX6_changedBy _ _ X.J h_l0) rfl (Nat.le_of_ble_eq_true rfl) dX6_astray_14 rfl (fun v3 M2 => ?_)
    exact r_iret Hr rfl dX6_astray_17
set_option maxRecDepth 100000 in
set_option maxHeartbeats 4000000 in
theorem okX6_astray (l : Launch) (g : GX) (hJ : IJ g) {l0 : Nat} {M : Mm} (h_l0 : sh l0 = 16) : CT l g yX6_astray cX6_astray 1 (some .int) 6 [rf g l0] M (fX6_astray l0 M) (fun r => some (.int r)) := by
  refine ct_I rfl hJ (Nat.le_of_ble_eq_true rfl) (fun x r hg hL hl X hf Hr => ?_)
  subst hg
  exact fun _ ls H locs hl hP hS => sX6_astray_0 X hL Hr h_l0 ⟨_, hf, rfl⟩ ls H locs hl hP hS
/-! CrumbWoodModel.in(III)Z -/
set_option maxRecDepth 100000 in
noncomputable def bX6_in_14  (M : Mm) : Option (Int32 × Mm) := some ((0, M))
set_option maxRecDepth 100000 in
set_option maxHeartbeats 4000000 in
theorem sX6_in_14 {x : SB} {F : (Int32 × Mm) → Prop} (X : CX x cX6_in RX6 0) (hL : x.2.2.2.1 = 3) (Hr : RTI x cX6_in .boolean F (fun q => q))  {M : Mm}  : SIM x F (bX6_in_14  M) 14 [] [] M := by
  unfold bX6_in_14
  refine r_iconst (v := 0) X dX6_in_14 (by decide) ?_
  exact r_iret Hr rfl dX6_in_15
set_option maxRecDepth 100000 in
noncomputable def fX6_in (l0 : Int32) (l1 : Int32) (l2 : Int32) (M : Mm) : Option (Int32 × Mm) := if l0 < l1 then bX6_in_14 M else if l2 < l0 then bX6_in_14 M else some ((1, M))
set_option maxRecDepth 100000 in
set_option maxHeartbeats 4000000 in
theorem sX6_in_0 {x : SB} {F : (Int32 × Mm) → Prop} (X : CX x cX6_in RX6 0) (hL : x.2.2.2.1 = 3) (Hr : RTI x cX6_in .boolean F (fun q => q)) {l0 : Int32} {l1 : Int32} {l2 : Int32} {M : Mm}  : SIM x F (fX6_in l0 l1 l2 M) 0 [(0, .int l0), (1, .int l1), (2, .int l2)] [] M := by
  unfold fX6_in
  refine r_iload_n X dX6_in_0 rfl 0 rfl ?_
  refine r_iload_n X dX6_in_1 rfl 1 rfl ?_
  refine r_icmp_lt 14 X dX6_in_2 (by decide) ?_ ?_
  · exact r_to [] [] rfl (sX6_in_14 X hL Hr)
  · refine r_iload_n X dX6_in_5 rfl 0 rfl ?_
    refine r_iload_n X dX6_in_6 rfl 2 rfl ?_
    refine r_icmp_gt 14 X dX6_in_7 (by decide) ?_ ?_
    · exact r_to [] [] rfl (sX6_in_14 X hL Hr)
    · refine r_iconst (v := 1) X dX6_in_10 (by decide) ?_
      refine r_goto 15 X dX6_in_11 (by decide) ?_
      exact r_iret Hr rfl dX6_in_15
set_option maxRecDepth 100000 in
set_option maxHeartbeats 4000000 in
theorem okX6_in (l : Launch) (g : GX) (hJ : IJ g) {l0 : Int32} {l1 : Int32} {l2 : Int32} {M : Mm}  : CT l g yX6_in cX6_in 3 (some .boolean) 0 [.int l0, .int l1, .int l2] M (fX6_in l0 l1 l2 M) (fun r => some (.int r)) := by
  refine ct_I rfl hJ (Nat.le_of_ble_eq_true rfl) (fun x r hg hL hl X hf Hr => ?_)
  subst hg
  exact fun _ ls H locs hl hP hS => sX6_in_0 X hL Hr ⟨_, hf, rfl⟩ ls H locs hl hP hS
/-! CrumbWoodModel.isRow(I)Z -/
set_option maxRecDepth 100000 in
noncomputable def fX6_isRow (l0 : Int32) (M : Mm) : Option (Int32 × Mm) := cal (fX6_in l0 0 5 M) fun v2 M1 => rz v2 (some ((v2, M1)))
set_option maxRecDepth 100000 in
set_option maxHeartbeats 4000000 in
theorem sX6_isRow_0 {x : SB} {F : (Int32 × Mm) → Prop} (X : CX x cX6_isRow RX6 1) (hL : x.2.2.2.1 = 1) (Hr : RTI x cX6_isRow .boolean F (fun q => q)) {l0 : Int32} {M : Mm}  : SIM x F (fX6_isRow l0 M) 0 [(0, .int l0)] [] M := by
  unfold fX6_isRow
  refine r_iload_n X dX6_isRow_0 rfl 0 rfl ?_
  refine r_iconst (v := 0) X dX6_isRow_1 (by decide) ?_
  refine r_iconst (v := 5) X dX6_isRow_2 (by decide) ?_
  refine r_callSI [.int l0, .int 0, .int 5] X mt_X6_92 (by decide) (okX6_in _ _ X.J) rfl (Nat.le_of_ble_eq_true rfl) dX6_isRow_3 rfl (fun v2 M1 => ?_)
  exact r_zret Hr dX6_isRow_6
set_option maxRecDepth 100000 in
set_option maxHeartbeats 4000000 in
theorem okX6_isRow (l : Launch) (g : GX) (hJ : IJ g) {l0 : Int32} {M : Mm}  : CT l g yX6_isRow cX6_isRow 1 (some .boolean) 1 [.int l0] M (fX6_isRow l0 M) (fun r => some (.int r)) := by
  refine ct_I rfl hJ (Nat.le_of_ble_eq_true rfl) (fun x r hg hL hl X hf Hr => ?_)
  subst hg
  exact fun _ ls H locs hl hP hS => sX6_isRow_0 X hL Hr ⟨_, hf, rfl⟩ ls H locs hl hP hS
/-! CrumbWoodModel.meets(I)I -/
set_option maxRecDepth 100000 in
noncomputable def fX6_meets (l0 : Nat) (l1 : Int32) (M : Mm) : Option (Int32 × Mm) := pfI M l0 0 l1 fun M1 => gfR M1 0 l0 1 fun v2 => ldI M1 v2 l1 fun v3 => stI M1 v2 l1 (v3 + 1) fun M4 => some (((-3), M4))
set_option maxRecDepth 100000 in
set_option maxHeartbeats 4000000 in
theorem sX6_meets_0 {x : SB} {F : (Int32 × Mm) → Prop} (X : CX x cX6_meets RX6 0) (hL : x.2.2.2.1 = 2) (Hr : RTI x cX6_meets .int F (fun q => q)) {l0 : Nat} {l1 : Int32} {M : Mm} (h_l0 : sh l0 = 16) : SIM x F (fX6_meets l0 l1 M) 0 [(0, rf x.2.1 l0), (1, .int l1)] [] M := by
  unfold fX6_meets
  refine r_aload_n X dX6_meets_0 rfl 0 rfl ?_
  refine r_iload_n X dX6_meets_1 rfl 1 rfl ?_
  refine r_putI X fl_X6_88 (by decide) h_l0 (fun _ => rfl) (fun _ => rfl) dX6_meets_2 (fun M1 => ?_)
  refine r_aload_n X dX6_meets_5 rfl 0 rfl ?_
  refine r_getR X fl_X6_7 (by decide) h_l0 dX6_meets_6 (fun v2 h_v2 => ?_)
  refine r_iload_n X dX6_meets_9 rfl 1 rfl ?_
  refine r_dup2 X dX6_meets_10 rfl rfl ?_
  refine r_iald X h_v2 dX6_meets_11 (fun v3 => ?_)
  refine r_iconst (v := 1) X dX6_meets_12 (by decide) ?_
  refine r_iadd X dX6_meets_13 ?_
  refine r_iast X h_v2 dX6_meets_14 (fun M4 => ?_)
  refine r_bipush (v := (-3)) X dX6_meets_15 (by decide) ?_
  exact r_iret Hr rfl dX6_meets_17
set_option maxRecDepth 100000 in
set_option maxHeartbeats 4000000 in
theorem okX6_meets (l : Launch) (g : GX) (hJ : IJ g) {l0 : Nat} {l1 : Int32} {M : Mm} (h_l0 : sh l0 = 16) : CT l g yX6_meets cX6_meets 2 (some .int) 0 [rf g l0, .int l1] M (fX6_meets l0 l1 M) (fun r => some (.int r)) := by
  refine ct_I rfl hJ (Nat.le_of_ble_eq_true rfl) (fun x r hg hL hl X hf Hr => ?_)
  subst hg
  exact fun _ ls H locs hl hP hS => sX6_meets_0 X hL Hr h_l0 ⟨_, hf, rfl⟩ ls H locs hl hP hS
/-! CrumbWoodModel.rowAt(II)I -/
set_option maxRecDepth 100000 in
noncomputable def fX6_rowAt (l0 : Nat) (l1 : Int32) (l2 : Int32) (M : Mm) : Option (Int32 × Mm) := gfR M 0 l0 6 fun v1 => ldI M v1 (((40 : Int32) * l1) + l2) fun v2 => some ((v2, M))
set_option maxRecDepth 100000 in
set_option maxHeartbeats 4000000 in
theorem sX6_rowAt_0 {x : SB} {F : (Int32 × Mm) → Prop} (X : CX x cX6_rowAt RX6 0) (hL : x.2.2.2.1 = 3) (Hr : RTI x cX6_rowAt .int F (fun q => q)) {l0 : Nat} {l1 : Int32} {l2 : Int32} {M : Mm} (h_l0 : sh l0 = 16) : SIM x F (fX6_rowAt l0 l1 l2 M) 0 [(0, rf x.2.1 l0), (1, .int l1), (2, .int l2)] [] M := by
  unfold fX6_rowAt
  refine r_aload_n X dX6_rowAt_0 rfl 0 rfl ?_
  refine r_getR X fl_X6_20 (by decide) h_l0 dX6_rowAt_1 (fun v1 h_v1 => ?_)
  refine r_bipush (v := 40) X dX6_rowAt_4 (by decide) ?_
  refine r_iload_n X dX6_rowAt_6 rfl 1 rfl ?_
  refine r_imul X dX6_rowAt_7 ?_
  refine r_iload_n X dX6_rowAt_8 rfl 2 rfl ?_
  refine r_iadd X dX6_rowAt_9 ?_
  refine r_iald X h_v1 dX6_rowAt_10 (fun v2 => ?_)
  exact r_iret Hr rfl dX6_rowAt_11
set_option maxRecDepth 100000 in
set_option maxHeartbeats 4000000 in
theorem okX6_rowAt (l : Launch) (g : GX) (hJ : IJ g) {l0 : Nat} {l1 : Int32} {l2 : Int32} {M : Mm} (h_l0 : sh l0 = 16) : CT l g yX6_rowAt cX6_rowAt 3 (some .int) 0 [rf g l0, .int l1, .int l2] M (fX6_rowAt l0 l1 l2 M) (fun r => some (.int r)) := by
  refine ct_I rfl hJ (Nat.le_of_ble_eq_true rfl) (fun x r hg hL hl X hf Hr => ?_)
  subst hg
  exact fun _ ls H locs hl hP hS => sX6_rowAt_0 X hL Hr h_l0 ⟨_, hf, rfl⟩ ls H locs hl hP hS
/-! CrumbWoodModel.tells(II)I -/
set_option maxRecDepth 100000 in
noncomputable def fX6_tells (l0 : Nat) (l1 : Int32) (l2 : Int32) (M : Mm) : Option (Int32 × Mm) := pfI M l0 2 l1 fun M1 => some ((l2, M1))
set_option maxRecDepth 100000 in
set_option maxHeartbeats 4000000 in
theorem sX6_tells_0 {x : SB} {F : (Int32 × Mm) → Prop} (X : CX x cX6_tells RX6 0) (hL : x.2.2.2.1 = 3) (Hr : RTI x cX6_tells .int F (fun q => q)) {l0 : Nat} {l1 : Int32} {l2 : Int32} {M : Mm} (h_l0 : sh l0 = 16) : SIM x F (fX6_tells l0 l1 l2 M) 0 [(0, rf x.2.1 l0), (1, .int l1), (2, .int l2)] [] M := by
  unfold fX6_tells
  refine r_aload_n X dX6_tells_0 rfl 0 rfl ?_
  refine r_iload_n X dX6_tells_1 rfl 1 rfl ?_
  refine r_putI X fl_X6_96 (by decide) h_l0 (fun _ => rfl) (fun _ => rfl) dX6_tells_2 (fun M1 => ?_)
  refine r_iload_n X dX6_tells_5 rfl 2 rfl ?_
  exact r_iret Hr rfl dX6_tells_6
set_option maxRecDepth 100000 in
set_option maxHeartbeats 4000000 in
theorem okX6_tells (l : Launch) (g : GX) (hJ : IJ g) {l0 : Nat} {l1 : Int32} {l2 : Int32} {M : Mm} (h_l0 : sh l0 = 16) : CT l g yX6_tells cX6_tells 3 (some .int) 0 [rf g l0, .int l1, .int l2] M (fX6_tells l0 l1 l2 M) (fun r => some (.int r)) := by
  refine ct_I rfl hJ (Nat.le_of_ble_eq_true rfl) (fun x r hg hL hl X hf Hr => ?_)
  subst hg
  exact fun _ ls H locs hl hP hS => sX6_tells_0 X hL Hr h_l0 ⟨_, hf, rfl⟩ ls H locs hl hP hS
/-! CrumbWoodModel.at(II)I -/
set_option maxRecDepth 100000 in
noncomputable def fX6_at (l0 : Nat) (l1 : Int32) (l2 : Int32) (M : Mm) : Option (Int32 × Mm) := cal (fX6_isRow l1 M) fun v2 M1 => if v2 = 0 then some (((-1), M1)) else gfR M1 0 l0 5 fun v3 => ldI M1 v3 l1 fun v4 => if 0 ≤ v4 then gfR M1 0 l0 5 fun v5 => ldI M1 v5 l1 fun v6 => cal (fX6_in l2 0 (v6 - 1) M1) fun v8 M7 => if v8 = 0 then cal (fX6_meets l0 2 M7) fun v10 M9 => some ((v10, M9)) else cal (fX6_rowAt l0 l1 l2 M7) fun v12 M11 => cal (fX6_tells l0 v12 1 M11) fun v14 M13 => some ((v14, M13)) else cal (fX6_meets l0 1 M1) fun v16 M15 => some ((v16, M15))
set_option maxRecDepth 100000 in
set_option maxHeartbeats 4000000 in
theorem sX6_at_0 {x : SB} {F : (Int32 × Mm) → Prop} (X : CX x cX6_at RX6 2) (hL : x.2.2.2.1 = 3) (Hr : RTI x cX6_at .int F (fun q => q)) {l0 : Nat} {l1 : Int32} {l2 : Int32} {M : Mm} (h_l0 : sh l0 = 16) : SIM x F (fX6_at l0 l1 l2 M) 0 [(0, rf x.2.1 l0), (1, .int l1), (2, .int l2)] [] M := by
  unfold fX6_at
  refine r_iload_n X dX6_at_0 rfl 1 rfl ?_
  refine r_callSI [.int l1] X mt_X6_102 (by decide) (okX6_isRow _ _ X.J) rfl (Nat.le_of_ble_eq_true rfl) dX6_at_1 rfl (fun v2 M1 => ?_)
  refine r_if_ne 9 X dX6_at_4 (by decide) ?_ ?_
  · refine r_iconst (v := (-1)) X dX6_at_7 (by decide) ?_
    exact r_iret Hr rfl dX6_at_8
  · refine r_aload_n X dX6_at_9 rfl 0 rfl ?_
    refine r_getR X fl_X6_17 (by decide) h_l0 dX6_at_10 (fun v3 h_v3 => ?_)
    refine r_iload_n X dX6_at_13 rfl 1 rfl ?_
    refine r_iald X h_v3 dX6_at_14 (fun v4 => ?_)
    refine r_if_ge 24 X dX6_at_15 (by decide) ?_ ?_
    · refine r_iload_n X dX6_at_24 rfl 2 rfl ?_
      refine r_iconst (v := 0) X dX6_at_25 (by decide) ?_
      refine r_aload_n X dX6_at_26 rfl 0 rfl ?_
      refine r_getR X fl_X6_17 (by decide) h_l0 dX6_at_27 (fun v5 h_v5 => ?_)
      refine r_iload_n X dX6_at_30 rfl 1 rfl ?_
      refine r_iald X h_v5 dX6_at_31 (fun v6 => ?_)
      refine r_iconst (v := 1) X dX6_at_32 (by decide) ?_
      refine r_isub X dX6_at_33 ?_
      refine r_callSI [.int l2, .int 0, .int (v6 - 1)] X mt_X6_92 (by decide) (okX6_in _ _ X.J) rfl (Nat.le_of_ble_eq_true rfl) dX6_at_34 rfl (fun v8 M7 => ?_)
      refine r_if_eq 54 X dX6_at_37 (by decide) ?_ ?_
      · refine r_aload_n X dX6_at_54 rfl 0 rfl ?_
        refine r_iconst (v := 2) X dX6_at_55 (by decide) ?_
        refine r_callVI [.int 2] X mt_X6_106 (by decide) h_l0 (by decide) (okX6_meets _ _ X.J h_l0) rfl (Nat.le_of_ble_eq_true rfl) dX6_at_56 rfl (fun v10 M9 => ?_)
        exact r_iret Hr rfl dX6_at_59
      · refine r_aload_n X dX6_at_40 rfl 0 rfl ?_
        refine r_aload_n X dX6_at_41 rfl 0 rfl ?_
        refine r_iload_n X dX6_at_42 rfl 1 rfl ?_
        refine r_iload_n X dX6_at_43 rfl 2 rfl ?_
        refine r_callVI [.int l1, .int l2] X mt_X6_110 (by decide) h_l0 (by decide) (okX6_rowAt _ _ X.J h_l0) rfl (Nat.le_of_ble_eq_true rfl) dX6_at_44 rfl (fun v12 M11 => ?_)
        refine r_iconst (v := 1) X dX6_at_47 (by decide) ?_
        refine r_callVI [.int v12, .int 1] X mt_X6_114 (by decide) h_l0 (by decide) (okX6_tells _ _ X.J h_l0) rfl (Nat.le_of_ble_eq_true rfl) dX6_at_48 rfl (fun v14 M13 => ?_)
        refine r_goto 59 X dX6_at_51 (by decide) ?_
        exact r_iret Hr rfl dX6_at_59
    · refine r_aload_n X dX6_at_18 rfl 0 rfl ?_
      refine r_iconst (v := 1) X dX6_at_19 (by decide) ?_
      refine r_callVI [.int 1] X mt_X6_106 (by decide) h_l0 (by decide) (okX6_meets _ _ X.J h_l0) rfl (Nat.le_of_ble_eq_true rfl) dX6_at_20 rfl (fun v16 M15 => ?_)
      exact r_iret Hr rfl dX6_at_23
set_option maxRecDepth 100000 in
set_option maxHeartbeats 4000000 in
theorem okX6_at (l : Launch) (g : GX) (hJ : IJ g) {l0 : Nat} {l1 : Int32} {l2 : Int32} {M : Mm} (h_l0 : sh l0 = 16) : CT l g yX6_at cX6_at 3 (some .int) 2 [rf g l0, .int l1, .int l2] M (fX6_at l0 l1 l2 M) (fun r => some (.int r)) := by
  refine ct_I rfl hJ (Nat.le_of_ble_eq_true rfl) (fun x r hg hL hl X hf Hr => ?_)
  subst hg
  exact fun _ ls H locs hl hP hS => sX6_at_0 X hL Hr h_l0 ⟨_, hf, rfl⟩ ls H locs hl hP hS
/-! CrumbWoodModel.layRow(I[II)V -/
set_option maxRecDepth 100000 in
def pX6_layRow (x : SB) (q : Nat × Nat × Int32 × Nat × Int32 × Int32 × Mm) : Prop := match q.1 with
  | 1 => sh q.2.1 = 16 → sh q.2.2.2.1 = 0 → ∀ (ls : Array Slot) (H : Heap) (locs : List Loc), lv_has ls x.2.2.2.1 [(0, rf x.2.1 q.2.1), (1, .int q.2.2.1), (2, rf x.2.1 q.2.2.2.1), (3, .int q.2.2.2.2.1), (4, .int q.2.2.2.2.2.1)] → PW x.2.1 (q.2.2.2.2.2.2) H → SH x H locs → SW x H locs 10 ls []
  | _ => True
set_option maxRecDepth 100000 in
noncomputable def bX6_layRow_42 (l0 : Nat) (l1 : Int32) (l2 : Nat) (l3 : Int32) (l4 : Int32) (s0 : Int32) (s1 : Int32) (s2 : Nat) (M : Mm) : Option ((Nat × Nat × Int32 × Nat × Int32 × Int32 × Mm) ⊕ Unit × Mm) := stI M s2 s1 s0 fun M1 => some (.inl (1, l0, l1, l2, l3, (l4 + 1), M1))
set_option maxRecDepth 100000 in
set_option maxHeartbeats 4000000 in
theorem sX6_layRow_42 {x : SB} {F : ((Nat × Nat × Int32 × Nat × Int32 × Int32 × Mm) ⊕ Unit × Mm) → Prop} (X : CX x cX6_layRow RX6 0) (hL : x.2.2.2.1 = 5) (Hr : RTV x cX6_layRow F Sum.inr) (HH : ∀ q, F (.inl q) → pX6_layRow x q) {l0 : Nat} {l1 : Int32} {l2 : Nat} {l3 : Int32} {l4 : Int32} {s0 : Int32} {s1 : Int32} {s2 : Nat} {M : Mm} (h_l0 : sh l0 = 16) (h_l2 : sh l2 = 0) (h_s2 : sh s2 = 0) : SIM x F (bX6_layRow_42 l0 l1 l2 l3 l4 s0 s1 s2 M) 42 [(0, rf x.2.1 l0), (1, .int l1), (2, rf x.2.1 l2), (3, .int l3), (4, .int l4)] [.int s0, .int s1, rf x.2.1 s2] M := by
  unfold bX6_layRow_42
  refine r_iast X h_s2 dX6_layRow_42 (fun M1 => ?_)
  refine r_iinc [(4, .int (l4 + 1)), (0, rf x.2.1 l0), (1, .int l1), (2, rf x.2.1 l2), (3, .int l3)] X dX6_layRow_43 4 rfl rfl (nlt hL (by decide)) rfl ?_
  refine r_goto 10 X dX6_layRow_46 (by decide) ?_
  exact r_hdr [(0, rf x.2.1 l0), (1, .int l1), (2, rf x.2.1 l2), (3, .int l3), (4, .int (l4 + 1))] [1, 2, 3, 4, 0] rfl (fun h => HH _ h h_l0 h_l2)
set_option maxRecDepth 100000 in
noncomputable def bX6_layRow_10 (l0 : Nat) (l1 : Int32) (l2 : Nat) (l3 : Int32) (l4 : Int32) (M : Mm) : Option ((Nat × Nat × Int32 × Nat × Int32 × Int32 × Mm) ⊕ Unit × Mm) := if 40 ≤ l4 then some (.inr ((), M)) else gfR M 0 l0 6 fun v2 => if l3 ≤ l4 then bX6_layRow_42 l0 l1 l2 l3 l4 0 (((40 : Int32) * l1) + l4) v2 M else ldI M l2 l4 fun v3 => bX6_layRow_42 l0 l1 l2 l3 l4 v3 (((40 : Int32) * l1) + l4) v2 M
set_option maxRecDepth 100000 in
set_option maxHeartbeats 4000000 in
theorem sX6_layRow_10 {x : SB} {F : ((Nat × Nat × Int32 × Nat × Int32 × Int32 × Mm) ⊕ Unit × Mm) → Prop} (X : CX x cX6_layRow RX6 0) (hL : x.2.2.2.1 = 5) (Hr : RTV x cX6_layRow F Sum.inr) (HH : ∀ q, F (.inl q) → pX6_layRow x q) {l0 : Nat} {l1 : Int32} {l2 : Nat} {l3 : Int32} {l4 : Int32} {M : Mm} (h_l0 : sh l0 = 16) (h_l2 : sh l2 = 0) : SIM x F (bX6_layRow_10 l0 l1 l2 l3 l4 M) 10 [(0, rf x.2.1 l0), (1, .int l1), (2, rf x.2.1 l2), (3, .int l3), (4, .int l4)] [] M := by
  unfold bX6_layRow_10
  refine r_iload X dX6_layRow_10 4 rfl ?_
  refine r_bipush (v := 40) X dX6_layRow_12 (by decide) ?_
  refine r_icmp_ge 49 X dX6_layRow_14 (by decide) ?_ ?_
  · exact r_vret Hr dX6_layRow_49
  · refine r_aload_n X dX6_layRow_17 rfl 0 rfl ?_
    refine r_getR X fl_X6_20 (by decide) h_l0 dX6_layRow_18 (fun v2 h_v2 => ?_)
    refine r_bipush (v := 40) X dX6_layRow_21 (by decide) ?_
    refine r_iload_n X dX6_layRow_23 rfl 1 rfl ?_
    refine r_imul X dX6_layRow_24 ?_
    refine r_iload X dX6_layRow_25 4 rfl ?_
    refine r_iadd X dX6_layRow_27 ?_
    refine r_iload X dX6_layRow_28 4 rfl ?_
    refine r_iload_n X dX6_layRow_30 rfl 3 rfl ?_
    refine r_icmp_ge 41 X dX6_layRow_31 (by decide) ?_ ?_
    · refine r_iconst (v := 0) X dX6_layRow_41 (by decide) ?_
      exact r_to [(0, rf x.2.1 l0), (1, .int l1), (2, rf x.2.1 l2), (3, .int l3), (4, .int l4)] [0, 1, 2, 3, 4] rfl (sX6_layRow_42 X hL Hr HH h_l0 h_l2 h_v2)
    · refine r_aload_n X dX6_layRow_34 rfl 2 rfl ?_
      refine r_iload X dX6_layRow_35 4 rfl ?_
      refine r_iald X h_l2 dX6_layRow_37 (fun v3 => ?_)
      refine r_goto 42 X dX6_layRow_38 (by decide) ?_
      exact r_to [(0, rf x.2.1 l0), (1, .int l1), (2, rf x.2.1 l2), (3, .int l3), (4, .int l4)] [0, 1, 2, 3, 4] rfl (sX6_layRow_42 X hL Hr HH h_l0 h_l2 h_v2)
set_option maxRecDepth 100000 in
noncomputable def bX6_layRow_0 (l0 : Nat) (l1 : Int32) (l2 : Nat) (l3 : Int32) (M : Mm) : Option ((Nat × Nat × Int32 × Nat × Int32 × Int32 × Mm) ⊕ Unit × Mm) := gfR M 0 l0 5 fun v4 => stI M v4 l1 l3 fun M5 => some (.inl (1, l0, l1, l2, l3, 0, M5))
set_option maxRecDepth 100000 in
set_option maxHeartbeats 4000000 in
theorem sX6_layRow_0 {x : SB} {F : ((Nat × Nat × Int32 × Nat × Int32 × Int32 × Mm) ⊕ Unit × Mm) → Prop} (X : CX x cX6_layRow RX6 0) (hL : x.2.2.2.1 = 5) (Hr : RTV x cX6_layRow F Sum.inr) (HH : ∀ q, F (.inl q) → pX6_layRow x q) {l0 : Nat} {l1 : Int32} {l2 : Nat} {l3 : Int32} {M : Mm} (h_l0 : sh l0 = 16) (h_l2 : sh l2 = 0) : SIM x F (bX6_layRow_0 l0 l1 l2 l3 M) 0 [(0, rf x.2.1 l0), (1, .int l1), (2, rf x.2.1 l2), (3, .int l3)] [] M := by
  unfold bX6_layRow_0
  refine r_aload_n X dX6_layRow_0 rfl 0 rfl ?_
  refine r_getR X fl_X6_17 (by decide) h_l0 dX6_layRow_1 (fun v4 h_v4 => ?_)
  refine r_iload_n X dX6_layRow_4 rfl 1 rfl ?_
  refine r_iload_n X dX6_layRow_5 rfl 3 rfl ?_
  refine r_iast X h_v4 dX6_layRow_6 (fun M5 => ?_)
  refine r_iconst (v := 0) X dX6_layRow_7 (by decide) ?_
  refine r_istore [(4, .int 0), (0, rf x.2.1 l0), (1, .int l1), (2, rf x.2.1 l2), (3, .int l3)] X dX6_layRow_8 (nlt hL (by decide)) rfl ?_
  exact r_hdr [(0, rf x.2.1 l0), (1, .int l1), (2, rf x.2.1 l2), (3, .int l3), (4, .int 0)] [1, 2, 3, 4, 0] rfl (fun h => HH _ h h_l0 h_l2)
set_option maxRecDepth 100000 in
noncomputable def gX6_layRow (q : Nat × Nat × Int32 × Nat × Int32 × Int32 × Mm) : Option ((Nat × Nat × Int32 × Nat × Int32 × Int32 × Mm) ⊕ Unit × Mm) := match q.1 with
  | 1 => bX6_layRow_10 (q.2.1) (q.2.2.1) (q.2.2.2.1) (q.2.2.2.2.1) (q.2.2.2.2.2.1) (q.2.2.2.2.2.2)
  | _ => none
set_option maxRecDepth 100000 in
noncomputable def fX6_layRow (l0 : Nat) (l1 : Int32) (l2 : Nat) (l3 : Int32) (M : Mm) : Option (Unit × Mm) := fen gX6_layRow (bX6_layRow_0 l0 l1 l2 l3 M)
set_option maxRecDepth 100000 in
set_option maxHeartbeats 4000000 in
theorem okX6_layRow (l : Launch) (g : GX) (hJ : IJ g) {l0 : Nat} {l1 : Int32} {l2 : Nat} {l3 : Int32} {M : Mm} (h_l0 : sh l0 = 16) (h_l2 : sh l2 = 0) : CT l g yX6_layRow cX6_layRow 5 none 0 [rf g l0, .int l1, rf g l2, .int l3] M (fX6_layRow l0 l1 l2 l3 M) (fun _ => none) := by
  refine ct_V rfl hJ (Nat.le_of_ble_eq_true rfl) (fun x r hg hL hl X hf Hr => ?_)
  subst hg
  have Hr2 : RTV x cX6_layRow (Sum.elim (pX6_layRow x) (fun q => q = r)) Sum.inr := fun M h => Hr M h
  have HP : ∀ q, fnl gX6_layRow q = some r → pX6_layRow x q := by
    intro q hq
    refine fnl_ind (pX6_layRow x) (fun q hq => ?_) hq
    obtain ⟨n, l0, l1, l2, l3, l4, M⟩ := q
    match n, hq with
    | 1, hq => exact fun h_l0 h_l2 ls H locs hl hP hS => sX6_layRow_10 X hL Hr2 (fun _ h => h) h_l0 h_l2 hq ls H locs hl hP hS
    | 0, hq => exact trivial
    | n + 2, hq => exact trivial
  exact fun _ ls H locs hl hP hS => sX6_layRow_0 X hL Hr2 (fun _ h => h) h_l0 h_l2 (fen_w hf HP) ls H locs hl hP hS
/-! CrumbWoodModel.back(I)I -/
set_option maxRecDepth 100000 in
noncomputable def fX6_back (l0 : Nat) (l1 : Int32) (M : Mm) : Option (Int32 × Mm) := cal (fX6_isRow l1 M) fun v2 M1 => if v2 = 0 then some (((-1), M1)) else gfI M1 l0 10 fun v3 => if v3 = 0 then some (((-4), M1)) else cal (fX6_hereNow l0 M1) fun v5 M4 => cal (fX6_follows l0 0 v5 M4) fun v7 M6 => gfR M6 0 l0 33 fun v8 => gfI M6 l0 32 fun v9 => cal (fX6_layRow l0 l1 v8 v9 M6) fun _ M10 => gfI M10 l0 32 fun v11 => some ((v11, M10))
set_option maxRecDepth 100000 in
set_option maxHeartbeats 4000000 in
theorem sX6_back_0 {x : SB} {F : (Int32 × Mm) → Prop} (X : CX x cX6_back RX6 5) (hL : x.2.2.2.1 = 2) (Hr : RTI x cX6_back .int F (fun q => q)) {l0 : Nat} {l1 : Int32} {M : Mm} (h_l0 : sh l0 = 16) : SIM x F (fX6_back l0 l1 M) 0 [(0, rf x.2.1 l0), (1, .int l1)] [] M := by
  unfold fX6_back
  refine r_iload_n X dX6_back_0 rfl 1 rfl ?_
  refine r_callSI [.int l1] X mt_X6_102 (by decide) (okX6_isRow _ _ X.J) rfl (Nat.le_of_ble_eq_true rfl) dX6_back_1 rfl (fun v2 M1 => ?_)
  refine r_if_ne 9 X dX6_back_4 (by decide) ?_ ?_
  · refine r_iconst (v := (-1)) X dX6_back_7 (by decide) ?_
    exact r_iret Hr rfl dX6_back_8
  · refine r_aload_n X dX6_back_9 rfl 0 rfl ?_
    refine r_getI X fl_X6_167 (by decide) h_l0 dX6_back_10 (fun v3 => ?_)
    refine r_if_ne 19 X dX6_back_13 (by decide) ?_ ?_
    · refine r_bipush (v := (-4)) X dX6_back_16 (by decide) ?_
      exact r_iret Hr rfl dX6_back_18
    · refine r_aload_n X dX6_back_19 rfl 0 rfl ?_
      refine r_iconst (v := 0) X dX6_back_20 (by decide) ?_
      refine r_aload_n X dX6_back_21 rfl 0 rfl ?_
      refine r_callVI [] X mt_X6_223 (by decide) h_l0 (by decide) (okX6_hereNow _ _ X.J h_l0) rfl (Nat.le_of_ble_eq_true rfl) dX6_back_22 rfl (fun v5 M4 => ?_)
      refine r_callVI [.int 0, .int v5] X mt_X6_244 (by decide) h_l0 (by decide) (okX6_follows _ _ X.J h_l0) rfl (Nat.le_of_ble_eq_true rfl) dX6_back_25 rfl (fun v7 M6 => ?_)
      refine r_pop X dX6_back_28 rfl ?_
      refine r_aload_n X dX6_back_29 rfl 0 rfl ?_
      refine r_iload_n X dX6_back_30 rfl 1 rfl ?_
      refine r_aload_n X dX6_back_31 rfl 0 rfl ?_
      refine r_getR X fl_X6_73 (by decide) h_l0 dX6_back_32 (fun v8 h_v8 => ?_)
      refine r_aload_n X dX6_back_35 rfl 0 rfl ?_
      refine r_getI X fl_X6_238 (by decide) h_l0 dX6_back_36 (fun v9 => ?_)
      refine r_callVV [.int l1, rf x.2.1 v8, .int v9] X mt_X6_234 (by decide) h_l0 (by decide) (okX6_layRow _ _ X.J h_l0 h_v8) rfl (Nat.le_of_ble_eq_true rfl) dX6_back_39 rfl (fun _ M10 => ?_)
      refine r_aload_n X dX6_back_42 rfl 0 rfl ?_
      refine r_getI X fl_X6_238 (by decide) h_l0 dX6_back_43 (fun v11 => ?_)
      exact r_iret Hr rfl dX6_back_46
set_option maxRecDepth 100000 in
set_option maxHeartbeats 4000000 in
theorem okX6_back (l : Launch) (g : GX) (hJ : IJ g) {l0 : Nat} {l1 : Int32} {M : Mm} (h_l0 : sh l0 = 16) : CT l g yX6_back cX6_back 2 (some .int) 5 [rf g l0, .int l1] M (fX6_back l0 l1 M) (fun r => some (.int r)) := by
  refine ct_I rfl hJ (Nat.le_of_ble_eq_true rfl) (fun x r hg hL hl X hf Hr => ?_)
  subst hg
  exact fun _ ls H locs hl hP hS => sX6_back_0 X hL Hr h_l0 ⟨_, hf, rfl⟩ ls H locs hl hP hS
/-! CrumbWoodModel.crumbsOn(II)I -/
set_option maxRecDepth 100000 in
def pX6_crumbsOn (x : SB) (q : Nat × Nat × Int32 × Int32 × Int32 × Int32 × Mm) : Prop := match q.1 with
  | 1 => sh q.2.1 = 16 → ∀ (ls : Array Slot) (H : Heap) (locs : List Loc), lv_has ls x.2.2.2.1 [(0, rf x.2.1 q.2.1), (1, .int q.2.2.1), (2, .int q.2.2.2.1), (3, .int q.2.2.2.2.1), (4, .int q.2.2.2.2.2.1)] → PW x.2.1 (q.2.2.2.2.2.2) H → SH x H locs → SW x H locs 5 ls []
  | _ => True
set_option maxRecDepth 100000 in
noncomputable def bX6_crumbsOn_36 (l0 : Nat) (l1 : Int32) (l2 : Int32) (l4 : Int32) (s0 : Int32) (s1 : Int32) (M : Mm) : Option ((Nat × Nat × Int32 × Int32 × Int32 × Int32 × Mm) ⊕ Int32 × Mm) := ltI (s1 + s0) fun v1 => some (.inl (1, l0, l1, l2, v1, (l4 + 1), M))
set_option maxRecDepth 100000 in
set_option maxHeartbeats 4000000 in
theorem sX6_crumbsOn_36 {x : SB} {F : ((Nat × Nat × Int32 × Int32 × Int32 × Int32 × Mm) ⊕ Int32 × Mm) → Prop} (X : CX x cX6_crumbsOn RX6 2) (hL : x.2.2.2.1 = 5) (Hr : RTI x cX6_crumbsOn .int F Sum.inr) (HH : ∀ q, F (.inl q) → pX6_crumbsOn x q) {l0 : Nat} {l1 : Int32} {l2 : Int32} {l4 : Int32} {s0 : Int32} {s1 : Int32} {M : Mm} (h_l0 : sh l0 = 16) : SIM x F (bX6_crumbsOn_36 l0 l1 l2 l4 s0 s1 M) 36 [(0, rf x.2.1 l0), (1, .int l1), (2, .int l2), (4, .int l4)] [.int s0, .int s1] M := by
  unfold bX6_crumbsOn_36
  refine r_iadd X dX6_crumbsOn_36 ?_
  refine r_letI (fun v1 => ?_)
  refine r_istore_n [(3, .int v1), (0, rf x.2.1 l0), (1, .int l1), (2, .int l2), (4, .int l4)] X dX6_crumbsOn_37 rfl (nlt hL (by decide)) rfl ?_
  refine r_iinc [(4, .int (l4 + 1)), (3, .int v1), (0, rf x.2.1 l0), (1, .int l1), (2, .int l2)] X dX6_crumbsOn_38 4 rfl rfl (nlt hL (by decide)) rfl ?_
  refine r_goto 5 X dX6_crumbsOn_41 (by decide) ?_
  exact r_hdr [(0, rf x.2.1 l0), (1, .int l1), (2, .int l2), (3, .int v1), (4, .int (l4 + 1))] [2, 3, 4, 1, 0] rfl (fun h => HH _ h h_l0)
set_option maxRecDepth 100000 in
noncomputable def bX6_crumbsOn_5 (l0 : Nat) (l1 : Int32) (l2 : Int32) (l3 : Int32) (l4 : Int32) (M : Mm) : Option ((Nat × Nat × Int32 × Int32 × Int32 × Int32 × Mm) ⊕ Int32 × Mm) := gfI M l0 10 fun v2 => if v2 ≤ l4 then some (.inr (l3, M)) else cal (fX6_has l2 l4 M) fun v4 M3 => if v4 = 0 then bX6_crumbsOn_36 l0 l1 l2 l4 0 l3 M3 else cal (fX6_marks l0 l1 0 l4 M3) fun v6 M5 => bX6_crumbsOn_36 l0 l1 l2 l4 v6 l3 M5
set_option maxRecDepth 100000 in
set_option maxHeartbeats 4000000 in
theorem sX6_crumbsOn_5 {x : SB} {F : ((Nat × Nat × Int32 × Int32 × Int32 × Int32 × Mm) ⊕ Int32 × Mm) → Prop} (X : CX x cX6_crumbsOn RX6 2) (hL : x.2.2.2.1 = 5) (Hr : RTI x cX6_crumbsOn .int F Sum.inr) (HH : ∀ q, F (.inl q) → pX6_crumbsOn x q) {l0 : Nat} {l1 : Int32} {l2 : Int32} {l3 : Int32} {l4 : Int32} {M : Mm} (h_l0 : sh l0 = 16) : SIM x F (bX6_crumbsOn_5 l0 l1 l2 l3 l4 M) 5 [(0, rf x.2.1 l0), (1, .int l1), (2, .int l2), (3, .int l3), (4, .int l4)] [] M := by
  unfold bX6_crumbsOn_5
  refine r_iload X dX6_crumbsOn_5 4 rfl ?_
  refine r_aload_n X dX6_crumbsOn_7 rfl 0 rfl ?_
  refine r_getI X fl_X6_167 (by decide) h_l0 dX6_crumbsOn_8 (fun v2 => ?_)
  refine r_icmp_ge 44 X dX6_crumbsOn_11 (by decide) ?_ ?_
  · refine r_iload_n X dX6_crumbsOn_44 rfl 3 rfl ?_
    exact r_iret Hr rfl dX6_crumbsOn_45
  · refine r_iload_n X dX6_crumbsOn_14 rfl 3 rfl ?_
    refine r_iload_n X dX6_crumbsOn_15 rfl 2 rfl ?_
    refine r_iload X dX6_crumbsOn_16 4 rfl ?_
    refine r_callSI [.int l2, .int l4] X mt_X6_145 (by decide) (okX6_has _ _ X.J) rfl (Nat.le_of_ble_eq_true rfl) dX6_crumbsOn_18 rfl (fun v4 M3 => ?_)
    refine r_if_eq 35 X dX6_crumbsOn_21 (by decide) ?_ ?_
    · refine r_iconst (v := 0) X dX6_crumbsOn_35 (by decide) ?_
      exact r_to [(0, rf x.2.1 l0), (1, .int l1), (2, .int l2), (4, .int l4)] [0, 1, 2, 4] rfl (sX6_crumbsOn_36 X hL Hr HH h_l0)
    · refine r_aload_n X dX6_crumbsOn_24 rfl 0 rfl ?_
      refine r_iload_n X dX6_crumbsOn_25 rfl 1 rfl ?_
      refine r_iconst (v := 0) X dX6_crumbsOn_26 (by decide) ?_
      refine r_iload X dX6_crumbsOn_27 4 rfl ?_
      refine r_callVI [.int l1, .int 0, .int l4] X mt_X6_184 (by decide) h_l0 (by decide) (okX6_marks _ _ X.J h_l0) rfl (Nat.le_of_ble_eq_true rfl) dX6_crumbsOn_29 rfl (fun v6 M5 => ?_)
      refine r_goto 36 X dX6_crumbsOn_32 (by decide) ?_
      exact r_to [(0, rf x.2.1 l0), (1, .int l1), (2, .int l2), (4, .int l4)] [0, 1, 2, 4] rfl (sX6_crumbsOn_36 X hL Hr HH h_l0)
set_option maxRecDepth 100000 in
noncomputable def bX6_crumbsOn_0 (l0 : Nat) (l1 : Int32) (l2 : Int32) (M : Mm) : Option ((Nat × Nat × Int32 × Int32 × Int32 × Int32 × Mm) ⊕ Int32 × Mm) := some (.inl (1, l0, l1, l2, 0, 0, M))
set_option maxRecDepth 100000 in
set_option maxHeartbeats 4000000 in
theorem sX6_crumbsOn_0 {x : SB} {F : ((Nat × Nat × Int32 × Int32 × Int32 × Int32 × Mm) ⊕ Int32 × Mm) → Prop} (X : CX x cX6_crumbsOn RX6 2) (hL : x.2.2.2.1 = 5) (Hr : RTI x cX6_crumbsOn .int F Sum.inr) (HH : ∀ q, F (.inl q) → pX6_crumbsOn x q) {l0 : Nat} {l1 : Int32} {l2 : Int32} {M : Mm} (h_l0 : sh l0 = 16) : SIM x F (bX6_crumbsOn_0 l0 l1 l2 M) 0 [(0, rf x.2.1 l0), (1, .int l1), (2, .int l2)] [] M := by
  unfold bX6_crumbsOn_0
  refine r_iconst (v := 0) X dX6_crumbsOn_0 (by decide) ?_
  refine r_istore_n [(3, .int 0), (0, rf x.2.1 l0), (1, .int l1), (2, .int l2)] X dX6_crumbsOn_1 rfl (nlt hL (by decide)) rfl ?_
  refine r_iconst (v := 0) X dX6_crumbsOn_2 (by decide) ?_
  refine r_istore [(4, .int 0), (3, .int 0), (0, rf x.2.1 l0), (1, .int l1), (2, .int l2)] X dX6_crumbsOn_3 (nlt hL (by decide)) rfl ?_
  exact r_hdr [(0, rf x.2.1 l0), (1, .int l1), (2, .int l2), (3, .int 0), (4, .int 0)] [2, 3, 4, 1, 0] rfl (fun h => HH _ h h_l0)
set_option maxRecDepth 100000 in
noncomputable def gX6_crumbsOn (q : Nat × Nat × Int32 × Int32 × Int32 × Int32 × Mm) : Option ((Nat × Nat × Int32 × Int32 × Int32 × Int32 × Mm) ⊕ Int32 × Mm) := match q.1 with
  | 1 => bX6_crumbsOn_5 (q.2.1) (q.2.2.1) (q.2.2.2.1) (q.2.2.2.2.1) (q.2.2.2.2.2.1) (q.2.2.2.2.2.2)
  | _ => none
set_option maxRecDepth 100000 in
noncomputable def fX6_crumbsOn (l0 : Nat) (l1 : Int32) (l2 : Int32) (M : Mm) : Option (Int32 × Mm) := fen gX6_crumbsOn (bX6_crumbsOn_0 l0 l1 l2 M)
set_option maxRecDepth 100000 in
set_option maxHeartbeats 4000000 in
theorem okX6_crumbsOn (l : Launch) (g : GX) (hJ : IJ g) {l0 : Nat} {l1 : Int32} {l2 : Int32} {M : Mm} (h_l0 : sh l0 = 16) : CT l g yX6_crumbsOn cX6_crumbsOn 5 (some .int) 2 [rf g l0, .int l1, .int l2] M (fX6_crumbsOn l0 l1 l2 M) (fun r => some (.int r)) := by
  refine ct_I rfl hJ (Nat.le_of_ble_eq_true rfl) (fun x r hg hL hl X hf Hr => ?_)
  subst hg
  have Hr2 : RTI x cX6_crumbsOn .int (Sum.elim (pX6_crumbsOn x) (fun q => q = r)) Sum.inr := fun v M h => Hr v M h
  have HP : ∀ q, fnl gX6_crumbsOn q = some r → pX6_crumbsOn x q := by
    intro q hq
    refine fnl_ind (pX6_crumbsOn x) (fun q hq => ?_) hq
    obtain ⟨n, l0, l1, l2, l3, l4, M⟩ := q
    match n, hq with
    | 1, hq => exact fun h_l0 ls H locs hl hP hS => sX6_crumbsOn_5 X hL Hr2 (fun _ h => h) h_l0 hq ls H locs hl hP hS
    | 0, hq => exact trivial
    | n + 2, hq => exact trivial
  exact fun _ ls H locs hl hP hS => sX6_crumbsOn_0 X hL Hr2 (fun _ h => h) h_l0 (fen_w hf HP) ls H locs hl hP hS
/-! CrumbWoodModel.isGlade(I)Z -/
set_option maxRecDepth 100000 in
noncomputable def bX6_isGlade_20  (M : Mm) : Option (Int32 × Mm) := some ((1, M))
set_option maxRecDepth 100000 in
set_option maxHeartbeats 4000000 in
theorem sX6_isGlade_20 {x : SB} {F : (Int32 × Mm) → Prop} (X : CX x cX6_isGlade RX6 0) (hL : x.2.2.2.1 = 2) (Hr : RTI x cX6_isGlade .boolean F (fun q => q))  {M : Mm}  : SIM x F (bX6_isGlade_20  M) 20 [] [] M := by
  unfold bX6_isGlade_20
  refine r_iconst (v := 1) X dX6_isGlade_20 (by decide) ?_
  refine r_goto 25 X dX6_isGlade_21 (by decide) ?_
  exact r_iret Hr rfl dX6_isGlade_25
set_option maxRecDepth 100000 in
noncomputable def fX6_isGlade (l0 : Nat) (l1 : Int32) (M : Mm) : Option (Int32 × Mm) := gfR M 0 l0 12 fun v1 => ldI M v1 l1 fun v2 => if v2 = 1 then bX6_isGlade_20 M else gfR M 0 l0 12 fun v3 => ldI M v3 l1 fun v4 => if v4 = 4 then bX6_isGlade_20 M else some ((0, M))
set_option maxRecDepth 100000 in
set_option maxHeartbeats 4000000 in
theorem sX6_isGlade_0 {x : SB} {F : (Int32 × Mm) → Prop} (X : CX x cX6_isGlade RX6 0) (hL : x.2.2.2.1 = 2) (Hr : RTI x cX6_isGlade .boolean F (fun q => q)) {l0 : Nat} {l1 : Int32} {M : Mm} (h_l0 : sh l0 = 16) : SIM x F (fX6_isGlade l0 l1 M) 0 [(0, rf x.2.1 l0), (1, .int l1)] [] M := by
  unfold fX6_isGlade
  refine r_aload_n X dX6_isGlade_0 rfl 0 rfl ?_
  refine r_getR X fl_X6_33 (by decide) h_l0 dX6_isGlade_1 (fun v1 h_v1 => ?_)
  refine r_iload_n X dX6_isGlade_4 rfl 1 rfl ?_
  refine r_iald X h_v1 dX6_isGlade_5 (fun v2 => ?_)
  refine r_iconst (v := 1) X dX6_isGlade_6 (by decide) ?_
  refine r_icmp_eq 20 X dX6_isGlade_7 (by decide) ?_ ?_
  · exact r_to [] [] rfl (sX6_isGlade_20 X hL Hr)
  · refine r_aload_n X dX6_isGlade_10 rfl 0 rfl ?_
    refine r_getR X fl_X6_33 (by decide) h_l0 dX6_isGlade_11 (fun v3 h_v3 => ?_)
    refine r_iload_n X dX6_isGlade_14 rfl 1 rfl ?_
    refine r_iald X h_v3 dX6_isGlade_15 (fun v4 => ?_)
    refine r_iconst (v := 4) X dX6_isGlade_16 (by decide) ?_
    refine r_icmp_ne 24 X dX6_isGlade_17 (by decide) ?_ ?_
    · exact r_to [] [] rfl (sX6_isGlade_20 X hL Hr)
    · refine r_iconst (v := 0) X dX6_isGlade_24 (by decide) ?_
      exact r_iret Hr rfl dX6_isGlade_25
set_option maxRecDepth 100000 in
set_option maxHeartbeats 4000000 in
theorem okX6_isGlade (l : Launch) (g : GX) (hJ : IJ g) {l0 : Nat} {l1 : Int32} {M : Mm} (h_l0 : sh l0 = 16) : CT l g yX6_isGlade cX6_isGlade 2 (some .boolean) 0 [rf g l0, .int l1] M (fX6_isGlade l0 l1 M) (fun r => some (.int r)) := by
  refine ct_I rfl hJ (Nat.le_of_ble_eq_true rfl) (fun x r hg hL hl X hf Hr => ?_)
  subst hg
  exact fun _ ls H locs hl hP hS => sX6_isGlade_0 X hL Hr h_l0 ⟨_, hf, rfl⟩ ls H locs hl hP hS
/-! CrumbWoodModel.isThicket(I)Z -/
set_option maxRecDepth 100000 in
noncomputable def bX6_isThicket_20  (M : Mm) : Option (Int32 × Mm) := some ((1, M))
set_option maxRecDepth 100000 in
set_option maxHeartbeats 4000000 in
theorem sX6_isThicket_20 {x : SB} {F : (Int32 × Mm) → Prop} (X : CX x cX6_isThicket RX6 0) (hL : x.2.2.2.1 = 2) (Hr : RTI x cX6_isThicket .boolean F (fun q => q))  {M : Mm}  : SIM x F (bX6_isThicket_20  M) 20 [] [] M := by
  unfold bX6_isThicket_20
  refine r_iconst (v := 1) X dX6_isThicket_20 (by decide) ?_
  refine r_goto 25 X dX6_isThicket_21 (by decide) ?_
  exact r_iret Hr rfl dX6_isThicket_25
set_option maxRecDepth 100000 in
noncomputable def fX6_isThicket (l0 : Nat) (l1 : Int32) (M : Mm) : Option (Int32 × Mm) := gfR M 0 l0 12 fun v1 => ldI M v1 l1 fun v2 => if v2 = 2 then bX6_isThicket_20 M else gfR M 0 l0 12 fun v3 => ldI M v3 l1 fun v4 => if v4 = 5 then bX6_isThicket_20 M else some ((0, M))
set_option maxRecDepth 100000 in
set_option maxHeartbeats 4000000 in
theorem sX6_isThicket_0 {x : SB} {F : (Int32 × Mm) → Prop} (X : CX x cX6_isThicket RX6 0) (hL : x.2.2.2.1 = 2) (Hr : RTI x cX6_isThicket .boolean F (fun q => q)) {l0 : Nat} {l1 : Int32} {M : Mm} (h_l0 : sh l0 = 16) : SIM x F (fX6_isThicket l0 l1 M) 0 [(0, rf x.2.1 l0), (1, .int l1)] [] M := by
  unfold fX6_isThicket
  refine r_aload_n X dX6_isThicket_0 rfl 0 rfl ?_
  refine r_getR X fl_X6_33 (by decide) h_l0 dX6_isThicket_1 (fun v1 h_v1 => ?_)
  refine r_iload_n X dX6_isThicket_4 rfl 1 rfl ?_
  refine r_iald X h_v1 dX6_isThicket_5 (fun v2 => ?_)
  refine r_iconst (v := 2) X dX6_isThicket_6 (by decide) ?_
  refine r_icmp_eq 20 X dX6_isThicket_7 (by decide) ?_ ?_
  · exact r_to [] [] rfl (sX6_isThicket_20 X hL Hr)
  · refine r_aload_n X dX6_isThicket_10 rfl 0 rfl ?_
    refine r_getR X fl_X6_33 (by decide) h_l0 dX6_isThicket_11 (fun v3 h_v3 => ?_)
    refine r_iload_n X dX6_isThicket_14 rfl 1 rfl ?_
    refine r_iald X h_v3 dX6_isThicket_15 (fun v4 => ?_)
    refine r_iconst (v := 5) X dX6_isThicket_16 (by decide) ?_
    refine r_icmp_ne 24 X dX6_isThicket_17 (by decide) ?_ ?_
    · exact r_to [] [] rfl (sX6_isThicket_20 X hL Hr)
    · refine r_iconst (v := 0) X dX6_isThicket_24 (by decide) ?_
      exact r_iret Hr rfl dX6_isThicket_25
set_option maxRecDepth 100000 in
set_option maxHeartbeats 4000000 in
theorem okX6_isThicket (l : Launch) (g : GX) (hJ : IJ g) {l0 : Nat} {l1 : Int32} {M : Mm} (h_l0 : sh l0 = 16) : CT l g yX6_isThicket cX6_isThicket 2 (some .boolean) 0 [rf g l0, .int l1] M (fX6_isThicket l0 l1 M) (fun r => some (.int r)) := by
  refine ct_I rfl hJ (Nat.le_of_ble_eq_true rfl) (fun x r hg hL hl X hf Hr => ?_)
  subst hg
  exact fun _ ls H locs hl hP hS => sX6_isThicket_0 X hL Hr h_l0 ⟨_, hf, rfl⟩ ls H locs hl hP hS
/-! CrumbWoodModel.eatSet(I)I -/
set_option maxRecDepth 100000 in
def pX6_eatSet (x : SB) (q : Nat × Nat × Int32 × Int32 × Int32 × Mm) : Prop := match q.1 with
  | 1 => sh q.2.1 = 16 → ∀ (ls : Array Slot) (H : Heap) (locs : List Loc), lv_has ls x.2.2.2.1 [(0, rf x.2.1 q.2.1), (1, .int q.2.2.1), (2, .int q.2.2.2.1), (3, .int q.2.2.2.2.1)] → PW x.2.1 (q.2.2.2.2.2) H → SH x H locs → SW x H locs 6 ls []
  | _ => True
set_option maxRecDepth 100000 in
noncomputable def bX6_eatSet_59 (l2 : Int32) (M : Mm) : Option ((Nat × Nat × Int32 × Int32 × Int32 × Mm) ⊕ Int32 × Mm) := some (.inr (l2, M))
set_option maxRecDepth 100000 in
set_option maxHeartbeats 4000000 in
theorem sX6_eatSet_59 {x : SB} {F : ((Nat × Nat × Int32 × Int32 × Int32 × Mm) ⊕ Int32 × Mm) → Prop} (X : CX x cX6_eatSet RX6 1) (hL : x.2.2.2.1 = 4) (Hr : RTI x cX6_eatSet .int F Sum.inr) (HH : ∀ q, F (.inl q) → pX6_eatSet x q) {l2 : Int32} {M : Mm}  : SIM x F (bX6_eatSet_59 l2 M) 59 [(2, .int l2)] [] M := by
  unfold bX6_eatSet_59
  refine r_iload_n X dX6_eatSet_59 rfl 0 rfl ?_
  exact r_iret Hr rfl dX6_eatSet_60
set_option maxRecDepth 100000 in
noncomputable def bX6_eatSet_51 (l0 : Nat) (l1 : Int32) (l3 : Int32) (s0 : Int32) (s1 : Int32) (M : Mm) : Option ((Nat × Nat × Int32 × Int32 × Int32 × Mm) ⊕ Int32 × Mm) := ltI (s1 ||| s0) fun v1 => some (.inl (1, l0, l1, v1, (l3 + 1), M))
set_option maxRecDepth 100000 in
set_option maxHeartbeats 4000000 in
theorem sX6_eatSet_51 {x : SB} {F : ((Nat × Nat × Int32 × Int32 × Int32 × Mm) ⊕ Int32 × Mm) → Prop} (X : CX x cX6_eatSet RX6 1) (hL : x.2.2.2.1 = 4) (Hr : RTI x cX6_eatSet .int F Sum.inr) (HH : ∀ q, F (.inl q) → pX6_eatSet x q) {l0 : Nat} {l1 : Int32} {l3 : Int32} {s0 : Int32} {s1 : Int32} {M : Mm} (h_l0 : sh l0 = 16) : SIM x F (bX6_eatSet_51 l0 l1 l3 s0 s1 M) 51 [(0, rf x.2.1 l0), (1, .int l1), (3, .int l3)] [.int s0, .int s1] M := by
  unfold bX6_eatSet_51
  refine r_ior X dX6_eatSet_51 ?_
  refine r_letI (fun v1 => ?_)
  refine r_istore_n [(2, .int v1), (0, rf x.2.1 l0), (1, .int l1), (3, .int l3)] X dX6_eatSet_52 rfl (nlt hL (by decide)) rfl ?_
  refine r_iinc [(3, .int (l3 + 1)), (2, .int v1), (0, rf x.2.1 l0), (1, .int l1)] X dX6_eatSet_53 3 rfl rfl (nlt hL (by decide)) rfl ?_
  refine r_goto 6 X dX6_eatSet_56 (by decide) ?_
  exact r_hdr [(0, rf x.2.1 l0), (1, .int l1), (2, .int v1), (3, .int (l3 + 1))] [2, 3, 1, 0] rfl (fun h => HH _ h h_l0)
set_option maxRecDepth 100000 in
noncomputable def bX6_eatSet_50 (l0 : Nat) (l1 : Int32) (l3 : Int32) (s0 : Int32) (M : Mm) : Option ((Nat × Nat × Int32 × Int32 × Int32 × Mm) ⊕ Int32 × Mm) := bX6_eatSet_51 l0 l1 l3 0 s0 M
set_option maxRecDepth 100000 in
set_option maxHeartbeats 4000000 in
theorem sX6_eatSet_50 {x : SB} {F : ((Nat × Nat × Int32 × Int32 × Int32 × Mm) ⊕ Int32 × Mm) → Prop} (X : CX x cX6_eatSet RX6 1) (hL : x.2.2.2.1 = 4) (Hr : RTI x cX6_eatSet .int F Sum.inr) (HH : ∀ q, F (.inl q) → pX6_eatSet x q) {l0 : Nat} {l1 : Int32} {l3 : Int32} {s0 : Int32} {M : Mm} (h_l0 : sh l0 = 16) : SIM x F (bX6_eatSet_50 l0 l1 l3 s0 M) 50 [(0, rf x.2.1 l0), (1, .int l1), (3, .int l3)] [.int s0] M := by
  unfold bX6_eatSet_50
  refine r_iconst (v := 0) X dX6_eatSet_50 (by decide) ?_
  exact r_to [(0, rf x.2.1 l0), (1, .int l1), (3, .int l3)] [0, 1, 2] rfl (sX6_eatSet_51 X hL Hr HH h_l0)
set_option maxRecDepth 100000 in
noncomputable def bX6_eatSet_6 (l0 : Nat) (l1 : Int32) (l2 : Int32) (l3 : Int32) (M : Mm) : Option ((Nat × Nat × Int32 × Int32 × Int32 × Mm) ⊕ Int32 × Mm) := gfI M l0 10 fun v2 => if v2 ≤ l3 then bX6_eatSet_59 l2 M else cal (fX6_isGlade l0 l1 M) fun v4 M3 => if v4 = 0 then bX6_eatSet_59 l2 M3 else gfR M3 0 l0 13 fun v5 => ldI M3 v5 l1 fun v6 => cal (fX6_has v6 l3 M3) fun v8 M7 => if v8 = 0 then bX6_eatSet_50 l0 l1 l3 l2 M7 else cal (fX6_isThicket l0 l3 M7) fun v10 M9 => if v10 = 0 then bX6_eatSet_51 l0 l1 l3 ((1 : Int32) <<< (l3 &&& 31)) l2 M9 else bX6_eatSet_50 l0 l1 l3 l2 M9
set_option maxRecDepth 100000 in
set_option maxHeartbeats 4000000 in
theorem sX6_eatSet_6 {x : SB} {F : ((Nat × Nat × Int32 × Int32 × Int32 × Mm) ⊕ Int32 × Mm) → Prop} (X : CX x cX6_eatSet RX6 1) (hL : x.2.2.2.1 = 4) (Hr : RTI x cX6_eatSet .int F Sum.inr) (HH : ∀ q, F (.inl q) → pX6_eatSet x q) {l0 : Nat} {l1 : Int32} {l2 : Int32} {l3 : Int32} {M : Mm} (h_l0 : sh l0 = 16) : SIM x F (bX6_eatSet_6 l0 l1 l2 l3 M) 6 [(0, rf x.2.1 l0), (1, .int l1), (2, .int l2), (3, .int l3)] [] M := by
  unfold bX6_eatSet_6
  refine r_iload_n X dX6_eatSet_6 rfl 3 rfl ?_
  refine r_aload_n X dX6_eatSet_7 rfl 0 rfl ?_
  refine r_getI X fl_X6_167 (by decide) h_l0 dX6_eatSet_8 (fun v2 => ?_)
  refine r_icmp_ge 59 X dX6_eatSet_11 (by decide) ?_ ?_
  · exact r_to [(2, .int l2)] [2] rfl (sX6_eatSet_59 X hL Hr HH)
  · refine r_aload_n X dX6_eatSet_14 rfl 0 rfl ?_
    refine r_iload_n X dX6_eatSet_15 rfl 1 rfl ?_
    refine r_callVI [.int l1] X mt_X6_190 (by decide) h_l0 (by decide) (okX6_isGlade _ _ X.J h_l0) rfl (Nat.le_of_ble_eq_true rfl) dX6_eatSet_16 rfl (fun v4 M3 => ?_)
    refine r_if_eq 59 X dX6_eatSet_19 (by decide) ?_ ?_
    · exact r_to [(2, .int l2)] [2] rfl (sX6_eatSet_59 X hL Hr HH)
    · refine r_iload_n X dX6_eatSet_22 rfl 2 rfl ?_
      refine r_aload_n X dX6_eatSet_23 rfl 0 rfl ?_
      refine r_getR X fl_X6_36 (by decide) h_l0 dX6_eatSet_24 (fun v5 h_v5 => ?_)
      refine r_iload_n X dX6_eatSet_27 rfl 1 rfl ?_
      refine r_iald X h_v5 dX6_eatSet_28 (fun v6 => ?_)
      refine r_iload_n X dX6_eatSet_29 rfl 3 rfl ?_
      refine r_callSI [.int v6, .int l3] X mt_X6_145 (by decide) (okX6_has _ _ X.J) rfl (Nat.le_of_ble_eq_true rfl) dX6_eatSet_30 rfl (fun v8 M7 => ?_)
      refine r_if_eq 50 X dX6_eatSet_33 (by decide) ?_ ?_
      · exact r_to [(0, rf x.2.1 l0), (1, .int l1), (3, .int l3)] [0, 1, 3] rfl (sX6_eatSet_50 X hL Hr HH h_l0)
      · refine r_aload_n X dX6_eatSet_36 rfl 0 rfl ?_
        refine r_iload_n X dX6_eatSet_37 rfl 3 rfl ?_
        refine r_callVI [.int l3] X mt_X6_193 (by decide) h_l0 (by decide) (okX6_isThicket _ _ X.J h_l0) rfl (Nat.le_of_ble_eq_true rfl) dX6_eatSet_38 rfl (fun v10 M9 => ?_)
        refine r_if_ne 50 X dX6_eatSet_41 (by decide) ?_ ?_
        · refine r_iconst (v := 1) X dX6_eatSet_44 (by decide) ?_
          refine r_iload_n X dX6_eatSet_45 rfl 3 rfl ?_
          refine r_ishl X dX6_eatSet_46 ?_
          refine r_goto 51 X dX6_eatSet_47 (by decide) ?_
          exact r_to [(0, rf x.2.1 l0), (1, .int l1), (3, .int l3)] [0, 1, 3] rfl (sX6_eatSet_51 X hL Hr HH h_l0)
        · exact r_to [(0, rf x.2.1 l0), (1, .int l1), (3, .int l3)] [0, 1, 3] rfl (sX6_eatSet_50 X hL Hr HH h_l0)
set_option maxRecDepth 100000 in
noncomputable def bX6_eatSet_0 (l0 : Nat) (l1 : Int32) (M : Mm) : Option ((Nat × Nat × Int32 × Int32 × Int32 × Mm) ⊕ Int32 × Mm) := ltI ((1 : Int32) <<< (l1 &&& 31)) fun v11 => some (.inl (1, l0, l1, v11, 0, M))
set_option maxRecDepth 100000 in
set_option maxHeartbeats 4000000 in
theorem sX6_eatSet_0 {x : SB} {F : ((Nat × Nat × Int32 × Int32 × Int32 × Mm) ⊕ Int32 × Mm) → Prop} (X : CX x cX6_eatSet RX6 1) (hL : x.2.2.2.1 = 4) (Hr : RTI x cX6_eatSet .int F Sum.inr) (HH : ∀ q, F (.inl q) → pX6_eatSet x q) {l0 : Nat} {l1 : Int32} {M : Mm} (h_l0 : sh l0 = 16) : SIM x F (bX6_eatSet_0 l0 l1 M) 0 [(0, rf x.2.1 l0), (1, .int l1)] [] M := by
  unfold bX6_eatSet_0
  refine r_iconst (v := 1) X dX6_eatSet_0 (by decide) ?_
  refine r_iload_n X dX6_eatSet_1 rfl 1 rfl ?_
  refine r_ishl X dX6_eatSet_2 ?_
  refine r_letI (fun v11 => ?_)
  refine r_istore_n [(2, .int v11), (0, rf x.2.1 l0), (1, .int l1)] X dX6_eatSet_3 rfl (nlt hL (by decide)) rfl ?_
  refine r_iconst (v := 0) X dX6_eatSet_4 (by decide) ?_
  refine r_istore_n [(3, .int 0), (2, .int v11), (0, rf x.2.1 l0), (1, .int l1)] X dX6_eatSet_5 rfl (nlt hL (by decide)) rfl ?_
  exact r_hdr [(0, rf x.2.1 l0), (1, .int l1), (2, .int v11), (3, .int 0)] [2, 3, 1, 0] rfl (fun h => HH _ h h_l0)
set_option maxRecDepth 100000 in
noncomputable def gX6_eatSet (q : Nat × Nat × Int32 × Int32 × Int32 × Mm) : Option ((Nat × Nat × Int32 × Int32 × Int32 × Mm) ⊕ Int32 × Mm) := match q.1 with
  | 1 => bX6_eatSet_6 (q.2.1) (q.2.2.1) (q.2.2.2.1) (q.2.2.2.2.1) (q.2.2.2.2.2)
  | _ => none
set_option maxRecDepth 100000 in
noncomputable def fX6_eatSet (l0 : Nat) (l1 : Int32) (M : Mm) : Option (Int32 × Mm) := fen gX6_eatSet (bX6_eatSet_0 l0 l1 M)
set_option maxRecDepth 100000 in
set_option maxHeartbeats 4000000 in
theorem okX6_eatSet (l : Launch) (g : GX) (hJ : IJ g) {l0 : Nat} {l1 : Int32} {M : Mm} (h_l0 : sh l0 = 16) : CT l g yX6_eatSet cX6_eatSet 4 (some .int) 1 [rf g l0, .int l1] M (fX6_eatSet l0 l1 M) (fun r => some (.int r)) := by
  refine ct_I rfl hJ (Nat.le_of_ble_eq_true rfl) (fun x r hg hL hl X hf Hr => ?_)
  subst hg
  have Hr2 : RTI x cX6_eatSet .int (Sum.elim (pX6_eatSet x) (fun q => q = r)) Sum.inr := fun v M h => Hr v M h
  have HP : ∀ q, fnl gX6_eatSet q = some r → pX6_eatSet x q := by
    intro q hq
    refine fnl_ind (pX6_eatSet x) (fun q hq => ?_) hq
    obtain ⟨n, l0, l1, l2, l3, M⟩ := q
    match n, hq with
    | 1, hq => exact fun h_l0 ls H locs hl hP hS => sX6_eatSet_6 X hL Hr2 (fun _ h => h) h_l0 hq ls H locs hl hP hS
    | 0, hq => exact trivial
    | n + 2, hq => exact trivial
  exact fun _ ls H locs hl hP hS => sX6_eatSet_0 X hL Hr2 (fun _ h => h) h_l0 (fen_w hf HP) ls H locs hl hP hS
/-! CrumbWoodModel.nextOf(I)I -/
set_option maxRecDepth 100000 in
def pX6_nextOf (x : SB) (q : Nat × Nat × Int32 × Int32 × Int32 × Mm) : Prop := match q.1 with
  | 1 => sh q.2.1 = 16 → ∀ (ls : Array Slot) (H : Heap) (locs : List Loc), lv_has ls x.2.2.2.1 [(0, rf x.2.1 q.2.1), (1, .int q.2.2.1), (2, .int q.2.2.2.1), (3, .int q.2.2.2.2.1)] → PW x.2.1 (q.2.2.2.2.2) H → SH x H locs → SW x H locs 10 ls []
  | 2 => sh q.2.1 = 16 → ∀ (ls : Array Slot) (H : Heap) (locs : List Loc), lv_has ls x.2.2.2.1 [(0, rf x.2.1 q.2.1), (1, .int q.2.2.1), (2, .int q.2.2.2.1), (3, .int q.2.2.2.2.1)] → PW x.2.1 (q.2.2.2.2.2) H → SH x H locs → SW x H locs 51 ls []
  | _ => True
set_option maxRecDepth 100000 in
noncomputable def bX6_nextOf_91 (l1 : Int32) (l2 : Int32) (M : Mm) : Option ((Nat × Nat × Int32 × Int32 × Int32 × Mm) ⊕ Int32 × Mm) := if l2 = (-9) then some (.inr (l1, M)) else some (.inr (l2, M))
set_option maxRecDepth 100000 in
set_option maxHeartbeats 4000000 in
theorem sX6_nextOf_91 {x : SB} {F : ((Nat × Nat × Int32 × Int32 × Int32 × Mm) ⊕ Int32 × Mm) → Prop} (X : CX x cX6_nextOf RX6 1) (hL : x.2.2.2.1 = 4) (Hr : RTI x cX6_nextOf .int F Sum.inr) (HH : ∀ q, F (.inl q) → pX6_nextOf x q) {l1 : Int32} {l2 : Int32} {M : Mm}  : SIM x F (bX6_nextOf_91 l1 l2 M) 91 [(1, .int l1), (2, .int l2)] [] M := by
  unfold bX6_nextOf_91
  refine r_iload_n X dX6_nextOf_91 rfl 1 rfl ?_
  refine r_bipush (v := (-9)) X dX6_nextOf_92 (by decide) ?_
  refine r_icmp_ne 101 X dX6_nextOf_94 (by decide) ?_ ?_
  · refine r_iload_n X dX6_nextOf_97 rfl 0 rfl ?_
    refine r_goto 102 X dX6_nextOf_98 (by decide) ?_
    exact r_iret Hr rfl dX6_nextOf_102
  · refine r_iload_n X dX6_nextOf_101 rfl 1 rfl ?_
    exact r_iret Hr rfl dX6_nextOf_102
set_option maxRecDepth 100000 in
noncomputable def bX6_nextOf_84 (l0 : Nat) (l1 : Int32) (l3 : Int32) (s0 : Int32) (M : Mm) : Option ((Nat × Nat × Int32 × Int32 × Int32 × Mm) ⊕ Int32 × Mm) := some (.inl (2, l0, l1, s0, (l3 + (-1)), M))
set_option maxRecDepth 100000 in
set_option maxHeartbeats 4000000 in
theorem sX6_nextOf_84 {x : SB} {F : ((Nat × Nat × Int32 × Int32 × Int32 × Mm) ⊕ Int32 × Mm) → Prop} (X : CX x cX6_nextOf RX6 1) (hL : x.2.2.2.1 = 4) (Hr : RTI x cX6_nextOf .int F Sum.inr) (HH : ∀ q, F (.inl q) → pX6_nextOf x q) {l0 : Nat} {l1 : Int32} {l3 : Int32} {s0 : Int32} {M : Mm} (h_l0 : sh l0 = 16) : SIM x F (bX6_nextOf_84 l0 l1 l3 s0 M) 84 [(0, rf x.2.1 l0), (1, .int l1), (3, .int l3)] [.int s0] M := by
  unfold bX6_nextOf_84
  refine r_istore_n [(2, .int s0), (0, rf x.2.1 l0), (1, .int l1), (3, .int l3)] X dX6_nextOf_84 rfl (nlt hL (by decide)) rfl ?_
  refine r_iinc [(3, .int (l3 + (-1))), (2, .int s0), (0, rf x.2.1 l0), (1, .int l1)] X dX6_nextOf_85 3 rfl rfl (nlt hL (by decide)) rfl ?_
  refine r_goto 51 X dX6_nextOf_88 (by decide) ?_
  exact r_hdr [(0, rf x.2.1 l0), (1, .int l1), (2, .int s0), (3, .int (l3 + (-1)))] [2, 3, 1, 0] rfl (fun h => HH _ h h_l0)
set_option maxRecDepth 100000 in
noncomputable def bX6_nextOf_66 (l0 : Nat) (l1 : Int32) (l2 : Int32) (l3 : Int32) (M : Mm) : Option ((Nat × Nat × Int32 × Int32 × Int32 × Mm) ⊕ Int32 × Mm) := gfR M 0 l0 13 fun v1 => ldI M v1 l1 fun v2 => cal (fX6_has v2 l3 M) fun v4 M3 => if v4 = 0 then bX6_nextOf_84 l0 l1 l3 l2 M3 else bX6_nextOf_84 l0 l1 l3 l3 M3
set_option maxRecDepth 100000 in
set_option maxHeartbeats 4000000 in
theorem sX6_nextOf_66 {x : SB} {F : ((Nat × Nat × Int32 × Int32 × Int32 × Mm) ⊕ Int32 × Mm) → Prop} (X : CX x cX6_nextOf RX6 1) (hL : x.2.2.2.1 = 4) (Hr : RTI x cX6_nextOf .int F Sum.inr) (HH : ∀ q, F (.inl q) → pX6_nextOf x q) {l0 : Nat} {l1 : Int32} {l2 : Int32} {l3 : Int32} {M : Mm} (h_l0 : sh l0 = 16) : SIM x F (bX6_nextOf_66 l0 l1 l2 l3 M) 66 [(0, rf x.2.1 l0), (1, .int l1), (2, .int l2), (3, .int l3)] [] M := by
  unfold bX6_nextOf_66
  refine r_aload_n X dX6_nextOf_66 rfl 0 rfl ?_
  refine r_getR X fl_X6_36 (by decide) h_l0 dX6_nextOf_67 (fun v1 h_v1 => ?_)
  refine r_iload_n X dX6_nextOf_70 rfl 1 rfl ?_
  refine r_iald X h_v1 dX6_nextOf_71 (fun v2 => ?_)
  refine r_iload_n X dX6_nextOf_72 rfl 3 rfl ?_
  refine r_callSI [.int v2, .int l3] X mt_X6_145 (by decide) (okX6_has _ _ X.J) rfl (Nat.le_of_ble_eq_true rfl) dX6_nextOf_73 rfl (fun v4 M3 => ?_)
  refine r_if_eq 83 X dX6_nextOf_76 (by decide) ?_ ?_
  · refine r_iload_n X dX6_nextOf_83 rfl 2 rfl ?_
    exact r_to [(0, rf x.2.1 l0), (1, .int l1), (3, .int l3)] [0, 1, 3] rfl (sX6_nextOf_84 X hL Hr HH h_l0)
  · refine r_iload_n X dX6_nextOf_79 rfl 3 rfl ?_
    refine r_goto 84 X dX6_nextOf_80 (by decide) ?_
    exact r_to [(0, rf x.2.1 l0), (1, .int l1), (3, .int l3)] [0, 1, 3] rfl (sX6_nextOf_84 X hL Hr HH h_l0)
set_option maxRecDepth 100000 in
noncomputable def bX6_nextOf_51 (l0 : Nat) (l1 : Int32) (l2 : Int32) (l3 : Int32) (M : Mm) : Option ((Nat × Nat × Int32 × Int32 × Int32 × Mm) ⊕ Int32 × Mm) := if l3 < 0 then bX6_nextOf_91 l1 l2 M else if l2 = (-9) then bX6_nextOf_66 l0 l1 l2 l3 M else if l1 ≤ l2 then bX6_nextOf_91 l1 l2 M else bX6_nextOf_66 l0 l1 l2 l3 M
set_option maxRecDepth 100000 in
set_option maxHeartbeats 4000000 in
theorem sX6_nextOf_51 {x : SB} {F : ((Nat × Nat × Int32 × Int32 × Int32 × Mm) ⊕ Int32 × Mm) → Prop} (X : CX x cX6_nextOf RX6 1) (hL : x.2.2.2.1 = 4) (Hr : RTI x cX6_nextOf .int F Sum.inr) (HH : ∀ q, F (.inl q) → pX6_nextOf x q) {l0 : Nat} {l1 : Int32} {l2 : Int32} {l3 : Int32} {M : Mm} (h_l0 : sh l0 = 16) : SIM x F (bX6_nextOf_51 l0 l1 l2 l3 M) 51 [(0, rf x.2.1 l0), (1, .int l1), (2, .int l2), (3, .int l3)] [] M := by
  unfold bX6_nextOf_51
  refine r_iload_n X dX6_nextOf_51 rfl 3 rfl ?_
  refine r_if_lt 91 X dX6_nextOf_52 (by decide) ?_ ?_
  · exact r_to [(1, .int l1), (2, .int l2)] [1, 2] rfl (sX6_nextOf_91 X hL Hr HH)
  · refine r_iload_n X dX6_nextOf_55 rfl 2 rfl ?_
    refine r_bipush (v := (-9)) X dX6_nextOf_56 (by decide) ?_
    refine r_icmp_eq 66 X dX6_nextOf_58 (by decide) ?_ ?_
    · exact r_to [(0, rf x.2.1 l0), (1, .int l1), (2, .int l2), (3, .int l3)] [0, 1, 2, 3] rfl (sX6_nextOf_66 X hL Hr HH h_l0)
    · refine r_iload_n X dX6_nextOf_61 rfl 2 rfl ?_
      refine r_iload_n X dX6_nextOf_62 rfl 1 rfl ?_
      refine r_icmp_ge 91 X dX6_nextOf_63 (by decide) ?_ ?_
      · exact r_to [(1, .int l1), (2, .int l2)] [1, 2] rfl (sX6_nextOf_91 X hL Hr HH)
      · exact r_to [(0, rf x.2.1 l0), (1, .int l1), (2, .int l2), (3, .int l3)] [0, 1, 2, 3] rfl (sX6_nextOf_66 X hL Hr HH h_l0)
set_option maxRecDepth 100000 in
noncomputable def bX6_nextOf_37 (l0 : Nat) (l1 : Int32) (l3 : Int32) (s0 : Int32) (M : Mm) : Option ((Nat × Nat × Int32 × Int32 × Int32 × Mm) ⊕ Int32 × Mm) := some (.inl (1, l0, l1, s0, (l3 + (-1)), M))
set_option maxRecDepth 100000 in
set_option maxHeartbeats 4000000 in
theorem sX6_nextOf_37 {x : SB} {F : ((Nat × Nat × Int32 × Int32 × Int32 × Mm) ⊕ Int32 × Mm) → Prop} (X : CX x cX6_nextOf RX6 1) (hL : x.2.2.2.1 = 4) (Hr : RTI x cX6_nextOf .int F Sum.inr) (HH : ∀ q, F (.inl q) → pX6_nextOf x q) {l0 : Nat} {l1 : Int32} {l3 : Int32} {s0 : Int32} {M : Mm} (h_l0 : sh l0 = 16) : SIM x F (bX6_nextOf_37 l0 l1 l3 s0 M) 37 [(0, rf x.2.1 l0), (1, .int l1), (3, .int l3)] [.int s0] M := by
  unfold bX6_nextOf_37
  refine r_istore_n [(2, .int s0), (0, rf x.2.1 l0), (1, .int l1), (3, .int l3)] X dX6_nextOf_37 rfl (nlt hL (by decide)) rfl ?_
  refine r_iinc [(3, .int (l3 + (-1))), (2, .int s0), (0, rf x.2.1 l0), (1, .int l1)] X dX6_nextOf_38 3 rfl rfl (nlt hL (by decide)) rfl ?_
  refine r_goto 10 X dX6_nextOf_41 (by decide) ?_
  exact r_hdr [(0, rf x.2.1 l0), (1, .int l1), (2, .int s0), (3, .int (l3 + (-1)))] [2, 3, 1, 0] rfl (fun h => HH _ h h_l0)
set_option maxRecDepth 100000 in
noncomputable def bX6_nextOf_36 (l0 : Nat) (l1 : Int32) (l2 : Int32) (l3 : Int32) (M : Mm) : Option ((Nat × Nat × Int32 × Int32 × Int32 × Mm) ⊕ Int32 × Mm) := bX6_nextOf_37 l0 l1 l3 l2 M
set_option maxRecDepth 100000 in
set_option maxHeartbeats 4000000 in
theorem sX6_nextOf_36 {x : SB} {F : ((Nat × Nat × Int32 × Int32 × Int32 × Mm) ⊕ Int32 × Mm) → Prop} (X : CX x cX6_nextOf RX6 1) (hL : x.2.2.2.1 = 4) (Hr : RTI x cX6_nextOf .int F Sum.inr) (HH : ∀ q, F (.inl q) → pX6_nextOf x q) {l0 : Nat} {l1 : Int32} {l2 : Int32} {l3 : Int32} {M : Mm} (h_l0 : sh l0 = 16) : SIM x F (bX6_nextOf_36 l0 l1 l2 l3 M) 36 [(0, rf x.2.1 l0), (1, .int l1), (2, .int l2), (3, .int l3)] [] M := by
  unfold bX6_nextOf_36
  refine r_iload_n X dX6_nextOf_36 rfl 2 rfl ?_
  exact r_to [(0, rf x.2.1 l0), (1, .int l1), (3, .int l3)] [0, 1, 3] rfl (sX6_nextOf_37 X hL Hr HH h_l0)
set_option maxRecDepth 100000 in
noncomputable def bX6_nextOf_10 (l0 : Nat) (l1 : Int32) (l2 : Int32) (l3 : Int32) (M : Mm) : Option ((Nat × Nat × Int32 × Int32 × Int32 × Mm) ⊕ Int32 × Mm) := if l3 < 0 then gfI M l0 10 fun v5 => ltI (v5 - 1) fun v6 => some (.inl (2, l0, l1, l2, v6, M)) else gfR M 0 l0 13 fun v7 => ldI M v7 l1 fun v8 => cal (fX6_has v8 l3 M) fun v10 M9 => if v10 = 0 then bX6_nextOf_36 l0 l1 l2 l3 M9 else if l3 ≤ l1 then bX6_nextOf_36 l0 l1 l2 l3 M9 else bX6_nextOf_37 l0 l1 l3 l3 M9
set_option maxRecDepth 100000 in
set_option maxHeartbeats 4000000 in
theorem sX6_nextOf_10 {x : SB} {F : ((Nat × Nat × Int32 × Int32 × Int32 × Mm) ⊕ Int32 × Mm) → Prop} (X : CX x cX6_nextOf RX6 1) (hL : x.2.2.2.1 = 4) (Hr : RTI x cX6_nextOf .int F Sum.inr) (HH : ∀ q, F (.inl q) → pX6_nextOf x q) {l0 : Nat} {l1 : Int32} {l2 : Int32} {l3 : Int32} {M : Mm} (h_l0 : sh l0 = 16) : SIM x F (bX6_nextOf_10 l0 l1 l2 l3 M) 10 [(0, rf x.2.1 l0), (1, .int l1), (2, .int l2), (3, .int l3)] [] M := by
  unfold bX6_nextOf_10
  refine r_iload_n X dX6_nextOf_10 rfl 3 rfl ?_
  refine r_if_lt 44 X dX6_nextOf_11 (by decide) ?_ ?_
  · refine r_aload_n X dX6_nextOf_44 rfl 0 rfl ?_
    refine r_getI X fl_X6_167 (by decide) h_l0 dX6_nextOf_45 (fun v5 => ?_)
    refine r_iconst (v := 1) X dX6_nextOf_48 (by decide) ?_
    refine r_isub X dX6_nextOf_49 ?_
    refine r_letI (fun v6 => ?_)
    refine r_istore_n [(3, .int v6), (0, rf x.2.1 l0), (1, .int l1), (2, .int l2)] X dX6_nextOf_50 rfl (nlt hL (by decide)) rfl ?_
    exact r_hdr [(0, rf x.2.1 l0), (1, .int l1), (2, .int l2), (3, .int v6)] [1, 2, 3, 0] rfl (fun h => HH _ h h_l0)
  · refine r_aload_n X dX6_nextOf_14 rfl 0 rfl ?_
    refine r_getR X fl_X6_36 (by decide) h_l0 dX6_nextOf_15 (fun v7 h_v7 => ?_)
    refine r_iload_n X dX6_nextOf_18 rfl 1 rfl ?_
    refine r_iald X h_v7 dX6_nextOf_19 (fun v8 => ?_)
    refine r_iload_n X dX6_nextOf_20 rfl 3 rfl ?_
    refine r_callSI [.int v8, .int l3] X mt_X6_145 (by decide) (okX6_has _ _ X.J) rfl (Nat.le_of_ble_eq_true rfl) dX6_nextOf_21 rfl (fun v10 M9 => ?_)
    refine r_if_eq 36 X dX6_nextOf_24 (by decide) ?_ ?_
    · exact r_to [(0, rf x.2.1 l0), (1, .int l1), (2, .int l2), (3, .int l3)] [0, 1, 2, 3] rfl (sX6_nextOf_36 X hL Hr HH h_l0)
    · refine r_iload_n X dX6_nextOf_27 rfl 3 rfl ?_
      refine r_iload_n X dX6_nextOf_28 rfl 1 rfl ?_
      refine r_icmp_le 36 X dX6_nextOf_29 (by decide) ?_ ?_
      · exact r_to [(0, rf x.2.1 l0), (1, .int l1), (2, .int l2), (3, .int l3)] [0, 1, 2, 3] rfl (sX6_nextOf_36 X hL Hr HH h_l0)
      · refine r_iload_n X dX6_nextOf_32 rfl 3 rfl ?_
        refine r_goto 37 X dX6_nextOf_33 (by decide) ?_
        exact r_to [(0, rf x.2.1 l0), (1, .int l1), (3, .int l3)] [0, 1, 3] rfl (sX6_nextOf_37 X hL Hr HH h_l0)
set_option maxRecDepth 100000 in
noncomputable def bX6_nextOf_0 (l0 : Nat) (l1 : Int32) (M : Mm) : Option ((Nat × Nat × Int32 × Int32 × Int32 × Mm) ⊕ Int32 × Mm) := gfI M l0 10 fun v11 => ltI (v11 - 1) fun v12 => some (.inl (1, l0, l1, (-9), v12, M))
set_option maxRecDepth 100000 in
set_option maxHeartbeats 4000000 in
theorem sX6_nextOf_0 {x : SB} {F : ((Nat × Nat × Int32 × Int32 × Int32 × Mm) ⊕ Int32 × Mm) → Prop} (X : CX x cX6_nextOf RX6 1) (hL : x.2.2.2.1 = 4) (Hr : RTI x cX6_nextOf .int F Sum.inr) (HH : ∀ q, F (.inl q) → pX6_nextOf x q) {l0 : Nat} {l1 : Int32} {M : Mm} (h_l0 : sh l0 = 16) : SIM x F (bX6_nextOf_0 l0 l1 M) 0 [(0, rf x.2.1 l0), (1, .int l1)] [] M := by
  unfold bX6_nextOf_0
  refine r_bipush (v := (-9)) X dX6_nextOf_0 (by decide) ?_
  refine r_istore_n [(2, .int (-9)), (0, rf x.2.1 l0), (1, .int l1)] X dX6_nextOf_2 rfl (nlt hL (by decide)) rfl ?_
  refine r_aload_n X dX6_nextOf_3 rfl 1 rfl ?_
  refine r_getI X fl_X6_167 (by decide) h_l0 dX6_nextOf_4 (fun v11 => ?_)
  refine r_iconst (v := 1) X dX6_nextOf_7 (by decide) ?_
  refine r_isub X dX6_nextOf_8 ?_
  refine r_letI (fun v12 => ?_)
  refine r_istore_n [(3, .int v12), (2, .int (-9)), (0, rf x.2.1 l0), (1, .int l1)] X dX6_nextOf_9 rfl (nlt hL (by decide)) rfl ?_
  exact r_hdr [(0, rf x.2.1 l0), (1, .int l1), (2, .int (-9)), (3, .int v12)] [2, 3, 1, 0] rfl (fun h => HH _ h h_l0)
set_option maxRecDepth 100000 in
noncomputable def gX6_nextOf (q : Nat × Nat × Int32 × Int32 × Int32 × Mm) : Option ((Nat × Nat × Int32 × Int32 × Int32 × Mm) ⊕ Int32 × Mm) := match q.1 with
  | 1 => bX6_nextOf_10 (q.2.1) (q.2.2.1) (q.2.2.2.1) (q.2.2.2.2.1) (q.2.2.2.2.2)
  | 2 => bX6_nextOf_51 (q.2.1) (q.2.2.1) (q.2.2.2.1) (q.2.2.2.2.1) (q.2.2.2.2.2)
  | _ => none
set_option maxRecDepth 100000 in
noncomputable def fX6_nextOf (l0 : Nat) (l1 : Int32) (M : Mm) : Option (Int32 × Mm) := fen gX6_nextOf (bX6_nextOf_0 l0 l1 M)
set_option maxRecDepth 100000 in
set_option maxHeartbeats 4000000 in
theorem okX6_nextOf (l : Launch) (g : GX) (hJ : IJ g) {l0 : Nat} {l1 : Int32} {M : Mm} (h_l0 : sh l0 = 16) : CT l g yX6_nextOf cX6_nextOf 4 (some .int) 1 [rf g l0, .int l1] M (fX6_nextOf l0 l1 M) (fun r => some (.int r)) := by
  refine ct_I rfl hJ (Nat.le_of_ble_eq_true rfl) (fun x r hg hL hl X hf Hr => ?_)
  subst hg
  have Hr2 : RTI x cX6_nextOf .int (Sum.elim (pX6_nextOf x) (fun q => q = r)) Sum.inr := fun v M h => Hr v M h
  have HP : ∀ q, fnl gX6_nextOf q = some r → pX6_nextOf x q := by
    intro q hq
    refine fnl_ind (pX6_nextOf x) (fun q hq => ?_) hq
    obtain ⟨n, l0, l1, l2, l3, M⟩ := q
    match n, hq with
    | 1, hq => exact fun h_l0 ls H locs hl hP hS => sX6_nextOf_10 X hL Hr2 (fun _ h => h) h_l0 hq ls H locs hl hP hS
    | 2, hq => exact fun h_l0 ls H locs hl hP hS => sX6_nextOf_51 X hL Hr2 (fun _ h => h) h_l0 hq ls H locs hl hP hS
    | 0, hq => exact trivial
    | n + 3, hq => exact trivial
  exact fun _ ls H locs hl hP hS => sX6_nextOf_0 X hL Hr2 (fun _ h => h) h_l0 (fen_w hf HP) ls H locs hl hP hS
/-! CrumbWoodModel.hourOf(I)I -/
set_option maxRecDepth 100000 in
def pX6_hourOf (x : SB) (q : Nat × Nat × Int32 × Int32 × Int32 × Int32 × Int32 × Int32 × Mm) : Prop := match q.1 with
  | 1 => sh q.2.1 = 16 → ∀ (ls : Array Slot) (H : Heap) (locs : List Loc), lv_has ls x.2.2.2.1 [(0, rf x.2.1 q.2.1), (1, .int q.2.2.1), (2, .int q.2.2.2.1), (3, .int q.2.2.2.2.1)] → PW x.2.1 (q.2.2.2.2.2.2.2.2) H → SH x H locs → SW x H locs 4 ls []
  | 2 => sh q.2.1 = 16 → ∀ (ls : Array Slot) (H : Heap) (locs : List Loc), lv_has ls x.2.2.2.1 [(0, rf x.2.1 q.2.1), (1, .int q.2.2.1), (2, .int q.2.2.2.1), (3, .int q.2.2.2.2.1), (4, .int q.2.2.2.2.2.1), (5, .int q.2.2.2.2.2.2.1), (6, .int q.2.2.2.2.2.2.2.1)] → PW x.2.1 (q.2.2.2.2.2.2.2.2) H → SH x H locs → SW x H locs 43 ls []
  | _ => True
set_option maxRecDepth 100000 in
noncomputable def bX6_hourOf_79 (l0 : Nat) (l1 : Int32) (l2 : Int32) (l3 : Int32) (l4 : Int32) (l5 : Int32) (l6 : Int32) (s0 : Int32) (s1 : Int32) (s2 : Int32) (s3 : Int32) (s4 : Nat) (M : Mm) : Option ((Nat × Nat × Int32 × Int32 × Int32 × Int32 × Int32 × Int32 × Mm) ⊕ Int32 × Mm) := cal (fX6_setMarks s4 s3 s2 s1 s0 M) fun _ M1 => some (.inl (2, l0, l1, l2, l3, l4, l5, (l6 + 1), M1))
set_option maxRecDepth 100000 in
set_option maxHeartbeats 4000000 in
theorem sX6_hourOf_79 {x : SB} {F : ((Nat × Nat × Int32 × Int32 × Int32 × Int32 × Int32 × Int32 × Mm) ⊕ Int32 × Mm) → Prop} (X : CX x cX6_hourOf RX6 3) (hL : x.2.2.2.1 = 7) (Hr : RTI x cX6_hourOf .int F Sum.inr) (HH : ∀ q, F (.inl q) → pX6_hourOf x q) {l0 : Nat} {l1 : Int32} {l2 : Int32} {l3 : Int32} {l4 : Int32} {l5 : Int32} {l6 : Int32} {s0 : Int32} {s1 : Int32} {s2 : Int32} {s3 : Int32} {s4 : Nat} {M : Mm} (h_l0 : sh l0 = 16) (h_s4 : sh s4 = 16) : SIM x F (bX6_hourOf_79 l0 l1 l2 l3 l4 l5 l6 s0 s1 s2 s3 s4 M) 79 [(0, rf x.2.1 l0), (1, .int l1), (2, .int l2), (3, .int l3), (4, .int l4), (5, .int l5), (6, .int l6)] [.int s0, .int s1, .int s2, .int s3, rf x.2.1 s4] M := by
  unfold bX6_hourOf_79
  refine r_callVV [.int s3, .int s2, .int s1, .int s0] X mt_X6_187 (by decide) h_s4 (by decide) (okX6_setMarks _ _ X.J h_s4) rfl (Nat.le_of_ble_eq_true rfl) dX6_hourOf_79 rfl (fun _ M1 => ?_)
  refine r_iinc [(6, .int (l6 + 1)), (0, rf x.2.1 l0), (1, .int l1), (2, .int l2), (3, .int l3), (4, .int l4), (5, .int l5)] X dX6_hourOf_82 6 rfl rfl (nlt hL (by decide)) rfl ?_
  refine r_goto 43 X dX6_hourOf_85 (by decide) ?_
  exact r_hdr [(0, rf x.2.1 l0), (1, .int l1), (2, .int l2), (3, .int l3), (4, .int l4), (5, .int l5), (6, .int (l6 + 1))] [1, 2, 3, 4, 5, 6, 0] rfl (fun h => HH _ h h_l0)
set_option maxRecDepth 100000 in
noncomputable def bX6_hourOf_43 (l0 : Nat) (l1 : Int32) (l2 : Int32) (l3 : Int32) (l4 : Int32) (l5 : Int32) (l6 : Int32) (M : Mm) : Option ((Nat × Nat × Int32 × Int32 × Int32 × Int32 × Int32 × Int32 × Mm) ⊕ Int32 × Mm) := gfI M l0 10 fun v2 => if v2 ≤ l6 then cal (fX6_nextOf l0 l4 M) fun v4 M3 => cal (fX6_set l0 l1 32 l3 v4 M3) fun _ M5 => some (.inl (1, l0, l1, l2, (l3 + 1), 0, 0, 0, M5)) else cal (fX6_has l5 l6 M) fun v7 M6 => if v7 = 0 then cal (fX6_marks l0 l1 0 l6 M6) fun v9 M8 => bX6_hourOf_79 l0 l1 l2 l3 l4 l5 l6 v9 l6 0 l1 l0 M8 else bX6_hourOf_79 l0 l1 l2 l3 l4 l5 l6 0 l6 0 l1 l0 M6
set_option maxRecDepth 100000 in
set_option maxHeartbeats 4000000 in
theorem sX6_hourOf_43 {x : SB} {F : ((Nat × Nat × Int32 × Int32 × Int32 × Int32 × Int32 × Int32 × Mm) ⊕ Int32 × Mm) → Prop} (X : CX x cX6_hourOf RX6 3) (hL : x.2.2.2.1 = 7) (Hr : RTI x cX6_hourOf .int F Sum.inr) (HH : ∀ q, F (.inl q) → pX6_hourOf x q) {l0 : Nat} {l1 : Int32} {l2 : Int32} {l3 : Int32} {l4 : Int32} {l5 : Int32} {l6 : Int32} {M : Mm} (h_l0 : sh l0 = 16) : SIM x F (bX6_hourOf_43 l0 l1 l2 l3 l4 l5 l6 M) 43 [(0, rf x.2.1 l0), (1, .int l1), (2, .int l2), (3, .int l3), (4, .int l4), (5, .int l5), (6, .int l6)] [] M := by
  unfold bX6_hourOf_43
  refine r_iload X dX6_hourOf_43 6 rfl ?_
  refine r_aload_n X dX6_hourOf_45 rfl 0 rfl ?_
  refine r_getI X fl_X6_167 (by decide) h_l0 dX6_hourOf_46 (fun v2 => ?_)
  refine r_icmp_ge 88 X dX6_hourOf_49 (by decide) ?_ ?_
  · refine r_aload_n X dX6_hourOf_88 rfl 0 rfl ?_
    refine r_iload_n X dX6_hourOf_89 rfl 1 rfl ?_
    refine r_bipush (v := 32) X dX6_hourOf_90 (by decide) ?_
    refine r_iload_n X dX6_hourOf_92 rfl 3 rfl ?_
    refine r_aload_n X dX6_hourOf_93 rfl 0 rfl ?_
    refine r_iload X dX6_hourOf_94 4 rfl ?_
    refine r_callVI [.int l4] X mt_X6_202 (by decide) h_l0 (by decide) (okX6_nextOf _ _ X.J h_l0) rfl (Nat.le_of_ble_eq_true rfl) dX6_hourOf_96 rfl (fun v4 M3 => ?_)
    refine r_callVV [.int l1, .int 32, .int l3, .int v4] X mt_X6_173 (by decide) h_l0 (by decide) (okX6_set _ _ X.J h_l0) rfl (Nat.le_of_ble_eq_true rfl) dX6_hourOf_99 rfl (fun _ M5 => ?_)
    refine r_iinc [(3, .int (l3 + 1)), (0, rf x.2.1 l0), (1, .int l1), (2, .int l2), (4, .int l4), (5, .int l5), (6, .int l6)] X dX6_hourOf_102 3 rfl rfl (nlt hL (by decide)) rfl ?_
    refine r_goto 4 X dX6_hourOf_105 (by decide) ?_
    exact r_hdr [(0, rf x.2.1 l0), (1, .int l1), (2, .int l2), (3, .int (l3 + 1))] [1, 2, 3, 0] rfl (fun h => HH _ h h_l0)
  · refine r_aload_n X dX6_hourOf_52 rfl 0 rfl ?_
    refine r_iload_n X dX6_hourOf_53 rfl 1 rfl ?_
    refine r_iconst (v := 0) X dX6_hourOf_54 (by decide) ?_
    refine r_iload X dX6_hourOf_55 6 rfl ?_
    refine r_iload X dX6_hourOf_57 5 rfl ?_
    refine r_iload X dX6_hourOf_59 6 rfl ?_
    refine r_callSI [.int l5, .int l6] X mt_X6_145 (by decide) (okX6_has _ _ X.J) rfl (Nat.le_of_ble_eq_true rfl) dX6_hourOf_61 rfl (fun v7 M6 => ?_)
    refine r_if_eq 71 X dX6_hourOf_64 (by decide) ?_ ?_
    · refine r_aload_n X dX6_hourOf_71 rfl 0 rfl ?_
      refine r_iload_n X dX6_hourOf_72 rfl 1 rfl ?_
      refine r_iconst (v := 0) X dX6_hourOf_73 (by decide) ?_
      refine r_iload X dX6_hourOf_74 6 rfl ?_
      refine r_callVI [.int l1, .int 0, .int l6] X mt_X6_184 (by decide) h_l0 (by decide) (okX6_marks _ _ X.J h_l0) rfl (Nat.le_of_ble_eq_true rfl) dX6_hourOf_76 rfl (fun v9 M8 => ?_)
      exact r_to [(0, rf x.2.1 l0), (1, .int l1), (2, .int l2), (3, .int l3), (4, .int l4), (5, .int l5), (6, .int l6)] [0, 1, 2, 3, 4, 5, 6] rfl (sX6_hourOf_79 X hL Hr HH h_l0 h_l0)
    · refine r_iconst (v := 0) X dX6_hourOf_67 (by decide) ?_
      refine r_goto 79 X dX6_hourOf_68 (by decide) ?_
      exact r_to [(0, rf x.2.1 l0), (1, .int l1), (2, .int l2), (3, .int l3), (4, .int l4), (5, .int l5), (6, .int l6)] [0, 1, 2, 3, 4, 5, 6] rfl (sX6_hourOf_79 X hL Hr HH h_l0 h_l0)
set_option maxRecDepth 100000 in
noncomputable def bX6_hourOf_4 (l0 : Nat) (l1 : Int32) (l2 : Int32) (l3 : Int32) (M : Mm) : Option ((Nat × Nat × Int32 × Int32 × Int32 × Int32 × Int32 × Int32 × Mm) ⊕ Int32 × Mm) := gfI M l0 11 fun v10 => if v10 ≤ l3 then some (.inr (l2, M)) else cal (fX6_v l0 l1 32 l3 M) fun v12 M11 => cal (fX6_eatSet l0 v12 M11) fun v14 M13 => cal (fX6_crumbsOn l0 l1 v14 M13) fun v16 M15 => ltI (l2 + v16) fun v17 => some (.inl (2, l0, l1, v17, l3, v12, v14, 0, M15))
set_option maxRecDepth 100000 in
set_option maxHeartbeats 4000000 in
theorem sX6_hourOf_4 {x : SB} {F : ((Nat × Nat × Int32 × Int32 × Int32 × Int32 × Int32 × Int32 × Mm) ⊕ Int32 × Mm) → Prop} (X : CX x cX6_hourOf RX6 3) (hL : x.2.2.2.1 = 7) (Hr : RTI x cX6_hourOf .int F Sum.inr) (HH : ∀ q, F (.inl q) → pX6_hourOf x q) {l0 : Nat} {l1 : Int32} {l2 : Int32} {l3 : Int32} {M : Mm} (h_l0 : sh l0 = 16) : SIM x F (bX6_hourOf_4 l0 l1 l2 l3 M) 4 [(0, rf x.2.1 l0), (1, .int l1), (2, .int l2), (3, .int l3)] [] M := by
  unfold bX6_hourOf_4
  refine r_iload_n X dX6_hourOf_4 rfl 3 rfl ?_
  refine r_aload_n X dX6_hourOf_5 rfl 0 rfl ?_
  refine r_getI X fl_X6_170 (by decide) h_l0 dX6_hourOf_6 (fun v10 => ?_)
  refine r_icmp_ge 108 X dX6_hourOf_9 (by decide) ?_ ?_
  · refine r_iload_n X dX6_hourOf_108 rfl 2 rfl ?_
    exact r_iret Hr rfl dX6_hourOf_109
  · refine r_aload_n X dX6_hourOf_12 rfl 0 rfl ?_
    refine r_iload_n X dX6_hourOf_13 rfl 1 rfl ?_
    refine r_bipush (v := 32) X dX6_hourOf_14 (by decide) ?_
    refine r_iload_n X dX6_hourOf_16 rfl 3 rfl ?_
    refine r_callVI [.int l1, .int 32, .int l3] X mt_X6_180 (by decide) h_l0 (by decide) (okX6_v _ _ X.J h_l0) rfl (Nat.le_of_ble_eq_true rfl) dX6_hourOf_17 rfl (fun v12 M11 => ?_)
    refine r_istore [(4, .int v12), (0, rf x.2.1 l0), (1, .int l1), (2, .int l2), (3, .int l3)] X dX6_hourOf_20 (nlt hL (by decide)) rfl ?_
    refine r_aload_n X dX6_hourOf_22 rfl 1 rfl ?_
    refine r_iload X dX6_hourOf_23 0 rfl ?_
    refine r_callVI [.int v12] X mt_X6_196 (by decide) h_l0 (by decide) (okX6_eatSet _ _ X.J h_l0) rfl (Nat.le_of_ble_eq_true rfl) dX6_hourOf_25 rfl (fun v14 M13 => ?_)
    refine r_istore [(5, .int v14), (4, .int v12), (0, rf x.2.1 l0), (1, .int l1), (2, .int l2), (3, .int l3)] X dX6_hourOf_28 (nlt hL (by decide)) rfl ?_
    refine r_iload_n X dX6_hourOf_30 rfl 4 rfl ?_
    refine r_aload_n X dX6_hourOf_31 rfl 2 rfl ?_
    refine r_iload_n X dX6_hourOf_32 rfl 3 rfl ?_
    refine r_iload X dX6_hourOf_33 0 rfl ?_
    refine r_callVI [.int l1, .int v14] X mt_X6_199 (by decide) h_l0 (by decide) (okX6_crumbsOn _ _ X.J h_l0) rfl (Nat.le_of_ble_eq_true rfl) dX6_hourOf_35 rfl (fun v16 M15 => ?_)
    refine r_iadd X dX6_hourOf_38 ?_
    refine r_letI (fun v17 => ?_)
    refine r_istore_n [(2, .int v17), (5, .int v14), (4, .int v12), (0, rf x.2.1 l0), (1, .int l1), (3, .int l3)] X dX6_hourOf_39 rfl (nlt hL (by decide)) rfl ?_
    refine r_iconst (v := 0) X dX6_hourOf_40 (by decide) ?_
    refine r_istore [(6, .int 0), (2, .int v17), (5, .int v14), (4, .int v12), (0, rf x.2.1 l0), (1, .int l1), (3, .int l3)] X dX6_hourOf_41 (nlt hL (by decide)) rfl ?_
    exact r_hdr [(0, rf x.2.1 l0), (1, .int l1), (2, .int v17), (3, .int l3), (4, .int v12), (5, .int v14), (6, .int 0)] [4, 5, 1, 6, 3, 2, 0] rfl (fun h => HH _ h h_l0)
set_option maxRecDepth 100000 in
noncomputable def bX6_hourOf_0 (l0 : Nat) (l1 : Int32) (M : Mm) : Option ((Nat × Nat × Int32 × Int32 × Int32 × Int32 × Int32 × Int32 × Mm) ⊕ Int32 × Mm) := some (.inl (1, l0, l1, 0, 0, 0, 0, 0, M))
set_option maxRecDepth 100000 in
set_option maxHeartbeats 4000000 in
theorem sX6_hourOf_0 {x : SB} {F : ((Nat × Nat × Int32 × Int32 × Int32 × Int32 × Int32 × Int32 × Mm) ⊕ Int32 × Mm) → Prop} (X : CX x cX6_hourOf RX6 3) (hL : x.2.2.2.1 = 7) (Hr : RTI x cX6_hourOf .int F Sum.inr) (HH : ∀ q, F (.inl q) → pX6_hourOf x q) {l0 : Nat} {l1 : Int32} {M : Mm} (h_l0 : sh l0 = 16) : SIM x F (bX6_hourOf_0 l0 l1 M) 0 [(0, rf x.2.1 l0), (1, .int l1)] [] M := by
  unfold bX6_hourOf_0
  refine r_iconst (v := 0) X dX6_hourOf_0 (by decide) ?_
  refine r_istore_n [(2, .int 0), (0, rf x.2.1 l0), (1, .int l1)] X dX6_hourOf_1 rfl (nlt hL (by decide)) rfl ?_
  refine r_iconst (v := 0) X dX6_hourOf_2 (by decide) ?_
  refine r_istore_n [(3, .int 0), (2, .int 0), (0, rf x.2.1 l0), (1, .int l1)] X dX6_hourOf_3 rfl (nlt hL (by decide)) rfl ?_
  exact r_hdr [(0, rf x.2.1 l0), (1, .int l1), (2, .int 0), (3, .int 0)] [2, 3, 1, 0] rfl (fun h => HH _ h h_l0)
set_option maxRecDepth 100000 in
noncomputable def gX6_hourOf (q : Nat × Nat × Int32 × Int32 × Int32 × Int32 × Int32 × Int32 × Mm) : Option ((Nat × Nat × Int32 × Int32 × Int32 × Int32 × Int32 × Int32 × Mm) ⊕ Int32 × Mm) := match q.1 with
  | 1 => bX6_hourOf_4 (q.2.1) (q.2.2.1) (q.2.2.2.1) (q.2.2.2.2.1) (q.2.2.2.2.2.2.2.2)
  | 2 => bX6_hourOf_43 (q.2.1) (q.2.2.1) (q.2.2.2.1) (q.2.2.2.2.1) (q.2.2.2.2.2.1) (q.2.2.2.2.2.2.1) (q.2.2.2.2.2.2.2.1) (q.2.2.2.2.2.2.2.2)
  | _ => none
set_option maxRecDepth 100000 in
noncomputable def fX6_hourOf (l0 : Nat) (l1 : Int32) (M : Mm) : Option (Int32 × Mm) := fen gX6_hourOf (bX6_hourOf_0 l0 l1 M)
set_option maxRecDepth 100000 in
set_option maxHeartbeats 4000000 in
theorem okX6_hourOf (l : Launch) (g : GX) (hJ : IJ g) {l0 : Nat} {l1 : Int32} {M : Mm} (h_l0 : sh l0 = 16) : CT l g yX6_hourOf cX6_hourOf 7 (some .int) 3 [rf g l0, .int l1] M (fX6_hourOf l0 l1 M) (fun r => some (.int r)) := by
  refine ct_I rfl hJ (Nat.le_of_ble_eq_true rfl) (fun x r hg hL hl X hf Hr => ?_)
  subst hg
  have Hr2 : RTI x cX6_hourOf .int (Sum.elim (pX6_hourOf x) (fun q => q = r)) Sum.inr := fun v M h => Hr v M h
  have HP : ∀ q, fnl gX6_hourOf q = some r → pX6_hourOf x q := by
    intro q hq
    refine fnl_ind (pX6_hourOf x) (fun q hq => ?_) hq
    obtain ⟨n, l0, l1, l2, l3, l4, l5, l6, M⟩ := q
    match n, hq with
    | 1, hq => exact fun h_l0 ls H locs hl hP hS => sX6_hourOf_4 X hL Hr2 (fun _ h => h) h_l0 hq ls H locs hl hP hS
    | 2, hq => exact fun h_l0 ls H locs hl hP hS => sX6_hourOf_43 X hL Hr2 (fun _ h => h) h_l0 hq ls H locs hl hP hS
    | 0, hq => exact trivial
    | n + 3, hq => exact trivial
  exact fun _ ls H locs hl hP hS => sX6_hourOf_0 X hL Hr2 (fun _ h => h) h_l0 (fen_w hf HP) ls H locs hl hP hS
/-! CrumbWoodModel.bare()I -/
set_option maxRecDepth 100000 in
def pX6_bare (x : SB) (q : Nat × Nat × Int32 × Mm) : Prop := match q.1 with
  | 1 => sh q.2.1 = 16 → ∀ (ls : Array Slot) (H : Heap) (locs : List Loc), lv_has ls x.2.2.2.1 [(0, rf x.2.1 q.2.1), (1, .int q.2.2.1)] → PW x.2.1 (q.2.2.2) H → SH x H locs → SW x H locs 18 ls []
  | _ => True
set_option maxRecDepth 100000 in
noncomputable def bX6_bare_18 (l0 : Nat) (l1 : Int32) (M : Mm) : Option ((Nat × Nat × Int32 × Mm) ⊕ Int32 × Mm) := if 60 < l1 then some (.inr ((-9), M)) else gfI M l0 10 fun v1 => cal (fX6_crumbsOn l0 1 (((1 : Int32) <<< (v1 &&& 31)) - 1) M) fun v3 M2 => if v3 = 0 then some (.inr (l1, M2)) else cal (fX6_hourOf l0 1 M2) fun v5 M4 => some (.inl (1, l0, (l1 + 1), M4))
set_option maxRecDepth 100000 in
set_option maxHeartbeats 4000000 in
theorem sX6_bare_18 {x : SB} {F : ((Nat × Nat × Int32 × Mm) ⊕ Int32 × Mm) → Prop} (X : CX x cX6_bare RX6 4) (hL : x.2.2.2.1 = 2) (Hr : RTI x cX6_bare .int F Sum.inr) (HH : ∀ q, F (.inl q) → pX6_bare x q) {l0 : Nat} {l1 : Int32} {M : Mm} (h_l0 : sh l0 = 16) : SIM x F (bX6_bare_18 l0 l1 M) 18 [(0, rf x.2.1 l0), (1, .int l1)] [] M := by
  unfold bX6_bare_18
  refine r_iload_n X dX6_bare_18 rfl 1 rfl ?_
  refine r_bipush (v := 60) X dX6_bare_19 (by decide) ?_
  refine r_icmp_gt 54 X dX6_bare_21 (by decide) ?_ ?_
  · refine r_bipush (v := (-9)) X dX6_bare_54 (by decide) ?_
    exact r_iret Hr rfl dX6_bare_56
  · refine r_aload_n X dX6_bare_24 rfl 0 rfl ?_
    refine r_iconst (v := 1) X dX6_bare_25 (by decide) ?_
    refine r_iconst (v := 1) X dX6_bare_26 (by decide) ?_
    refine r_aload_n X dX6_bare_27 rfl 0 rfl ?_
    refine r_getI X fl_X6_167 (by decide) h_l0 dX6_bare_28 (fun v1 => ?_)
    refine r_ishl X dX6_bare_31 ?_
    refine r_iconst (v := 1) X dX6_bare_32 (by decide) ?_
    refine r_isub X dX6_bare_33 ?_
    refine r_callVI [.int 1, .int (((1 : Int32) <<< (v1 &&& 31)) - 1)] X mt_X6_199 (by decide) h_l0 (by decide) (okX6_crumbsOn _ _ X.J h_l0) rfl (Nat.le_of_ble_eq_true rfl) dX6_bare_34 rfl (fun v3 M2 => ?_)
    refine r_if_ne 42 X dX6_bare_37 (by decide) ?_ ?_
    · refine r_iload_n X dX6_bare_40 rfl 1 rfl ?_
      exact r_iret Hr rfl dX6_bare_41
    · refine r_aload_n X dX6_bare_42 rfl 0 rfl ?_
      refine r_iconst (v := 1) X dX6_bare_43 (by decide) ?_
      refine r_callVI [.int 1] X mt_X6_205 (by decide) h_l0 (by decide) (okX6_hourOf _ _ X.J h_l0) rfl (Nat.le_of_ble_eq_true rfl) dX6_bare_44 rfl (fun v5 M4 => ?_)
      refine r_pop X dX6_bare_47 rfl ?_
      refine r_iinc [(1, .int (l1 + 1)), (0, rf x.2.1 l0)] X dX6_bare_48 1 rfl rfl (nlt hL (by decide)) rfl ?_
      refine r_goto 18 X dX6_bare_51 (by decide) ?_
      exact r_hdr [(0, rf x.2.1 l0), (1, .int (l1 + 1))] [1, 0] rfl (fun h => HH _ h h_l0)
set_option maxRecDepth 100000 in
noncomputable def bX6_bare_0 (l0 : Nat) (M : Mm) : Option ((Nat × Nat × Int32 × Mm) ⊕ Int32 × Mm) := gfI M l0 10 fun v6 => if v6 = 0 then some (.inr ((-4), M)) else cal (fX6_copyTo l0 0 1 M) fun _ M7 => some (.inl (1, l0, 0, M7))
set_option maxRecDepth 100000 in
set_option maxHeartbeats 4000000 in
theorem sX6_bare_0 {x : SB} {F : ((Nat × Nat × Int32 × Mm) ⊕ Int32 × Mm) → Prop} (X : CX x cX6_bare RX6 4) (hL : x.2.2.2.1 = 2) (Hr : RTI x cX6_bare .int F Sum.inr) (HH : ∀ q, F (.inl q) → pX6_bare x q) {l0 : Nat} {M : Mm} (h_l0 : sh l0 = 16) : SIM x F (bX6_bare_0 l0 M) 0 [(0, rf x.2.1 l0)] [] M := by
  unfold bX6_bare_0
  refine r_aload_n X dX6_bare_0 rfl 0 rfl ?_
  refine r_getI X fl_X6_167 (by decide) h_l0 dX6_bare_1 (fun v6 => ?_)
  refine r_if_ne 10 X dX6_bare_4 (by decide) ?_ ?_
  · refine r_bipush (v := (-4)) X dX6_bare_7 (by decide) ?_
    exact r_iret Hr rfl dX6_bare_9
  · refine r_aload_n X dX6_bare_10 rfl 0 rfl ?_
    refine r_iconst (v := 0) X dX6_bare_11 (by decide) ?_
    refine r_iconst (v := 1) X dX6_bare_12 (by decide) ?_
    refine r_callVV [.int 0, .int 1] X mt_X6_247 (by decide) h_l0 (by decide) (okX6_copyTo _ _ X.J h_l0) rfl (Nat.le_of_ble_eq_true rfl) dX6_bare_13 rfl (fun _ M7 => ?_)
    refine r_iconst (v := 0) X dX6_bare_16 (by decide) ?_
    refine r_istore_n [(1, .int 0), (0, rf x.2.1 l0)] X dX6_bare_17 rfl (nlt hL (by decide)) rfl ?_
    exact r_hdr [(0, rf x.2.1 l0), (1, .int 0)] [1, 0] rfl (fun h => HH _ h h_l0)
set_option maxRecDepth 100000 in
noncomputable def gX6_bare (q : Nat × Nat × Int32 × Mm) : Option ((Nat × Nat × Int32 × Mm) ⊕ Int32 × Mm) := match q.1 with
  | 1 => bX6_bare_18 (q.2.1) (q.2.2.1) (q.2.2.2)
  | _ => none
set_option maxRecDepth 100000 in
noncomputable def fX6_bare (l0 : Nat) (M : Mm) : Option (Int32 × Mm) := fen gX6_bare (bX6_bare_0 l0 M)
set_option maxRecDepth 100000 in
set_option maxHeartbeats 4000000 in
theorem okX6_bare (l : Launch) (g : GX) (hJ : IJ g) {l0 : Nat} {M : Mm} (h_l0 : sh l0 = 16) : CT l g yX6_bare cX6_bare 2 (some .int) 4 [rf g l0] M (fX6_bare l0 M) (fun r => some (.int r)) := by
  refine ct_I rfl hJ (Nat.le_of_ble_eq_true rfl) (fun x r hg hL hl X hf Hr => ?_)
  subst hg
  have Hr2 : RTI x cX6_bare .int (Sum.elim (pX6_bare x) (fun q => q = r)) Sum.inr := fun v M h => Hr v M h
  have HP : ∀ q, fnl gX6_bare q = some r → pX6_bare x q := by
    intro q hq
    refine fnl_ind (pX6_bare x) (fun q hq => ?_) hq
    obtain ⟨n, l0, l1, M⟩ := q
    match n, hq with
    | 1, hq => exact fun h_l0 ls H locs hl hP hS => sX6_bare_18 X hL Hr2 (fun _ h => h) h_l0 hq ls H locs hl hP hS
    | 0, hq => exact trivial
    | n + 2, hq => exact trivial
  exact fun _ ls H locs hl hP hS => sX6_bare_0 X hL Hr2 (fun _ h => h) h_l0 (fen_w hf HP) ls H locs hl hP hS
/-! CrumbWoodModel.homeWays(I)I -/
set_option maxRecDepth 100000 in
def pX6_homeWays (x : SB) (q : Nat × Nat × Int32 × Int32 × Int32 × Int32 × Mm) : Prop := match q.1 with
  | 1 => sh q.2.1 = 16 → ∀ (ls : Array Slot) (H : Heap) (locs : List Loc), lv_has ls x.2.2.2.1 [(0, rf x.2.1 q.2.1), (1, .int q.2.2.1), (2, .int q.2.2.2.1), (3, .int q.2.2.2.2.1)] → PW x.2.1 (q.2.2.2.2.2.2) H → SH x H locs → SW x H locs 4 ls []
  | 2 => sh q.2.1 = 16 → ∀ (ls : Array Slot) (H : Heap) (locs : List Loc), lv_has ls x.2.2.2.1 [(0, rf x.2.1 q.2.1), (1, .int q.2.2.1), (2, .int q.2.2.2.1), (3, .int q.2.2.2.2.1), (4, .int q.2.2.2.2.2.1)] → PW x.2.1 (q.2.2.2.2.2.2) H → SH x H locs → SW x H locs 23 ls []
  | _ => True
set_option maxRecDepth 100000 in
noncomputable def bX6_homeWays_85 (l0 : Nat) (l1 : Int32) (l3 : Int32) (s0 : Int32) (s1 : Int32) (M : Mm) : Option ((Nat × Nat × Int32 × Int32 × Int32 × Int32 × Mm) ⊕ Int32 × Mm) := ltI (s1 + s0) fun v1 => some (.inl (1, l0, l1, v1, (l3 + 1), 0, M))
set_option maxRecDepth 100000 in
set_option maxHeartbeats 4000000 in
theorem sX6_homeWays_85 {x : SB} {F : ((Nat × Nat × Int32 × Int32 × Int32 × Int32 × Mm) ⊕ Int32 × Mm) → Prop} (X : CX x cX6_homeWays RX6 5) (hL : x.2.2.2.1 = 5) (Hr : RTI x cX6_homeWays .int F Sum.inr) (HH : ∀ q, F (.inl q) → pX6_homeWays x q) {l0 : Nat} {l1 : Int32} {l3 : Int32} {s0 : Int32} {s1 : Int32} {M : Mm} (h_l0 : sh l0 = 16) : SIM x F (bX6_homeWays_85 l0 l1 l3 s0 s1 M) 85 [(0, rf x.2.1 l0), (1, .int l1), (3, .int l3)] [.int s0, .int s1] M := by
  unfold bX6_homeWays_85
  refine r_iadd X dX6_homeWays_85 ?_
  refine r_letI (fun v1 => ?_)
  refine r_istore_n [(2, .int v1), (0, rf x.2.1 l0), (1, .int l1), (3, .int l3)] X dX6_homeWays_86 rfl (nlt hL (by decide)) rfl ?_
  refine r_iinc [(3, .int (l3 + 1)), (2, .int v1), (0, rf x.2.1 l0), (1, .int l1)] X dX6_homeWays_87 3 rfl rfl (nlt hL (by decide)) rfl ?_
  refine r_goto 4 X dX6_homeWays_90 (by decide) ?_
  exact r_hdr [(0, rf x.2.1 l0), (1, .int l1), (2, .int v1), (3, .int (l3 + 1))] [2, 3, 1, 0] rfl (fun h => HH _ h h_l0)
set_option maxRecDepth 100000 in
noncomputable def bX6_homeWays_58 (l0 : Nat) (l1 : Int32) (l2 : Int32) (l3 : Int32) (l4 : Int32) (s0 : Int32) (s1 : Int32) (s2 : Int32) (s3 : Int32) (s4 : Nat) (M : Mm) : Option ((Nat × Nat × Int32 × Int32 × Int32 × Int32 × Mm) ⊕ Int32 × Mm) := cal (fX6_setMarks s4 s3 s2 s1 s0 M) fun _ M2 => some (.inl (2, l0, l1, l2, l3, (l4 + 1), M2))
set_option maxRecDepth 100000 in
set_option maxHeartbeats 4000000 in
theorem sX6_homeWays_58 {x : SB} {F : ((Nat × Nat × Int32 × Int32 × Int32 × Int32 × Mm) ⊕ Int32 × Mm) → Prop} (X : CX x cX6_homeWays RX6 5) (hL : x.2.2.2.1 = 5) (Hr : RTI x cX6_homeWays .int F Sum.inr) (HH : ∀ q, F (.inl q) → pX6_homeWays x q) {l0 : Nat} {l1 : Int32} {l2 : Int32} {l3 : Int32} {l4 : Int32} {s0 : Int32} {s1 : Int32} {s2 : Int32} {s3 : Int32} {s4 : Nat} {M : Mm} (h_l0 : sh l0 = 16) (h_s4 : sh s4 = 16) : SIM x F (bX6_homeWays_58 l0 l1 l2 l3 l4 s0 s1 s2 s3 s4 M) 58 [(0, rf x.2.1 l0), (1, .int l1), (2, .int l2), (3, .int l3), (4, .int l4)] [.int s0, .int s1, .int s2, .int s3, rf x.2.1 s4] M := by
  unfold bX6_homeWays_58
  refine r_callVV [.int s3, .int s2, .int s1, .int s0] X mt_X6_187 (by decide) h_s4 (by decide) (okX6_setMarks _ _ X.J h_s4) rfl (Nat.le_of_ble_eq_true rfl) dX6_homeWays_58 rfl (fun _ M2 => ?_)
  refine r_iinc [(4, .int (l4 + 1)), (0, rf x.2.1 l0), (1, .int l1), (2, .int l2), (3, .int l3)] X dX6_homeWays_61 4 rfl rfl (nlt hL (by decide)) rfl ?_
  refine r_goto 23 X dX6_homeWays_64 (by decide) ?_
  exact r_hdr [(0, rf x.2.1 l0), (1, .int l1), (2, .int l2), (3, .int l3), (4, .int (l4 + 1))] [1, 2, 3, 4, 0] rfl (fun h => HH _ h h_l0)
set_option maxRecDepth 100000 in
noncomputable def bX6_homeWays_23 (l0 : Nat) (l1 : Int32) (l2 : Int32) (l3 : Int32) (l4 : Int32) (M : Mm) : Option ((Nat × Nat × Int32 × Int32 × Int32 × Int32 × Mm) ⊕ Int32 × Mm) := gfI M l0 10 fun v3 => if v3 ≤ l4 then cal (fX6_hereNow l0 M) fun v5 M4 => cal (fX6_follows l0 2 v5 M4) fun v7 M6 => if v7 = 0 then bX6_homeWays_85 l0 l1 l3 0 l2 M6 else bX6_homeWays_85 l0 l1 l3 1 l2 M6 else cal (fX6_has l3 l4 M) fun v9 M8 => if v9 = 0 then cal (fX6_marks l0 2 0 l4 M8) fun v11 M10 => bX6_homeWays_58 l0 l1 l2 l3 l4 v11 l4 0 2 l0 M10 else bX6_homeWays_58 l0 l1 l2 l3 l4 0 l4 0 2 l0 M8
set_option maxRecDepth 100000 in
set_option maxHeartbeats 4000000 in
theorem sX6_homeWays_23 {x : SB} {F : ((Nat × Nat × Int32 × Int32 × Int32 × Int32 × Mm) ⊕ Int32 × Mm) → Prop} (X : CX x cX6_homeWays RX6 5) (hL : x.2.2.2.1 = 5) (Hr : RTI x cX6_homeWays .int F Sum.inr) (HH : ∀ q, F (.inl q) → pX6_homeWays x q) {l0 : Nat} {l1 : Int32} {l2 : Int32} {l3 : Int32} {l4 : Int32} {M : Mm} (h_l0 : sh l0 = 16) : SIM x F (bX6_homeWays_23 l0 l1 l2 l3 l4 M) 23 [(0, rf x.2.1 l0), (1, .int l1), (2, .int l2), (3, .int l3), (4, .int l4)] [] M := by
  unfold bX6_homeWays_23
  refine r_iload X dX6_homeWays_23 4 rfl ?_
  refine r_aload_n X dX6_homeWays_25 rfl 0 rfl ?_
  refine r_getI X fl_X6_167 (by decide) h_l0 dX6_homeWays_26 (fun v3 => ?_)
  refine r_icmp_ge 67 X dX6_homeWays_29 (by decide) ?_ ?_
  · refine r_iload_n X dX6_homeWays_67 rfl 2 rfl ?_
    refine r_aload_n X dX6_homeWays_68 rfl 0 rfl ?_
    refine r_iconst (v := 2) X dX6_homeWays_69 (by decide) ?_
    refine r_aload_n X dX6_homeWays_70 rfl 0 rfl ?_
    refine r_callVI [] X mt_X6_223 (by decide) h_l0 (by decide) (okX6_hereNow _ _ X.J h_l0) rfl (Nat.le_of_ble_eq_true rfl) dX6_homeWays_71 rfl (fun v5 M4 => ?_)
    refine r_callVI [.int 2, .int v5] X mt_X6_244 (by decide) h_l0 (by decide) (okX6_follows _ _ X.J h_l0) rfl (Nat.le_of_ble_eq_true rfl) dX6_homeWays_74 rfl (fun v7 M6 => ?_)
    refine r_if_eq 84 X dX6_homeWays_77 (by decide) ?_ ?_
    · refine r_iconst (v := 0) X dX6_homeWays_84 (by decide) ?_
      exact r_to [(0, rf x.2.1 l0), (1, .int l1), (3, .int l3)] [0, 1, 3] rfl (sX6_homeWays_85 X hL Hr HH h_l0)
    · refine r_iconst (v := 1) X dX6_homeWays_80 (by decide) ?_
      refine r_goto 85 X dX6_homeWays_81 (by decide) ?_
      exact r_to [(0, rf x.2.1 l0), (1, .int l1), (3, .int l3)] [0, 1, 3] rfl (sX6_homeWays_85 X hL Hr HH h_l0)
  · refine r_aload_n X dX6_homeWays_32 rfl 0 rfl ?_
    refine r_iconst (v := 2) X dX6_homeWays_33 (by decide) ?_
    refine r_iconst (v := 0) X dX6_homeWays_34 (by decide) ?_
    refine r_iload X dX6_homeWays_35 4 rfl ?_
    refine r_iload_n X dX6_homeWays_37 rfl 3 rfl ?_
    refine r_iload X dX6_homeWays_38 4 rfl ?_
    refine r_callSI [.int l3, .int l4] X mt_X6_145 (by decide) (okX6_has _ _ X.J) rfl (Nat.le_of_ble_eq_true rfl) dX6_homeWays_40 rfl (fun v9 M8 => ?_)
    refine r_if_eq 50 X dX6_homeWays_43 (by decide) ?_ ?_
    · refine r_aload_n X dX6_homeWays_50 rfl 0 rfl ?_
      refine r_iconst (v := 2) X dX6_homeWays_51 (by decide) ?_
      refine r_iconst (v := 0) X dX6_homeWays_52 (by decide) ?_
      refine r_iload X dX6_homeWays_53 4 rfl ?_
      refine r_callVI [.int 2, .int 0, .int l4] X mt_X6_184 (by decide) h_l0 (by decide) (okX6_marks _ _ X.J h_l0) rfl (Nat.le_of_ble_eq_true rfl) dX6_homeWays_55 rfl (fun v11 M10 => ?_)
      exact r_to [(0, rf x.2.1 l0), (1, .int l1), (2, .int l2), (3, .int l3), (4, .int l4)] [0, 1, 2, 3, 4] rfl (sX6_homeWays_58 X hL Hr HH h_l0 h_l0)
    · refine r_iconst (v := 0) X dX6_homeWays_46 (by decide) ?_
      refine r_goto 58 X dX6_homeWays_47 (by decide) ?_
      exact r_to [(0, rf x.2.1 l0), (1, .int l1), (2, .int l2), (3, .int l3), (4, .int l4)] [0, 1, 2, 3, 4] rfl (sX6_homeWays_58 X hL Hr HH h_l0 h_l0)
set_option maxRecDepth 100000 in
noncomputable def bX6_homeWays_4 (l0 : Nat) (l1 : Int32) (l2 : Int32) (l3 : Int32) (M : Mm) : Option ((Nat × Nat × Int32 × Int32 × Int32 × Int32 × Mm) ⊕ Int32 × Mm) := gfI M l0 10 fun v12 => if ((1 : Int32) <<< (v12 &&& 31)) ≤ l3 then some (.inr (l2, M)) else cal (fX6_copyTo l0 l1 2 M) fun _ M13 => some (.inl (2, l0, l1, l2, l3, 0, M13))
set_option maxRecDepth 100000 in
set_option maxHeartbeats 4000000 in
theorem sX6_homeWays_4 {x : SB} {F : ((Nat × Nat × Int32 × Int32 × Int32 × Int32 × Mm) ⊕ Int32 × Mm) → Prop} (X : CX x cX6_homeWays RX6 5) (hL : x.2.2.2.1 = 5) (Hr : RTI x cX6_homeWays .int F Sum.inr) (HH : ∀ q, F (.inl q) → pX6_homeWays x q) {l0 : Nat} {l1 : Int32} {l2 : Int32} {l3 : Int32} {M : Mm} (h_l0 : sh l0 = 16) : SIM x F (bX6_homeWays_4 l0 l1 l2 l3 M) 4 [(0, rf x.2.1 l0), (1, .int l1), (2, .int l2), (3, .int l3)] [] M := by
  unfold bX6_homeWays_4
  refine r_iload_n X dX6_homeWays_4 rfl 3 rfl ?_
  refine r_iconst (v := 1) X dX6_homeWays_5 (by decide) ?_
  refine r_aload_n X dX6_homeWays_6 rfl 0 rfl ?_
  refine r_getI X fl_X6_167 (by decide) h_l0 dX6_homeWays_7 (fun v12 => ?_)
  refine r_ishl X dX6_homeWays_10 ?_
  refine r_icmp_ge 93 X dX6_homeWays_11 (by decide) ?_ ?_
  · refine r_iload_n X dX6_homeWays_93 rfl 2 rfl ?_
    exact r_iret Hr rfl dX6_homeWays_94
  · refine r_aload_n X dX6_homeWays_14 rfl 0 rfl ?_
    refine r_iload_n X dX6_homeWays_15 rfl 1 rfl ?_
    refine r_iconst (v := 2) X dX6_homeWays_16 (by decide) ?_
    refine r_callVV [.int l1, .int 2] X mt_X6_247 (by decide) h_l0 (by decide) (okX6_copyTo _ _ X.J h_l0) rfl (Nat.le_of_ble_eq_true rfl) dX6_homeWays_17 rfl (fun _ M13 => ?_)
    refine r_iconst (v := 0) X dX6_homeWays_20 (by decide) ?_
    refine r_istore [(4, .int 0), (0, rf x.2.1 l0), (1, .int l1), (2, .int l2), (3, .int l3)] X dX6_homeWays_21 (nlt hL (by decide)) rfl ?_
    exact r_hdr [(0, rf x.2.1 l0), (1, .int l1), (2, .int l2), (3, .int l3), (4, .int 0)] [1, 2, 3, 4, 0] rfl (fun h => HH _ h h_l0)
set_option maxRecDepth 100000 in
noncomputable def bX6_homeWays_0 (l0 : Nat) (l1 : Int32) (M : Mm) : Option ((Nat × Nat × Int32 × Int32 × Int32 × Int32 × Mm) ⊕ Int32 × Mm) := some (.inl (1, l0, l1, 0, 0, 0, M))
set_option maxRecDepth 100000 in
set_option maxHeartbeats 4000000 in
theorem sX6_homeWays_0 {x : SB} {F : ((Nat × Nat × Int32 × Int32 × Int32 × Int32 × Mm) ⊕ Int32 × Mm) → Prop} (X : CX x cX6_homeWays RX6 5) (hL : x.2.2.2.1 = 5) (Hr : RTI x cX6_homeWays .int F Sum.inr) (HH : ∀ q, F (.inl q) → pX6_homeWays x q) {l0 : Nat} {l1 : Int32} {M : Mm} (h_l0 : sh l0 = 16) : SIM x F (bX6_homeWays_0 l0 l1 M) 0 [(0, rf x.2.1 l0), (1, .int l1)] [] M := by
  unfold bX6_homeWays_0
  refine r_iconst (v := 0) X dX6_homeWays_0 (by decide) ?_
  refine r_istore_n [(2, .int 0), (0, rf x.2.1 l0), (1, .int l1)] X dX6_homeWays_1 rfl (nlt hL (by decide)) rfl ?_
  refine r_iconst (v := 0) X dX6_homeWays_2 (by decide) ?_
  refine r_istore_n [(3, .int 0), (2, .int 0), (0, rf x.2.1 l0), (1, .int l1)] X dX6_homeWays_3 rfl (nlt hL (by decide)) rfl ?_
  exact r_hdr [(0, rf x.2.1 l0), (1, .int l1), (2, .int 0), (3, .int 0)] [2, 3, 1, 0] rfl (fun h => HH _ h h_l0)
set_option maxRecDepth 100000 in
noncomputable def gX6_homeWays (q : Nat × Nat × Int32 × Int32 × Int32 × Int32 × Mm) : Option ((Nat × Nat × Int32 × Int32 × Int32 × Int32 × Mm) ⊕ Int32 × Mm) := match q.1 with
  | 1 => bX6_homeWays_4 (q.2.1) (q.2.2.1) (q.2.2.2.1) (q.2.2.2.2.1) (q.2.2.2.2.2.2)
  | 2 => bX6_homeWays_23 (q.2.1) (q.2.2.1) (q.2.2.2.1) (q.2.2.2.2.1) (q.2.2.2.2.2.1) (q.2.2.2.2.2.2)
  | _ => none
set_option maxRecDepth 100000 in
noncomputable def fX6_homeWays (l0 : Nat) (l1 : Int32) (M : Mm) : Option (Int32 × Mm) := fen gX6_homeWays (bX6_homeWays_0 l0 l1 M)
set_option maxRecDepth 100000 in
set_option maxHeartbeats 4000000 in
theorem okX6_homeWays (l : Launch) (g : GX) (hJ : IJ g) {l0 : Nat} {l1 : Int32} {M : Mm} (h_l0 : sh l0 = 16) : CT l g yX6_homeWays cX6_homeWays 5 (some .int) 5 [rf g l0, .int l1] M (fX6_homeWays l0 l1 M) (fun r => some (.int r)) := by
  refine ct_I rfl hJ (Nat.le_of_ble_eq_true rfl) (fun x r hg hL hl X hf Hr => ?_)
  subst hg
  have Hr2 : RTI x cX6_homeWays .int (Sum.elim (pX6_homeWays x) (fun q => q = r)) Sum.inr := fun v M h => Hr v M h
  have HP : ∀ q, fnl gX6_homeWays q = some r → pX6_homeWays x q := by
    intro q hq
    refine fnl_ind (pX6_homeWays x) (fun q hq => ?_) hq
    obtain ⟨n, l0, l1, l2, l3, l4, M⟩ := q
    match n, hq with
    | 1, hq => exact fun h_l0 ls H locs hl hP hS => sX6_homeWays_4 X hL Hr2 (fun _ h => h) h_l0 hq ls H locs hl hP hS
    | 2, hq => exact fun h_l0 ls H locs hl hP hS => sX6_homeWays_23 X hL Hr2 (fun _ h => h) h_l0 hq ls H locs hl hP hS
    | 0, hq => exact trivial
    | n + 3, hq => exact trivial
  exact fun _ ls H locs hl hP hS => sX6_homeWays_0 X hL Hr2 (fun _ h => h) h_l0 (fen_w hf HP) ls H locs hl hP hS
/-! CrumbWoodModel.part(JJ)I -/
set_option maxRecDepth 100000 in
def pX6_part (x : SB) (q : Nat × Nat × Int64 × Int64 × Int64 × Int64 × Mm) : Prop := match q.1 with
  | 1 => sh q.2.1 = 16 → ∀ (ls : Array Slot) (H : Heap) (locs : List Loc), lv_has ls x.2.2.2.1 [(0, rf x.2.1 q.2.1), (1, .long q.2.2.1), (3, .long q.2.2.2.1), (5, .long q.2.2.2.2.1), (7, .long q.2.2.2.2.2.1)] → PW x.2.1 (q.2.2.2.2.2.2) H → SH x H locs → SW x H locs 6 ls []
  | _ => True
set_option maxRecDepth 100000 in
noncomputable def bX6_part_6 (l0 : Nat) (l1 : Int64) (l3 : Int64) (l5 : Int64) (l7 : Int64) (M : Mm) : Option ((Nat × Nat × Int64 × Int64 × Int64 × Int64 × Mm) ⊕ Int32 × Mm) := if (lg_cmp l7 0) = 0 then dvJ l1 l5 fun v1 => pfJ M l0 3 v1 fun M2 => dvJ l3 l5 fun v3 => pfJ M2 l0 4 v3 fun M4 => some (.inr (1, M4)) else rmJ l5 l7 fun v5 => some (.inl (1, l0, l1, l3, l7, v5, M))
set_option maxRecDepth 100000 in
set_option maxHeartbeats 4000000 in
theorem sX6_part_6 {x : SB} {F : ((Nat × Nat × Int64 × Int64 × Int64 × Int64 × Mm) ⊕ Int32 × Mm) → Prop} (X : CX x cX6_part RX6 0) (hL : x.2.2.2.1 = 11) (Hr : RTI x cX6_part .int F Sum.inr) (HH : ∀ q, F (.inl q) → pX6_part x q) {l0 : Nat} {l1 : Int64} {l3 : Int64} {l5 : Int64} {l7 : Int64} {M : Mm} (h_l0 : sh l0 = 16) : SIM x F (bX6_part_6 l0 l1 l3 l5 l7 M) 6 [(0, rf x.2.1 l0), (1, .long l1), (3, .long l3), (5, .long l5), (7, .long l7)] [] M := by
  unfold bX6_part_6
  refine r_lload X dX6_part_6 4 rfl ?_
  refine r_lconst (v := 0) X dX6_part_8 (by decide) ?_
  refine r_lcmp X dX6_part_9 ?_
  refine r_if_eq 31 X dX6_part_10 (by decide) ?_ ?_
  · refine r_aload_n X dX6_part_31 rfl 0 rfl ?_
    refine r_lload_n X dX6_part_32 rfl 1 rfl ?_
    refine r_lload X dX6_part_33 3 rfl ?_
    refine r_ldiv X dX6_part_35 (fun v1 => ?_)
    refine r_putJ X fl_X6_99 (by decide) h_l0 (fun _ => rfl) (fun _ => rfl) dX6_part_36 (fun M2 => ?_)
    refine r_aload_n X dX6_part_39 rfl 0 rfl ?_
    refine r_lload_n X dX6_part_40 rfl 2 rfl ?_
    refine r_lload X dX6_part_41 3 rfl ?_
    refine r_ldiv X dX6_part_43 (fun v3 => ?_)
    refine r_putJ X fl_X6_13 (by decide) h_l0 (fun _ => rfl) (fun _ => rfl) dX6_part_44 (fun M4 => ?_)
    refine r_iconst (v := 1) X dX6_part_47 (by decide) ?_
    exact r_iret Hr rfl dX6_part_48
  · refine r_lload X dX6_part_13 3 rfl ?_
    refine r_lload X dX6_part_15 4 rfl ?_
    refine r_lrem X dX6_part_17 (fun v5 => ?_)
    refine r_lstore [(9, .long v5), (0, rf x.2.1 l0), (1, .long l1), (3, .long l3), (5, .long l5), (7, .long l7)] X dX6_part_18 (nlt hL (by decide)) rfl ?_
    refine r_lload X dX6_part_20 5 rfl ?_
    refine r_lstore [(5, .long l7), (9, .long v5), (0, rf x.2.1 l0), (1, .long l1), (3, .long l3), (7, .long l7)] X dX6_part_22 (nlt hL (by decide)) rfl ?_
    refine r_lload X dX6_part_24 1 rfl ?_
    refine r_lstore [(7, .long v5), (5, .long l7), (9, .long v5), (0, rf x.2.1 l0), (1, .long l1), (3, .long l3)] X dX6_part_26 (nlt hL (by decide)) rfl ?_
    refine r_goto 6 X dX6_part_28 (by decide) ?_
    exact r_hdr [(0, rf x.2.1 l0), (1, .long l1), (3, .long l3), (5, .long l7), (7, .long v5)] [3, 4, 5, 1, 0] rfl (fun h => HH _ h h_l0)
set_option maxRecDepth 100000 in
noncomputable def bX6_part_0 (l0 : Nat) (l1 : Int64) (l3 : Int64) (M : Mm) : Option ((Nat × Nat × Int64 × Int64 × Int64 × Int64 × Mm) ⊕ Int32 × Mm) := some (.inl (1, l0, l1, l3, l1, l3, M))
set_option maxRecDepth 100000 in
set_option maxHeartbeats 4000000 in
theorem sX6_part_0 {x : SB} {F : ((Nat × Nat × Int64 × Int64 × Int64 × Int64 × Mm) ⊕ Int32 × Mm) → Prop} (X : CX x cX6_part RX6 0) (hL : x.2.2.2.1 = 11) (Hr : RTI x cX6_part .int F Sum.inr) (HH : ∀ q, F (.inl q) → pX6_part x q) {l0 : Nat} {l1 : Int64} {l3 : Int64} {M : Mm} (h_l0 : sh l0 = 16) : SIM x F (bX6_part_0 l0 l1 l3 M) 0 [(0, rf x.2.1 l0), (1, .long l1), (3, .long l3)] [] M := by
  unfold bX6_part_0
  refine r_lload_n X dX6_part_0 rfl 1 rfl ?_
  refine r_lstore [(5, .long l1), (0, rf x.2.1 l0), (1, .long l1), (3, .long l3)] X dX6_part_1 (nlt hL (by decide)) rfl ?_
  refine r_lload_n X dX6_part_3 rfl 3 rfl ?_
  refine r_lstore [(7, .long l3), (5, .long l1), (0, rf x.2.1 l0), (1, .long l1), (3, .long l3)] X dX6_part_4 (nlt hL (by decide)) rfl ?_
  exact r_hdr [(0, rf x.2.1 l0), (1, .long l1), (3, .long l3), (5, .long l1), (7, .long l3)] [2, 3, 4, 1, 0] rfl (fun h => HH _ h h_l0)
set_option maxRecDepth 100000 in
noncomputable def gX6_part (q : Nat × Nat × Int64 × Int64 × Int64 × Int64 × Mm) : Option ((Nat × Nat × Int64 × Int64 × Int64 × Int64 × Mm) ⊕ Int32 × Mm) := match q.1 with
  | 1 => bX6_part_6 (q.2.1) (q.2.2.1) (q.2.2.2.1) (q.2.2.2.2.1) (q.2.2.2.2.2.1) (q.2.2.2.2.2.2)
  | _ => none
set_option maxRecDepth 100000 in
noncomputable def fX6_part (l0 : Nat) (l1 : Int64) (l3 : Int64) (M : Mm) : Option (Int32 × Mm) := fen gX6_part (bX6_part_0 l0 l1 l3 M)
set_option maxRecDepth 100000 in
set_option maxHeartbeats 4000000 in
theorem okX6_part (l : Launch) (g : GX) (hJ : IJ g) {l0 : Nat} {l1 : Int64} {l3 : Int64} {M : Mm} (h_l0 : sh l0 = 16) : CT l g yX6_part cX6_part 11 (some .int) 0 [rf g l0, .long l1, .long l3] M (fX6_part l0 l1 l3 M) (fun r => some (.int r)) := by
  refine ct_I rfl hJ (Nat.le_of_ble_eq_true rfl) (fun x r hg hL hl X hf Hr => ?_)
  subst hg
  have Hr2 : RTI x cX6_part .int (Sum.elim (pX6_part x) (fun q => q = r)) Sum.inr := fun v M h => Hr v M h
  have HP : ∀ q, fnl gX6_part q = some r → pX6_part x q := by
    intro q hq
    refine fnl_ind (pX6_part x) (fun q hq => ?_) hq
    obtain ⟨n, l0, l1, l3, l5, l7, M⟩ := q
    match n, hq with
    | 1, hq => exact fun h_l0 ls H locs hl hP hS => sX6_part_6 X hL Hr2 (fun _ h => h) h_l0 hq ls H locs hl hP hS
    | 0, hq => exact trivial
    | n + 2, hq => exact trivial
  exact fun _ ls H locs hl hP hS => sX6_part_0 X hL Hr2 (fun _ h => h) h_l0 (fen_w hf HP) ls H locs hl hP hS
/-! CrumbWoodModel.best()I -/
set_option maxRecDepth 100000 in
def pX6_best (x : SB) (q : Nat × Nat × Int32 × Int32 × Int32 × Mm) : Prop := match q.1 with
  | 1 => sh q.2.1 = 16 → ∀ (ls : Array Slot) (H : Heap) (locs : List Loc), lv_has ls x.2.2.2.1 [(0, rf x.2.1 q.2.1), (1, .int q.2.2.1), (2, .int q.2.2.2.1), (3, .int q.2.2.2.2.1)] → PW x.2.1 (q.2.2.2.2.2) H → SH x H locs → SW x H locs 16 ls []
  | _ => True
set_option maxRecDepth 100000 in
noncomputable def bX6_best_68 (l0 : Nat) (l1 : Int32) (l3 : Int32) (s0 : Int32) (M : Mm) : Option ((Nat × Nat × Int32 × Int32 × Int32 × Mm) ⊕ Int32 × Mm) := some (.inl (1, l0, l1, s0, (l3 + 1), M))
set_option maxRecDepth 100000 in
set_option maxHeartbeats 4000000 in
theorem sX6_best_68 {x : SB} {F : ((Nat × Nat × Int32 × Int32 × Int32 × Mm) ⊕ Int32 × Mm) → Prop} (X : CX x cX6_best RX6 6) (hL : x.2.2.2.1 = 5) (Hr : RTI x cX6_best .int F Sum.inr) (HH : ∀ q, F (.inl q) → pX6_best x q) {l0 : Nat} {l1 : Int32} {l3 : Int32} {s0 : Int32} {M : Mm} (h_l0 : sh l0 = 16) : SIM x F (bX6_best_68 l0 l1 l3 s0 M) 68 [(0, rf x.2.1 l0), (1, .int l1), (3, .int l3)] [.int s0] M := by
  unfold bX6_best_68
  refine r_istore_n [(2, .int s0), (0, rf x.2.1 l0), (1, .int l1), (3, .int l3)] X dX6_best_68 rfl (nlt hL (by decide)) rfl ?_
  refine r_iinc [(3, .int (l3 + 1)), (2, .int s0), (0, rf x.2.1 l0), (1, .int l1)] X dX6_best_69 3 rfl rfl (nlt hL (by decide)) rfl ?_
  refine r_goto 16 X dX6_best_72 (by decide) ?_
  exact r_hdr [(0, rf x.2.1 l0), (1, .int l1), (2, .int s0), (3, .int (l3 + 1))] [2, 3, 1, 0] rfl (fun h => HH _ h h_l0)
set_option maxRecDepth 100000 in
noncomputable def bX6_best_55 (l0 : Nat) (l2 : Int32) (l3 : Int32) (l4 : Int32) (s0 : Int32) (M : Mm) : Option ((Nat × Nat × Int32 × Int32 × Int32 × Mm) ⊕ Int32 × Mm) := if l4 ≤ l2 then bX6_best_68 l0 s0 l3 l2 M else bX6_best_68 l0 s0 l3 l4 M
set_option maxRecDepth 100000 in
set_option maxHeartbeats 4000000 in
theorem sX6_best_55 {x : SB} {F : ((Nat × Nat × Int32 × Int32 × Int32 × Mm) ⊕ Int32 × Mm) → Prop} (X : CX x cX6_best RX6 6) (hL : x.2.2.2.1 = 5) (Hr : RTI x cX6_best .int F Sum.inr) (HH : ∀ q, F (.inl q) → pX6_best x q) {l0 : Nat} {l2 : Int32} {l3 : Int32} {l4 : Int32} {s0 : Int32} {M : Mm} (h_l0 : sh l0 = 16) : SIM x F (bX6_best_55 l0 l2 l3 l4 s0 M) 55 [(0, rf x.2.1 l0), (2, .int l2), (3, .int l3), (4, .int l4)] [.int s0] M := by
  unfold bX6_best_55
  refine r_istore_n [(1, .int s0), (0, rf x.2.1 l0), (2, .int l2), (3, .int l3), (4, .int l4)] X dX6_best_55 rfl (nlt hL (by decide)) rfl ?_
  refine r_iload X dX6_best_56 4 rfl ?_
  refine r_iload_n X dX6_best_58 rfl 2 rfl ?_
  refine r_icmp_le 67 X dX6_best_59 (by decide) ?_ ?_
  · refine r_iload_n X dX6_best_67 rfl 2 rfl ?_
    exact r_to [(0, rf x.2.1 l0), (1, .int s0), (3, .int l3)] [1, 0, 3] rfl (sX6_best_68 X hL Hr HH h_l0)
  · refine r_iload X dX6_best_62 4 rfl ?_
    refine r_goto 68 X dX6_best_64 (by decide) ?_
    exact r_to [(0, rf x.2.1 l0), (1, .int s0), (3, .int l3)] [1, 0, 3] rfl (sX6_best_68 X hL Hr HH h_l0)
set_option maxRecDepth 100000 in
noncomputable def bX6_best_16 (l0 : Nat) (l1 : Int32) (l2 : Int32) (l3 : Int32) (M : Mm) : Option ((Nat × Nat × Int32 × Int32 × Int32 × Mm) ⊕ Int32 × Mm) := gfI M l0 10 fun v1 => if v1 ≤ l3 then gfI M l0 10 fun v2 => cal (fX6_part l0 ((l2 : Int32).toInt64) ((1 : Int64) <<< (v2.toInt64 &&& 63)) M) fun v4 M3 => some (.inr (l1, M3)) else cal (fX6_copyTo l0 0 1 M) fun _ M5 => cal (fX6_drops l0 1 1 l3 M5) fun _ M6 => cal (fX6_homeWays l0 1 M6) fun v8 M7 => if v8 ≤ l2 then bX6_best_55 l0 l2 l3 v8 l1 M7 else bX6_best_55 l0 l2 l3 v8 l3 M7
set_option maxRecDepth 100000 in
set_option maxHeartbeats 4000000 in
theorem sX6_best_16 {x : SB} {F : ((Nat × Nat × Int32 × Int32 × Int32 × Mm) ⊕ Int32 × Mm) → Prop} (X : CX x cX6_best RX6 6) (hL : x.2.2.2.1 = 5) (Hr : RTI x cX6_best .int F Sum.inr) (HH : ∀ q, F (.inl q) → pX6_best x q) {l0 : Nat} {l1 : Int32} {l2 : Int32} {l3 : Int32} {M : Mm} (h_l0 : sh l0 = 16) : SIM x F (bX6_best_16 l0 l1 l2 l3 M) 16 [(0, rf x.2.1 l0), (1, .int l1), (2, .int l2), (3, .int l3)] [] M := by
  unfold bX6_best_16
  refine r_iload_n X dX6_best_16 rfl 3 rfl ?_
  refine r_aload_n X dX6_best_17 rfl 0 rfl ?_
  refine r_getI X fl_X6_167 (by decide) h_l0 dX6_best_18 (fun v1 => ?_)
  refine r_icmp_ge 75 X dX6_best_21 (by decide) ?_ ?_
  · refine r_aload_n X dX6_best_75 rfl 0 rfl ?_
    refine r_iload_n X dX6_best_76 rfl 2 rfl ?_
    refine r_i2l X dX6_best_77 ?_
    refine r_lconst (v := 1) X dX6_best_78 (by decide) ?_
    refine r_aload_n X dX6_best_79 rfl 0 rfl ?_
    refine r_getI X fl_X6_167 (by decide) h_l0 dX6_best_80 (fun v2 => ?_)
    refine r_lshl X dX6_best_83 ?_
    refine r_callVI [.long ((l2 : Int32).toInt64), .long ((1 : Int64) <<< (v2.toInt64 &&& 63))] X mt_X6_278 (by decide) h_l0 (by decide) (okX6_part _ _ X.J h_l0) rfl (Nat.le_of_ble_eq_true rfl) dX6_best_84 rfl (fun v4 M3 => ?_)
    refine r_pop X dX6_best_87 rfl ?_
    refine r_iload_n X dX6_best_88 rfl 1 rfl ?_
    exact r_iret Hr rfl dX6_best_89
  · refine r_aload_n X dX6_best_24 rfl 0 rfl ?_
    refine r_iconst (v := 0) X dX6_best_25 (by decide) ?_
    refine r_iconst (v := 1) X dX6_best_26 (by decide) ?_
    refine r_callVV [.int 0, .int 1] X mt_X6_247 (by decide) h_l0 (by decide) (okX6_copyTo _ _ X.J h_l0) rfl (Nat.le_of_ble_eq_true rfl) dX6_best_27 rfl (fun _ M5 => ?_)
    refine r_aload_n X dX6_best_30 rfl 0 rfl ?_
    refine r_iconst (v := 1) X dX6_best_31 (by decide) ?_
    refine r_iconst (v := 1) X dX6_best_32 (by decide) ?_
    refine r_iload_n X dX6_best_33 rfl 3 rfl ?_
    refine r_callVV [.int 1, .int 1, .int l3] X mt_X6_227 (by decide) h_l0 (by decide) (okX6_drops _ _ X.J h_l0) rfl (Nat.le_of_ble_eq_true rfl) dX6_best_34 rfl (fun _ M6 => ?_)
    refine r_aload_n X dX6_best_37 rfl 0 rfl ?_
    refine r_iconst (v := 1) X dX6_best_38 (by decide) ?_
    refine r_callVI [.int 1] X mt_X6_275 (by decide) h_l0 (by decide) (okX6_homeWays _ _ X.J h_l0) rfl (Nat.le_of_ble_eq_true rfl) dX6_best_39 rfl (fun v8 M7 => ?_)
    refine r_istore [(4, .int v8), (0, rf x.2.1 l0), (1, .int l1), (2, .int l2), (3, .int l3)] X dX6_best_42 (nlt hL (by decide)) rfl ?_
    refine r_iload X dX6_best_44 0 rfl ?_
    refine r_iload_n X dX6_best_46 rfl 3 rfl ?_
    refine r_icmp_le 54 X dX6_best_47 (by decide) ?_ ?_
    · refine r_iload_n X dX6_best_54 rfl 2 rfl ?_
      exact r_to [(0, rf x.2.1 l0), (2, .int l2), (3, .int l3), (4, .int v8)] [1, 3, 4, 0] rfl (sX6_best_55 X hL Hr HH h_l0)
    · refine r_iload_n X dX6_best_50 rfl 4 rfl ?_
      refine r_goto 55 X dX6_best_51 (by decide) ?_
      exact r_to [(0, rf x.2.1 l0), (2, .int l2), (3, .int l3), (4, .int v8)] [1, 3, 4, 0] rfl (sX6_best_55 X hL Hr HH h_l0)
set_option maxRecDepth 100000 in
noncomputable def bX6_best_0 (l0 : Nat) (M : Mm) : Option ((Nat × Nat × Int32 × Int32 × Int32 × Mm) ⊕ Int32 × Mm) := gfI M l0 10 fun v9 => if v9 = 0 then some (.inr ((-4), M)) else some (.inl (1, l0, 0, (-1), 0, M))
set_option maxRecDepth 100000 in
set_option maxHeartbeats 4000000 in
theorem sX6_best_0 {x : SB} {F : ((Nat × Nat × Int32 × Int32 × Int32 × Mm) ⊕ Int32 × Mm) → Prop} (X : CX x cX6_best RX6 6) (hL : x.2.2.2.1 = 5) (Hr : RTI x cX6_best .int F Sum.inr) (HH : ∀ q, F (.inl q) → pX6_best x q) {l0 : Nat} {M : Mm} (h_l0 : sh l0 = 16) : SIM x F (bX6_best_0 l0 M) 0 [(0, rf x.2.1 l0)] [] M := by
  unfold bX6_best_0
  refine r_aload_n X dX6_best_0 rfl 0 rfl ?_
  refine r_getI X fl_X6_167 (by decide) h_l0 dX6_best_1 (fun v9 => ?_)
  refine r_if_ne 10 X dX6_best_4 (by decide) ?_ ?_
  · refine r_bipush (v := (-4)) X dX6_best_7 (by decide) ?_
    exact r_iret Hr rfl dX6_best_9
  · refine r_iconst (v := 0) X dX6_best_10 (by decide) ?_
    refine r_istore_n [(1, .int 0), (0, rf x.2.1 l0)] X dX6_best_11 rfl (nlt hL (by decide)) rfl ?_
    refine r_iconst (v := (-1)) X dX6_best_12 (by decide) ?_
    refine r_istore_n [(2, .int (-1)), (1, .int 0), (0, rf x.2.1 l0)] X dX6_best_13 rfl (nlt hL (by decide)) rfl ?_
    refine r_iconst (v := 0) X dX6_best_14 (by decide) ?_
    refine r_istore_n [(3, .int 0), (2, .int (-1)), (1, .int 0), (0, rf x.2.1 l0)] X dX6_best_15 rfl (nlt hL (by decide)) rfl ?_
    exact r_hdr [(0, rf x.2.1 l0), (1, .int 0), (2, .int (-1)), (3, .int 0)] [3, 2, 1, 0] rfl (fun h => HH _ h h_l0)
set_option maxRecDepth 100000 in
noncomputable def gX6_best (q : Nat × Nat × Int32 × Int32 × Int32 × Mm) : Option ((Nat × Nat × Int32 × Int32 × Int32 × Mm) ⊕ Int32 × Mm) := match q.1 with
  | 1 => bX6_best_16 (q.2.1) (q.2.2.1) (q.2.2.2.1) (q.2.2.2.2.1) (q.2.2.2.2.2)
  | _ => none
set_option maxRecDepth 100000 in
noncomputable def fX6_best (l0 : Nat) (M : Mm) : Option (Int32 × Mm) := fen gX6_best (bX6_best_0 l0 M)
set_option maxRecDepth 100000 in
set_option maxHeartbeats 4000000 in
theorem okX6_best (l : Launch) (g : GX) (hJ : IJ g) {l0 : Nat} {M : Mm} (h_l0 : sh l0 = 16) : CT l g yX6_best cX6_best 5 (some .int) 6 [rf g l0] M (fX6_best l0 M) (fun r => some (.int r)) := by
  refine ct_I rfl hJ (Nat.le_of_ble_eq_true rfl) (fun x r hg hL hl X hf Hr => ?_)
  subst hg
  have Hr2 : RTI x cX6_best .int (Sum.elim (pX6_best x) (fun q => q = r)) Sum.inr := fun v M h => Hr v M h
  have HP : ∀ q, fnl gX6_best q = some r → pX6_best x q := by
    intro q hq
    refine fnl_ind (pX6_best x) (fun q hq => ?_) hq
    obtain ⟨n, l0, l1, l2, l3, M⟩ := q
    match n, hq with
    | 1, hq => exact fun h_l0 ls H locs hl hP hS => sX6_best_16 X hL Hr2 (fun _ h => h) h_l0 hq ls H locs hl hP hS
    | 0, hq => exact trivial
    | n + 2, hq => exact trivial
  exact fun _ ls H locs hl hP hS => sX6_best_0 X hL Hr2 (fun _ h => h) h_l0 (fen_w hf HP) ls H locs hl hP hS
/-! CrumbWoodModel.bird(I)I -/
set_option maxRecDepth 100000 in
noncomputable def fX6_bird (l0 : Nat) (l1 : Int32) (M : Mm) : Option (Int32 × Mm) := gfI M l0 11 fun v1 => cal (fX6_in l1 0 (v1 - 1) M) fun v3 M2 => if v3 = 0 then some (((-1), M2)) else cal (fX6_v l0 0 32 l1 M2) fun v5 M4 => cal (fX6_nextOf l0 v5 M4) fun v7 M6 => cal (fX6_v l0 0 32 l1 M6) fun v9 M8 => cal (fX6_tells l0 v7 v9 M8) fun v11 M10 => some ((v11, M10))
set_option maxRecDepth 100000 in
set_option maxHeartbeats 4000000 in
theorem sX6_bird_0 {x : SB} {F : (Int32 × Mm) → Prop} (X : CX x cX6_bird RX6 2) (hL : x.2.2.2.1 = 2) (Hr : RTI x cX6_bird .int F (fun q => q)) {l0 : Nat} {l1 : Int32} {M : Mm} (h_l0 : sh l0 = 16) : SIM x F (fX6_bird l0 l1 M) 0 [(0, rf x.2.1 l0), (1, .int l1)] [] M := by
  unfold fX6_bird
  refine r_iload_n X dX6_bird_0 rfl 1 rfl ?_
  refine r_iconst (v := 0) X dX6_bird_1 (by decide) ?_
  refine r_aload_n X dX6_bird_2 rfl 0 rfl ?_
  refine r_getI X fl_X6_170 (by decide) h_l0 dX6_bird_3 (fun v1 => ?_)
  refine r_iconst (v := 1) X dX6_bird_6 (by decide) ?_
  refine r_isub X dX6_bird_7 ?_
  refine r_callSI [.int l1, .int 0, .int (v1 - 1)] X mt_X6_92 (by decide) (okX6_in _ _ X.J) rfl (Nat.le_of_ble_eq_true rfl) dX6_bird_8 rfl (fun v3 M2 => ?_)
  refine r_if_ne 16 X dX6_bird_11 (by decide) ?_ ?_
  · refine r_iconst (v := (-1)) X dX6_bird_14 (by decide) ?_
    exact r_iret Hr rfl dX6_bird_15
  · refine r_aload_n X dX6_bird_16 rfl 0 rfl ?_
    refine r_aload_n X dX6_bird_17 rfl 0 rfl ?_
    refine r_aload_n X dX6_bird_18 rfl 0 rfl ?_
    refine r_iconst (v := 0) X dX6_bird_19 (by decide) ?_
    refine r_bipush (v := 32) X dX6_bird_20 (by decide) ?_
    refine r_iload_n X dX6_bird_22 rfl 1 rfl ?_
    refine r_callVI [.int 0, .int 32, .int l1] X mt_X6_180 (by decide) h_l0 (by decide) (okX6_v _ _ X.J h_l0) rfl (Nat.le_of_ble_eq_true rfl) dX6_bird_23 rfl (fun v5 M4 => ?_)
    refine r_callVI [.int v5] X mt_X6_202 (by decide) h_l0 (by decide) (okX6_nextOf _ _ X.J h_l0) rfl (Nat.le_of_ble_eq_true rfl) dX6_bird_26 rfl (fun v7 M6 => ?_)
    refine r_aload_n X dX6_bird_29 rfl 0 rfl ?_
    refine r_iconst (v := 0) X dX6_bird_30 (by decide) ?_
    refine r_bipush (v := 32) X dX6_bird_31 (by decide) ?_
    refine r_iload_n X dX6_bird_33 rfl 1 rfl ?_
    refine r_callVI [.int 0, .int 32, .int l1] X mt_X6_180 (by decide) h_l0 (by decide) (okX6_v _ _ X.J h_l0) rfl (Nat.le_of_ble_eq_true rfl) dX6_bird_34 rfl (fun v9 M8 => ?_)
    refine r_callVI [.int v7, .int v9] X mt_X6_114 (by decide) h_l0 (by decide) (okX6_tells _ _ X.J h_l0) rfl (Nat.le_of_ble_eq_true rfl) dX6_bird_37 rfl (fun v11 M10 => ?_)
    exact r_iret Hr rfl dX6_bird_40
set_option maxRecDepth 100000 in
set_option maxHeartbeats 4000000 in
theorem okX6_bird (l : Launch) (g : GX) (hJ : IJ g) {l0 : Nat} {l1 : Int32} {M : Mm} (h_l0 : sh l0 = 16) : CT l g yX6_bird cX6_bird 2 (some .int) 2 [rf g l0, .int l1] M (fX6_bird l0 l1 M) (fun r => some (.int r)) := by
  refine ct_I rfl hJ (Nat.le_of_ble_eq_true rfl) (fun x r hg hL hl X hf Hr => ?_)
  subst hg
  exact fun _ ls H locs hl hP hS => sX6_bird_0 X hL Hr h_l0 ⟨_, hf, rfl⟩ ls H locs hl hP hS
/-! CrumbWoodModel.bits(I)I -/
set_option maxRecDepth 100000 in
def pX6_bits (x : SB) (q : Nat × Int32 × Int32 × Mm) : Prop := match q.1 with
  | 1 => ∀ (ls : Array Slot) (H : Heap) (locs : List Loc), lv_has ls x.2.2.2.1 [(1, .int q.2.1), (2, .int q.2.2.1)] → PW x.2.1 (q.2.2.2) H → SH x H locs → SW x H locs 4 ls []
  | _ => True
set_option maxRecDepth 100000 in
noncomputable def bX6_bits_4 (l1 : Int32) (l2 : Int32) (M : Mm) : Option ((Nat × Int32 × Int32 × Mm) ⊕ Int32 × Mm) := if l2 = 0 then some (.inr (l1, M)) else ltI (l2 &&& (l2 - 1)) fun v1 => some (.inl (1, (l1 + 1), v1, M))
set_option maxRecDepth 100000 in
set_option maxHeartbeats 4000000 in
theorem sX6_bits_4 {x : SB} {F : ((Nat × Int32 × Int32 × Mm) ⊕ Int32 × Mm) → Prop} (X : CX x cX6_bits RX6 0) (hL : x.2.2.2.1 = 3) (Hr : RTI x cX6_bits .int F Sum.inr) (HH : ∀ q, F (.inl q) → pX6_bits x q) {l1 : Int32} {l2 : Int32} {M : Mm}  : SIM x F (bX6_bits_4 l1 l2 M) 4 [(1, .int l1), (2, .int l2)] [] M := by
  unfold bX6_bits_4
  refine r_iload_n X dX6_bits_4 rfl 1 rfl ?_
  refine r_if_eq 20 X dX6_bits_5 (by decide) ?_ ?_
  · refine r_iload_n X dX6_bits_20 rfl 0 rfl ?_
    exact r_iret Hr rfl dX6_bits_21
  · refine r_iinc [(1, .int (l1 + 1)), (2, .int l2)] X dX6_bits_8 0 rfl rfl (nlt hL (by decide)) rfl ?_
    refine r_iload_n X dX6_bits_11 rfl 1 rfl ?_
    refine r_iload_n X dX6_bits_12 rfl 1 rfl ?_
    refine r_iconst (v := 1) X dX6_bits_13 (by decide) ?_
    refine r_isub X dX6_bits_14 ?_
    refine r_iand X dX6_bits_15 ?_
    refine r_letI (fun v1 => ?_)
    refine r_istore_n [(2, .int v1), (1, .int (l1 + 1))] X dX6_bits_16 rfl (nlt hL (by decide)) rfl ?_
    refine r_goto 4 X dX6_bits_17 (by decide) ?_
    exact r_hdr [(1, .int (l1 + 1)), (2, .int v1)] [1, 0] rfl (fun h => HH _ h)
set_option maxRecDepth 100000 in
noncomputable def bX6_bits_0 (l0 : Int32) (M : Mm) : Option ((Nat × Int32 × Int32 × Mm) ⊕ Int32 × Mm) := some (.inl (1, 0, l0, M))
set_option maxRecDepth 100000 in
set_option maxHeartbeats 4000000 in
theorem sX6_bits_0 {x : SB} {F : ((Nat × Int32 × Int32 × Mm) ⊕ Int32 × Mm) → Prop} (X : CX x cX6_bits RX6 0) (hL : x.2.2.2.1 = 3) (Hr : RTI x cX6_bits .int F Sum.inr) (HH : ∀ q, F (.inl q) → pX6_bits x q) {l0 : Int32} {M : Mm}  : SIM x F (bX6_bits_0 l0 M) 0 [(0, .int l0)] [] M := by
  unfold bX6_bits_0
  refine r_iconst (v := 0) X dX6_bits_0 (by decide) ?_
  refine r_istore_n [(1, .int 0), (0, .int l0)] X dX6_bits_1 rfl (nlt hL (by decide)) rfl ?_
  refine r_iload_n X dX6_bits_2 rfl 1 rfl ?_
  refine r_istore_n [(2, .int l0), (1, .int 0), (0, .int l0)] X dX6_bits_3 rfl (nlt hL (by decide)) rfl ?_
  exact r_hdr [(1, .int 0), (2, .int l0)] [1, 0] rfl (fun h => HH _ h)
set_option maxRecDepth 100000 in
noncomputable def gX6_bits (q : Nat × Int32 × Int32 × Mm) : Option ((Nat × Int32 × Int32 × Mm) ⊕ Int32 × Mm) := match q.1 with
  | 1 => bX6_bits_4 (q.2.1) (q.2.2.1) (q.2.2.2)
  | _ => none
set_option maxRecDepth 100000 in
noncomputable def fX6_bits (l0 : Int32) (M : Mm) : Option (Int32 × Mm) := fen gX6_bits (bX6_bits_0 l0 M)
set_option maxRecDepth 100000 in
set_option maxHeartbeats 4000000 in
theorem okX6_bits (l : Launch) (g : GX) (hJ : IJ g) {l0 : Int32} {M : Mm}  : CT l g yX6_bits cX6_bits 3 (some .int) 0 [.int l0] M (fX6_bits l0 M) (fun r => some (.int r)) := by
  refine ct_I rfl hJ (Nat.le_of_ble_eq_true rfl) (fun x r hg hL hl X hf Hr => ?_)
  subst hg
  have Hr2 : RTI x cX6_bits .int (Sum.elim (pX6_bits x) (fun q => q = r)) Sum.inr := fun v M h => Hr v M h
  have HP : ∀ q, fnl gX6_bits q = some r → pX6_bits x q := by
    intro q hq
    refine fnl_ind (pX6_bits x) (fun q hq => ?_) hq
    obtain ⟨n, l1, l2, M⟩ := q
    match n, hq with
    | 1, hq => exact fun ls H locs hl hP hS => sX6_bits_4 X hL Hr2 (fun _ h => h)  hq ls H locs hl hP hS
    | 0, hq => exact trivial
    | n + 2, hq => exact trivial
  exact fun _ ls H locs hl hP hS => sX6_bits_0 X hL Hr2 (fun _ h => h) (fen_w hf HP) ls H locs hl hP hS
/-! CrumbWoodModel.hoursOf(II)I -/
set_option maxRecDepth 100000 in
def pX6_hoursOf (x : SB) (q : Nat × Nat × Int32 × Int32 × Int32 × Int32 × Mm) : Prop := match q.1 with
  | 1 => sh q.2.1 = 16 → ∀ (ls : Array Slot) (H : Heap) (locs : List Loc), lv_has ls x.2.2.2.1 [(0, rf x.2.1 q.2.1), (1, .int q.2.2.1), (2, .int q.2.2.2.1), (3, .int q.2.2.2.2.1), (4, .int q.2.2.2.2.2.1)] → PW x.2.1 (q.2.2.2.2.2.2) H → SH x H locs → SW x H locs 5 ls []
  | _ => True
set_option maxRecDepth 100000 in
noncomputable def bX6_hoursOf_5 (l0 : Nat) (l1 : Int32) (l2 : Int32) (l3 : Int32) (l4 : Int32) (M : Mm) : Option ((Nat × Nat × Int32 × Int32 × Int32 × Int32 × Mm) ⊕ Int32 × Mm) := if l2 ≤ l4 then some (.inr (l3, M)) else cal (fX6_hourOf l0 l1 M) fun v2 M1 => ltI (l3 + v2) fun v3 => some (.inl (1, l0, l1, l2, v3, (l4 + 1), M1))
set_option maxRecDepth 100000 in
set_option maxHeartbeats 4000000 in
theorem sX6_hoursOf_5 {x : SB} {F : ((Nat × Nat × Int32 × Int32 × Int32 × Int32 × Mm) ⊕ Int32 × Mm) → Prop} (X : CX x cX6_hoursOf RX6 4) (hL : x.2.2.2.1 = 5) (Hr : RTI x cX6_hoursOf .int F Sum.inr) (HH : ∀ q, F (.inl q) → pX6_hoursOf x q) {l0 : Nat} {l1 : Int32} {l2 : Int32} {l3 : Int32} {l4 : Int32} {M : Mm} (h_l0 : sh l0 = 16) : SIM x F (bX6_hoursOf_5 l0 l1 l2 l3 l4 M) 5 [(0, rf x.2.1 l0), (1, .int l1), (2, .int l2), (3, .int l3), (4, .int l4)] [] M := by
  unfold bX6_hoursOf_5
  refine r_iload X dX6_hoursOf_5 4 rfl ?_
  refine r_iload_n X dX6_hoursOf_7 rfl 2 rfl ?_
  refine r_icmp_ge 25 X dX6_hoursOf_8 (by decide) ?_ ?_
  · refine r_iload_n X dX6_hoursOf_25 rfl 3 rfl ?_
    exact r_iret Hr rfl dX6_hoursOf_26
  · refine r_iload_n X dX6_hoursOf_11 rfl 3 rfl ?_
    refine r_aload_n X dX6_hoursOf_12 rfl 0 rfl ?_
    refine r_iload_n X dX6_hoursOf_13 rfl 1 rfl ?_
    refine r_callVI [.int l1] X mt_X6_205 (by decide) h_l0 (by decide) (okX6_hourOf _ _ X.J h_l0) rfl (Nat.le_of_ble_eq_true rfl) dX6_hoursOf_14 rfl (fun v2 M1 => ?_)
    refine r_iadd X dX6_hoursOf_17 ?_
    refine r_letI (fun v3 => ?_)
    refine r_istore_n [(3, .int v3), (0, rf x.2.1 l0), (1, .int l1), (2, .int l2), (4, .int l4)] X dX6_hoursOf_18 rfl (nlt hL (by decide)) rfl ?_
    refine r_iinc [(4, .int (l4 + 1)), (3, .int v3), (0, rf x.2.1 l0), (1, .int l1), (2, .int l2)] X dX6_hoursOf_19 4 rfl rfl (nlt hL (by decide)) rfl ?_
    refine r_goto 5 X dX6_hoursOf_22 (by decide) ?_
    exact r_hdr [(0, rf x.2.1 l0), (1, .int l1), (2, .int l2), (3, .int v3), (4, .int (l4 + 1))] [2, 3, 4, 1, 0] rfl (fun h => HH _ h h_l0)
set_option maxRecDepth 100000 in
noncomputable def bX6_hoursOf_0 (l0 : Nat) (l1 : Int32) (l2 : Int32) (M : Mm) : Option ((Nat × Nat × Int32 × Int32 × Int32 × Int32 × Mm) ⊕ Int32 × Mm) := some (.inl (1, l0, l1, l2, 0, 0, M))
set_option maxRecDepth 100000 in
set_option maxHeartbeats 4000000 in
theorem sX6_hoursOf_0 {x : SB} {F : ((Nat × Nat × Int32 × Int32 × Int32 × Int32 × Mm) ⊕ Int32 × Mm) → Prop} (X : CX x cX6_hoursOf RX6 4) (hL : x.2.2.2.1 = 5) (Hr : RTI x cX6_hoursOf .int F Sum.inr) (HH : ∀ q, F (.inl q) → pX6_hoursOf x q) {l0 : Nat} {l1 : Int32} {l2 : Int32} {M : Mm} (h_l0 : sh l0 = 16) : SIM x F (bX6_hoursOf_0 l0 l1 l2 M) 0 [(0, rf x.2.1 l0), (1, .int l1), (2, .int l2)] [] M := by
  unfold bX6_hoursOf_0
  refine r_iconst (v := 0) X dX6_hoursOf_0 (by decide) ?_
  refine r_istore_n [(3, .int 0), (0, rf x.2.1 l0), (1, .int l1), (2, .int l2)] X dX6_hoursOf_1 rfl (nlt hL (by decide)) rfl ?_
  refine r_iconst (v := 0) X dX6_hoursOf_2 (by decide) ?_
  refine r_istore [(4, .int 0), (3, .int 0), (0, rf x.2.1 l0), (1, .int l1), (2, .int l2)] X dX6_hoursOf_3 (nlt hL (by decide)) rfl ?_
  exact r_hdr [(0, rf x.2.1 l0), (1, .int l1), (2, .int l2), (3, .int 0), (4, .int 0)] [2, 3, 4, 1, 0] rfl (fun h => HH _ h h_l0)
set_option maxRecDepth 100000 in
noncomputable def gX6_hoursOf (q : Nat × Nat × Int32 × Int32 × Int32 × Int32 × Mm) : Option ((Nat × Nat × Int32 × Int32 × Int32 × Int32 × Mm) ⊕ Int32 × Mm) := match q.1 with
  | 1 => bX6_hoursOf_5 (q.2.1) (q.2.2.1) (q.2.2.2.1) (q.2.2.2.2.1) (q.2.2.2.2.2.1) (q.2.2.2.2.2.2)
  | _ => none
set_option maxRecDepth 100000 in
noncomputable def fX6_hoursOf (l0 : Nat) (l1 : Int32) (l2 : Int32) (M : Mm) : Option (Int32 × Mm) := fen gX6_hoursOf (bX6_hoursOf_0 l0 l1 l2 M)
set_option maxRecDepth 100000 in
set_option maxHeartbeats 4000000 in
theorem okX6_hoursOf (l : Launch) (g : GX) (hJ : IJ g) {l0 : Nat} {l1 : Int32} {l2 : Int32} {M : Mm} (h_l0 : sh l0 = 16) : CT l g yX6_hoursOf cX6_hoursOf 5 (some .int) 4 [rf g l0, .int l1, .int l2] M (fX6_hoursOf l0 l1 l2 M) (fun r => some (.int r)) := by
  refine ct_I rfl hJ (Nat.le_of_ble_eq_true rfl) (fun x r hg hL hl X hf Hr => ?_)
  subst hg
  have Hr2 : RTI x cX6_hoursOf .int (Sum.elim (pX6_hoursOf x) (fun q => q = r)) Sum.inr := fun v M h => Hr v M h
  have HP : ∀ q, fnl gX6_hoursOf q = some r → pX6_hoursOf x q := by
    intro q hq
    refine fnl_ind (pX6_hoursOf x) (fun q hq => ?_) hq
    obtain ⟨n, l0, l1, l2, l3, l4, M⟩ := q
    match n, hq with
    | 1, hq => exact fun h_l0 ls H locs hl hP hS => sX6_hoursOf_5 X hL Hr2 (fun _ h => h) h_l0 hq ls H locs hl hP hS
    | 0, hq => exact trivial
    | n + 2, hq => exact trivial
  exact fun _ ls H locs hl hP hS => sX6_hoursOf_0 X hL Hr2 (fun _ h => h) h_l0 (fen_w hf HP) ls H locs hl hP hS
/-! CrumbWoodModel.bringsHome(IIZ)Z -/
set_option maxRecDepth 100000 in
def pX6_bringsHome (x : SB) (q : Nat × Nat × Int32 × Int32 × Int32 × Int32 × Int32 × Int32 × Mm) : Prop := match q.1 with
  | 1 => sh q.2.1 = 16 → ∀ (ls : Array Slot) (H : Heap) (locs : List Loc), lv_has ls x.2.2.2.1 [(0, rf x.2.1 q.2.1), (1, .int q.2.2.1), (2, .int q.2.2.2.1), (3, .int q.2.2.2.2.1), (4, .int q.2.2.2.2.2.1)] → PW x.2.1 (q.2.2.2.2.2.2.2.2) H → SH x H locs → SW x H locs 9 ls []
  | 2 => sh q.2.1 = 16 → ∀ (ls : Array Slot) (H : Heap) (locs : List Loc), lv_has ls x.2.2.2.1 [(0, rf x.2.1 q.2.1), (3, .int q.2.2.2.2.1), (4, .int q.2.2.2.2.2.1), (5, .int q.2.2.2.2.2.2.1)] → PW x.2.1 (q.2.2.2.2.2.2.2.2) H → SH x H locs → SW x H locs 76 ls []
  | 3 => sh q.2.1 = 16 → ∀ (ls : Array Slot) (H : Heap) (locs : List Loc), lv_has ls x.2.2.2.1 [(0, rf x.2.1 q.2.1), (3, .int q.2.2.2.2.1), (5, .int q.2.2.2.2.2.2.1), (6, .int q.2.2.2.2.2.2.2.1)] → PW x.2.1 (q.2.2.2.2.2.2.2.2) H → SH x H locs → SW x H locs 103 ls []
  | _ => True
set_option maxRecDepth 100000 in
noncomputable def bX6_bringsHome_142 (l4 : Int32) (M : Mm) : Option ((Nat × Nat × Int32 × Int32 × Int32 × Int32 × Int32 × Int32 × Mm) ⊕ Int32 × Mm) := rz l4 (some (.inr (l4, M)))
set_option maxRecDepth 100000 in
set_option maxHeartbeats 4000000 in
theorem sX6_bringsHome_142 {x : SB} {F : ((Nat × Nat × Int32 × Int32 × Int32 × Int32 × Int32 × Int32 × Mm) ⊕ Int32 × Mm) → Prop} (X : CX x cX6_bringsHome RX6 5) (hL : x.2.2.2.1 = 7) (Hr : RTI x cX6_bringsHome .boolean F Sum.inr) (HH : ∀ q, F (.inl q) → pX6_bringsHome x q) {l4 : Int32} {M : Mm}  : SIM x F (bX6_bringsHome_142 l4 M) 142 [(4, .int l4)] [] M := by
  unfold bX6_bringsHome_142
  refine r_iload X dX6_bringsHome_142 0 rfl ?_
  exact r_zret Hr dX6_bringsHome_144
set_option maxRecDepth 100000 in
noncomputable def bX6_bringsHome_103 (l0 : Nat) (l3 : Int32) (l5 : Int32) (l6 : Int32) (M : Mm) : Option ((Nat × Nat × Int32 × Int32 × Int32 × Int32 × Int32 × Int32 × Mm) ⊕ Int32 × Mm) := if 3 ≤ l6 then gfI M l0 38 fun v1 => cal (fX6_follows l0 2 v1 M) fun v3 M2 => some (.inl (2, l0, 0, 0, l3, v3, (l5 + 1), 0, M2)) else cal (fX6_setMarks l0 2 l6 l5 0 M) fun _ M4 => some (.inl (3, l0, 0, 0, l3, 0, l5, (l6 + 1), M4))
set_option maxRecDepth 100000 in
set_option maxHeartbeats 4000000 in
theorem sX6_bringsHome_103 {x : SB} {F : ((Nat × Nat × Int32 × Int32 × Int32 × Int32 × Int32 × Int32 × Mm) ⊕ Int32 × Mm) → Prop} (X : CX x cX6_bringsHome RX6 5) (hL : x.2.2.2.1 = 7) (Hr : RTI x cX6_bringsHome .boolean F Sum.inr) (HH : ∀ q, F (.inl q) → pX6_bringsHome x q) {l0 : Nat} {l3 : Int32} {l5 : Int32} {l6 : Int32} {M : Mm} (h_l0 : sh l0 = 16) : SIM x F (bX6_bringsHome_103 l0 l3 l5 l6 M) 103 [(0, rf x.2.1 l0), (3, .int l3), (5, .int l5), (6, .int l6)] [] M := by
  unfold bX6_bringsHome_103
  refine r_iload X dX6_bringsHome_103 3 rfl ?_
  refine r_iconst (v := 3) X dX6_bringsHome_105 (by decide) ?_
  refine r_icmp_ge 125 X dX6_bringsHome_106 (by decide) ?_ ?_
  · refine r_aload_n X dX6_bringsHome_125 rfl 0 rfl ?_
    refine r_iconst (v := 2) X dX6_bringsHome_126 (by decide) ?_
    refine r_aload_n X dX6_bringsHome_127 rfl 0 rfl ?_
    refine r_getI X fl_X6_251 (by decide) h_l0 dX6_bringsHome_128 (fun v1 => ?_)
    refine r_callVI [.int 2, .int v1] X mt_X6_244 (by decide) h_l0 (by decide) (okX6_follows _ _ X.J h_l0) rfl (Nat.le_of_ble_eq_true rfl) dX6_bringsHome_131 rfl (fun v3 M2 => ?_)
    refine r_istore [(4, .int v3), (0, rf x.2.1 l0), (3, .int l3), (5, .int l5), (6, .int l6)] X dX6_bringsHome_134 (nlt hL (by decide)) rfl ?_
    refine r_iinc [(5, .int (l5 + 1)), (4, .int v3), (0, rf x.2.1 l0), (3, .int l3), (6, .int l6)] X dX6_bringsHome_136 3 rfl rfl (nlt hL (by decide)) rfl ?_
    refine r_goto 76 X dX6_bringsHome_139 (by decide) ?_
    exact r_hdr [(0, rf x.2.1 l0), (3, .int l3), (4, .int v3), (5, .int (l5 + 1))] [2, 3, 1, 0] rfl (fun h => HH _ h h_l0)
  · refine r_aload_n X dX6_bringsHome_109 rfl 0 rfl ?_
    refine r_iconst (v := 2) X dX6_bringsHome_110 (by decide) ?_
    refine r_iload X dX6_bringsHome_111 3 rfl ?_
    refine r_iload X dX6_bringsHome_113 2 rfl ?_
    refine r_iconst (v := 0) X dX6_bringsHome_115 (by decide) ?_
    refine r_callVV [.int 2, .int l6, .int l5, .int 0] X mt_X6_187 (by decide) h_l0 (by decide) (okX6_setMarks _ _ X.J h_l0) rfl (Nat.le_of_ble_eq_true rfl) dX6_bringsHome_116 rfl (fun _ M4 => ?_)
    refine r_iinc [(6, .int (l6 + 1)), (0, rf x.2.1 l0), (3, .int l3), (5, .int l5)] X dX6_bringsHome_119 3 rfl rfl (nlt hL (by decide)) rfl ?_
    refine r_goto 103 X dX6_bringsHome_122 (by decide) ?_
    exact r_hdr [(0, rf x.2.1 l0), (3, .int l3), (5, .int l5), (6, .int (l6 + 1))] [1, 2, 3, 0] rfl (fun h => HH _ h h_l0)
set_option maxRecDepth 100000 in
noncomputable def bX6_bringsHome_76 (l0 : Nat) (l3 : Int32) (l4 : Int32) (l5 : Int32) (M : Mm) : Option ((Nat × Nat × Int32 × Int32 × Int32 × Int32 × Int32 × Int32 × Mm) ⊕ Int32 × Mm) := gfI M l0 10 fun v5 => if v5 ≤ l5 then bX6_bringsHome_142 l4 M else if l3 = 0 then bX6_bringsHome_142 l4 M else if l4 = 0 then bX6_bringsHome_142 l4 M else cal (fX6_copyTo l0 1 2 M) fun _ M6 => some (.inl (3, l0, 0, 0, l3, 0, l5, 0, M6))
set_option maxRecDepth 100000 in
set_option maxHeartbeats 4000000 in
theorem sX6_bringsHome_76 {x : SB} {F : ((Nat × Nat × Int32 × Int32 × Int32 × Int32 × Int32 × Int32 × Mm) ⊕ Int32 × Mm) → Prop} (X : CX x cX6_bringsHome RX6 5) (hL : x.2.2.2.1 = 7) (Hr : RTI x cX6_bringsHome .boolean F Sum.inr) (HH : ∀ q, F (.inl q) → pX6_bringsHome x q) {l0 : Nat} {l3 : Int32} {l4 : Int32} {l5 : Int32} {M : Mm} (h_l0 : sh l0 = 16) : SIM x F (bX6_bringsHome_76 l0 l3 l4 l5 M) 76 [(0, rf x.2.1 l0), (3, .int l3), (4, .int l4), (5, .int l5)] [] M := by
  unfold bX6_bringsHome_76
  refine r_iload X dX6_bringsHome_76 3 rfl ?_
  refine r_aload_n X dX6_bringsHome_78 rfl 0 rfl ?_
  refine r_getI X fl_X6_167 (by decide) h_l0 dX6_bringsHome_79 (fun v5 => ?_)
  refine r_icmp_ge 142 X dX6_bringsHome_82 (by decide) ?_ ?_
  · exact r_to [(4, .int l4)] [2] rfl (sX6_bringsHome_142 X hL Hr HH)
  · refine r_iload_n X dX6_bringsHome_85 rfl 1 rfl ?_
    refine r_if_eq 142 X dX6_bringsHome_86 (by decide) ?_ ?_
    · exact r_to [(4, .int l4)] [2] rfl (sX6_bringsHome_142 X hL Hr HH)
    · refine r_iload X dX6_bringsHome_89 2 rfl ?_
      refine r_if_eq 142 X dX6_bringsHome_91 (by decide) ?_ ?_
      · exact r_to [(4, .int l4)] [2] rfl (sX6_bringsHome_142 X hL Hr HH)
      · refine r_aload_n X dX6_bringsHome_94 rfl 0 rfl ?_
        refine r_iconst (v := 1) X dX6_bringsHome_95 (by decide) ?_
        refine r_iconst (v := 2) X dX6_bringsHome_96 (by decide) ?_
        refine r_callVV [.int 1, .int 2] X mt_X6_247 (by decide) h_l0 (by decide) (okX6_copyTo _ _ X.J h_l0) rfl (Nat.le_of_ble_eq_true rfl) dX6_bringsHome_97 rfl (fun _ M6 => ?_)
        refine r_iconst (v := 0) X dX6_bringsHome_100 (by decide) ?_
        refine r_istore [(6, .int 0), (0, rf x.2.1 l0), (3, .int l3), (4, .int l4), (5, .int l5)] X dX6_bringsHome_101 (nlt hL (by decide)) rfl ?_
        exact r_hdr [(0, rf x.2.1 l0), (3, .int l3), (5, .int l5), (6, .int 0)] [1, 2, 4, 0] rfl (fun h => HH _ h h_l0)
set_option maxRecDepth 100000 in
noncomputable def bX6_bringsHome_45 (l0 : Nat) (l1 : Int32) (l2 : Int32) (l3 : Int32) (l4 : Int32) (s0 : Int32) (s1 : Int32) (s2 : Int32) (s3 : Int32) (s4 : Int32) (s5 : Nat) (M : Mm) : Option ((Nat × Nat × Int32 × Int32 × Int32 × Int32 × Int32 × Int32 × Mm) ⊕ Int32 × Mm) := cal (fX6_setMarks s5 s4 s3 s2 (s1 + s0) M) fun _ M7 => some (.inl (1, l0, l1, l2, l3, (l4 + 1), 0, 0, M7))
set_option maxRecDepth 100000 in
set_option maxHeartbeats 4000000 in
theorem sX6_bringsHome_45 {x : SB} {F : ((Nat × Nat × Int32 × Int32 × Int32 × Int32 × Int32 × Int32 × Mm) ⊕ Int32 × Mm) → Prop} (X : CX x cX6_bringsHome RX6 5) (hL : x.2.2.2.1 = 7) (Hr : RTI x cX6_bringsHome .boolean F Sum.inr) (HH : ∀ q, F (.inl q) → pX6_bringsHome x q) {l0 : Nat} {l1 : Int32} {l2 : Int32} {l3 : Int32} {l4 : Int32} {s0 : Int32} {s1 : Int32} {s2 : Int32} {s3 : Int32} {s4 : Int32} {s5 : Nat} {M : Mm} (h_l0 : sh l0 = 16) (h_s5 : sh s5 = 16) : SIM x F (bX6_bringsHome_45 l0 l1 l2 l3 l4 s0 s1 s2 s3 s4 s5 M) 45 [(0, rf x.2.1 l0), (1, .int l1), (2, .int l2), (3, .int l3), (4, .int l4)] [.int s0, .int s1, .int s2, .int s3, .int s4, rf x.2.1 s5] M := by
  unfold bX6_bringsHome_45
  refine r_iadd X dX6_bringsHome_45 ?_
  refine r_callVV [.int s4, .int s3, .int s2, .int (s1 + s0)] X mt_X6_187 (by decide) h_s5 (by decide) (okX6_setMarks _ _ X.J h_s5) rfl (Nat.le_of_ble_eq_true rfl) dX6_bringsHome_46 rfl (fun _ M7 => ?_)
  refine r_iinc [(4, .int (l4 + 1)), (0, rf x.2.1 l0), (1, .int l1), (2, .int l2), (3, .int l3)] X dX6_bringsHome_49 4 rfl rfl (nlt hL (by decide)) rfl ?_
  refine r_goto 9 X dX6_bringsHome_52 (by decide) ?_
  exact r_hdr [(0, rf x.2.1 l0), (1, .int l1), (2, .int l2), (3, .int l3), (4, .int (l4 + 1))] [1, 2, 3, 4, 0] rfl (fun h => HH _ h h_l0)
set_option maxRecDepth 100000 in
noncomputable def bX6_bringsHome_9 (l0 : Nat) (l1 : Int32) (l2 : Int32) (l3 : Int32) (l4 : Int32) (M : Mm) : Option ((Nat × Nat × Int32 × Int32 × Int32 × Int32 × Int32 × Int32 × Mm) ⊕ Int32 × Mm) := gfI M l0 10 fun v8 => if v8 ≤ l4 then cal (fX6_hoursOf l0 1 l2 M) fun v10 M9 => gfI M9 l0 38 fun v11 => cal (fX6_follows l0 1 v11 M9) fun v13 M12 => some (.inl (2, l0, 0, 0, l3, v13, 0, 0, M12)) else cal (fX6_marks l0 1 1 l4 M) fun v15 M14 => cal (fX6_has l1 l4 M14) fun v17 M16 => if v17 = 0 then bX6_bringsHome_45 l0 l1 l2 l3 l4 0 v15 l4 1 1 l0 M16 else bX6_bringsHome_45 l0 l1 l2 l3 l4 1 v15 l4 1 1 l0 M16
set_option maxRecDepth 100000 in
set_option maxHeartbeats 4000000 in
theorem sX6_bringsHome_9 {x : SB} {F : ((Nat × Nat × Int32 × Int32 × Int32 × Int32 × Int32 × Int32 × Mm) ⊕ Int32 × Mm) → Prop} (X : CX x cX6_bringsHome RX6 5) (hL : x.2.2.2.1 = 7) (Hr : RTI x cX6_bringsHome .boolean F Sum.inr) (HH : ∀ q, F (.inl q) → pX6_bringsHome x q) {l0 : Nat} {l1 : Int32} {l2 : Int32} {l3 : Int32} {l4 : Int32} {M : Mm} (h_l0 : sh l0 = 16) : SIM x F (bX6_bringsHome_9 l0 l1 l2 l3 l4 M) 9 [(0, rf x.2.1 l0), (1, .int l1), (2, .int l2), (3, .int l3), (4, .int l4)] [] M := by
  unfold bX6_bringsHome_9
  refine r_iload X dX6_bringsHome_9 4 rfl ?_
  refine r_aload_n X dX6_bringsHome_11 rfl 0 rfl ?_
  refine r_getI X fl_X6_167 (by decide) h_l0 dX6_bringsHome_12 (fun v8 => ?_)
  refine r_icmp_ge 55 X dX6_bringsHome_15 (by decide) ?_ ?_
  · refine r_aload_n X dX6_bringsHome_55 rfl 0 rfl ?_
    refine r_iconst (v := 1) X dX6_bringsHome_56 (by decide) ?_
    refine r_iload_n X dX6_bringsHome_57 rfl 2 rfl ?_
    refine r_callVI [.int 1, .int l2] X mt_X6_231 (by decide) h_l0 (by decide) (okX6_hoursOf _ _ X.J h_l0) rfl (Nat.le_of_ble_eq_true rfl) dX6_bringsHome_58 rfl (fun v10 M9 => ?_)
    refine r_pop X dX6_bringsHome_61 rfl ?_
    refine r_aload_n X dX6_bringsHome_62 rfl 0 rfl ?_
    refine r_iconst (v := 1) X dX6_bringsHome_63 (by decide) ?_
    refine r_aload_n X dX6_bringsHome_64 rfl 0 rfl ?_
    refine r_getI X fl_X6_251 (by decide) h_l0 dX6_bringsHome_65 (fun v11 => ?_)
    refine r_callVI [.int 1, .int v11] X mt_X6_244 (by decide) h_l0 (by decide) (okX6_follows _ _ X.J h_l0) rfl (Nat.le_of_ble_eq_true rfl) dX6_bringsHome_68 rfl (fun v13 M12 => ?_)
    refine r_istore [(4, .int v13), (0, rf x.2.1 l0), (1, .int l1), (2, .int l2), (3, .int l3)] X dX6_bringsHome_71 (nlt hL (by decide)) rfl ?_
    refine r_iconst (v := 0) X dX6_bringsHome_73 (by decide) ?_
    refine r_istore [(5, .int 0), (4, .int v13), (0, rf x.2.1 l0), (1, .int l1), (2, .int l2), (3, .int l3)] X dX6_bringsHome_74 (nlt hL (by decide)) rfl ?_
    exact r_hdr [(0, rf x.2.1 l0), (3, .int l3), (4, .int v13), (5, .int 0)] [2, 5, 1, 0] rfl (fun h => HH _ h h_l0)
  · refine r_aload_n X dX6_bringsHome_18 rfl 0 rfl ?_
    refine r_iconst (v := 1) X dX6_bringsHome_19 (by decide) ?_
    refine r_iconst (v := 1) X dX6_bringsHome_20 (by decide) ?_
    refine r_iload X dX6_bringsHome_21 4 rfl ?_
    refine r_aload_n X dX6_bringsHome_23 rfl 0 rfl ?_
    refine r_iconst (v := 1) X dX6_bringsHome_24 (by decide) ?_
    refine r_iconst (v := 1) X dX6_bringsHome_25 (by decide) ?_
    refine r_iload X dX6_bringsHome_26 4 rfl ?_
    refine r_callVI [.int 1, .int 1, .int l4] X mt_X6_184 (by decide) h_l0 (by decide) (okX6_marks _ _ X.J h_l0) rfl (Nat.le_of_ble_eq_true rfl) dX6_bringsHome_28 rfl (fun v15 M14 => ?_)
    refine r_iload_n X dX6_bringsHome_31 rfl 1 rfl ?_
    refine r_iload X dX6_bringsHome_32 4 rfl ?_
    refine r_callSI [.int l1, .int l4] X mt_X6_145 (by decide) (okX6_has _ _ X.J) rfl (Nat.le_of_ble_eq_true rfl) dX6_bringsHome_34 rfl (fun v17 M16 => ?_)
    refine r_if_eq 44 X dX6_bringsHome_37 (by decide) ?_ ?_
    · refine r_iconst (v := 0) X dX6_bringsHome_44 (by decide) ?_
      exact r_to [(0, rf x.2.1 l0), (1, .int l1), (2, .int l2), (3, .int l3), (4, .int l4)] [0, 1, 2, 3, 4] rfl (sX6_bringsHome_45 X hL Hr HH h_l0 h_l0)
    · refine r_iconst (v := 1) X dX6_bringsHome_40 (by decide) ?_
      refine r_goto 45 X dX6_bringsHome_41 (by decide) ?_
      exact r_to [(0, rf x.2.1 l0), (1, .int l1), (2, .int l2), (3, .int l3), (4, .int l4)] [0, 1, 2, 3, 4] rfl (sX6_bringsHome_45 X hL Hr HH h_l0 h_l0)
set_option maxRecDepth 100000 in
noncomputable def bX6_bringsHome_0 (l0 : Nat) (l1 : Int32) (l2 : Int32) (l3 : Int32) (M : Mm) : Option ((Nat × Nat × Int32 × Int32 × Int32 × Int32 × Int32 × Int32 × Mm) ⊕ Int32 × Mm) := cal (fX6_copyTo l0 0 1 M) fun _ M18 => some (.inl (1, l0, l1, l2, l3, 0, 0, 0, M18))
set_option maxRecDepth 100000 in
set_option maxHeartbeats 4000000 in
theorem sX6_bringsHome_0 {x : SB} {F : ((Nat × Nat × Int32 × Int32 × Int32 × Int32 × Int32 × Int32 × Mm) ⊕ Int32 × Mm) → Prop} (X : CX x cX6_bringsHome RX6 5) (hL : x.2.2.2.1 = 7) (Hr : RTI x cX6_bringsHome .boolean F Sum.inr) (HH : ∀ q, F (.inl q) → pX6_bringsHome x q) {l0 : Nat} {l1 : Int32} {l2 : Int32} {l3 : Int32} {M : Mm} (h_l0 : sh l0 = 16) : SIM x F (bX6_bringsHome_0 l0 l1 l2 l3 M) 0 [(0, rf x.2.1 l0), (1, .int l1), (2, .int l2), (3, .int l3)] [] M := by
  unfold bX6_bringsHome_0
  refine r_aload_n X dX6_bringsHome_0 rfl 0 rfl ?_
  refine r_iconst (v := 0) X dX6_bringsHome_1 (by decide) ?_
  refine r_iconst (v := 1) X dX6_bringsHome_2 (by decide) ?_
  refine r_callVV [.int 0, .int 1] X mt_X6_247 (by decide) h_l0 (by decide) (okX6_copyTo _ _ X.J h_l0) rfl (Nat.le_of_ble_eq_true rfl) dX6_bringsHome_3 rfl (fun _ M18 => ?_)
  refine r_iconst (v := 0) X dX6_bringsHome_6 (by decide) ?_
  refine r_istore [(4, .int 0), (0, rf x.2.1 l0), (1, .int l1), (2, .int l2), (3, .int l3)] X dX6_bringsHome_7 (nlt hL (by decide)) rfl ?_
  exact r_hdr [(0, rf x.2.1 l0), (1, .int l1), (2, .int l2), (3, .int l3), (4, .int 0)] [1, 2, 3, 4, 0] rfl (fun h => HH _ h h_l0)
set_option maxRecDepth 100000 in
noncomputable def gX6_bringsHome (q : Nat × Nat × Int32 × Int32 × Int32 × Int32 × Int32 × Int32 × Mm) : Option ((Nat × Nat × Int32 × Int32 × Int32 × Int32 × Int32 × Int32 × Mm) ⊕ Int32 × Mm) := match q.1 with
  | 1 => bX6_bringsHome_9 (q.2.1) (q.2.2.1) (q.2.2.2.1) (q.2.2.2.2.1) (q.2.2.2.2.2.1) (q.2.2.2.2.2.2.2.2)
  | 2 => bX6_bringsHome_76 (q.2.1) (q.2.2.2.2.1) (q.2.2.2.2.2.1) (q.2.2.2.2.2.2.1) (q.2.2.2.2.2.2.2.2)
  | 3 => bX6_bringsHome_103 (q.2.1) (q.2.2.2.2.1) (q.2.2.2.2.2.2.1) (q.2.2.2.2.2.2.2.1) (q.2.2.2.2.2.2.2.2)
  | _ => none
set_option maxRecDepth 100000 in
noncomputable def fX6_bringsHome (l0 : Nat) (l1 : Int32) (l2 : Int32) (l3 : Int32) (M : Mm) : Option (Int32 × Mm) := fen gX6_bringsHome (bX6_bringsHome_0 l0 l1 l2 l3 M)
set_option maxRecDepth 100000 in
set_option maxHeartbeats 4000000 in
theorem okX6_bringsHome (l : Launch) (g : GX) (hJ : IJ g) {l0 : Nat} {l1 : Int32} {l2 : Int32} {l3 : Int32} {M : Mm} (h_l0 : sh l0 = 16) : CT l g yX6_bringsHome cX6_bringsHome 7 (some .boolean) 5 [rf g l0, .int l1, .int l2, .int l3] M (fX6_bringsHome l0 l1 l2 l3 M) (fun r => some (.int r)) := by
  refine ct_I rfl hJ (Nat.le_of_ble_eq_true rfl) (fun x r hg hL hl X hf Hr => ?_)
  subst hg
  have Hr2 : RTI x cX6_bringsHome .boolean (Sum.elim (pX6_bringsHome x) (fun q => q = r)) Sum.inr := fun v M h => Hr v M h
  have HP : ∀ q, fnl gX6_bringsHome q = some r → pX6_bringsHome x q := by
    intro q hq
    refine fnl_ind (pX6_bringsHome x) (fun q hq => ?_) hq
    obtain ⟨n, l0, l1, l2, l3, l4, l5, l6, M⟩ := q
    match n, hq with
    | 1, hq => exact fun h_l0 ls H locs hl hP hS => sX6_bringsHome_9 X hL Hr2 (fun _ h => h) h_l0 hq ls H locs hl hP hS
    | 2, hq => exact fun h_l0 ls H locs hl hP hS => sX6_bringsHome_76 X hL Hr2 (fun _ h => h) h_l0 hq ls H locs hl hP hS
    | 3, hq => exact fun h_l0 ls H locs hl hP hS => sX6_bringsHome_103 X hL Hr2 (fun _ h => h) h_l0 hq ls H locs hl hP hS
    | 0, hq => exact trivial
    | n + 4, hq => exact trivial
  exact fun _ ls H locs hl hP hS => sX6_bringsHome_0 X hL Hr2 (fun _ h => h) h_l0 (fen_w hf HP) ls H locs hl hP hS
/-! CrumbWoodModel.byteAt(II)I -/
set_option maxRecDepth 100000 in
noncomputable def fX6_byteAt (l0 : Nat) (l1 : Int32) (l2 : Int32) (M : Mm) : Option (Int32 × Mm) := gfR M 0 l0 8 fun v1 => ldI M v1 l1 fun v2 => if v2 ≤ l2 then some ((0, M)) else gfR M 1 l0 9 fun v3 => ldI M v3 (((80 : Int32) * l1) + l2) fun v4 => some ((v4, M))
set_option maxRecDepth 100000 in
set_option maxHeartbeats 4000000 in
theorem sX6_byteAt_0 {x : SB} {F : (Int32 × Mm) → Prop} (X : CX x cX6_byteAt RX6 0) (hL : x.2.2.2.1 = 3) (Hr : RTI x cX6_byteAt .int F (fun q => q)) {l0 : Nat} {l1 : Int32} {l2 : Int32} {M : Mm} (h_l0 : sh l0 = 16) : SIM x F (fX6_byteAt l0 l1 l2 M) 0 [(0, rf x.2.1 l0), (1, .int l1), (2, .int l2)] [] M := by
  unfold fX6_byteAt
  refine r_iload_n X dX6_byteAt_0 rfl 2 rfl ?_
  refine r_aload_n X dX6_byteAt_1 rfl 0 rfl ?_
  refine r_getR X fl_X6_26 (by decide) h_l0 dX6_byteAt_2 (fun v1 h_v1 => ?_)
  refine r_iload_n X dX6_byteAt_5 rfl 1 rfl ?_
  refine r_iald X h_v1 dX6_byteAt_6 (fun v2 => ?_)
  refine r_icmp_ge 24 X dX6_byteAt_7 (by decide) ?_ ?_
  · refine r_iconst (v := 0) X dX6_byteAt_24 (by decide) ?_
    exact r_iret Hr rfl dX6_byteAt_25
  · refine r_aload_n X dX6_byteAt_10 rfl 0 rfl ?_
    refine r_getR X fl_X6_29 (by decide) h_l0 dX6_byteAt_11 (fun v3 h_v3 => ?_)
    refine r_bipush (v := 80) X dX6_byteAt_14 (by decide) ?_
    refine r_iload_n X dX6_byteAt_16 rfl 1 rfl ?_
    refine r_imul X dX6_byteAt_17 ?_
    refine r_iload_n X dX6_byteAt_18 rfl 2 rfl ?_
    refine r_iadd X dX6_byteAt_19 ?_
    refine r_bald X h_v3 dX6_byteAt_20 (fun v4 => ?_)
    refine r_goto 25 X dX6_byteAt_21 (by decide) ?_
    exact r_iret Hr rfl dX6_byteAt_25
set_option maxRecDepth 100000 in
set_option maxHeartbeats 4000000 in
theorem okX6_byteAt (l : Launch) (g : GX) (hJ : IJ g) {l0 : Nat} {l1 : Int32} {l2 : Int32} {M : Mm} (h_l0 : sh l0 = 16) : CT l g yX6_byteAt cX6_byteAt 3 (some .int) 0 [rf g l0, .int l1, .int l2] M (fX6_byteAt l0 l1 l2 M) (fun r => some (.int r)) := by
  refine ct_I rfl hJ (Nat.le_of_ble_eq_true rfl) (fun x r hg hL hl X hf Hr => ?_)
  subst hg
  exact fun _ ls H locs hl hP hS => sX6_byteAt_0 X hL Hr h_l0 ⟨_, hf, rfl⟩ ls H locs hl hP hS
/-! CrumbWoodModel.copy(IIIII)I -/
set_option maxRecDepth 100000 in
def pX6_copy (x : SB) (q : Nat × Nat × Int32 × Int32 × Int32 × Int32 × Int32 × Int32 × Mm) : Prop := match q.1 with
  | 1 => sh q.2.1 = 16 → ∀ (ls : Array Slot) (H : Heap) (locs : List Loc), lv_has ls x.2.2.2.1 [(0, rf x.2.1 q.2.1), (1, .int q.2.2.1), (2, .int q.2.2.2.1), (3, .int q.2.2.2.2.1), (4, .int q.2.2.2.2.2.1), (5, .int q.2.2.2.2.2.2.1), (6, .int q.2.2.2.2.2.2.2.1)] → PW x.2.1 (q.2.2.2.2.2.2.2.2) H → SH x H locs → SW x H locs 104 ls []
  | 2 => sh q.2.1 = 16 → ∀ (ls : Array Slot) (H : Heap) (locs : List Loc), lv_has ls x.2.2.2.1 [(0, rf x.2.1 q.2.1), (3, .int q.2.2.2.2.1), (4, .int q.2.2.2.2.2.1), (5, .int q.2.2.2.2.2.2.1), (6, .int q.2.2.2.2.2.2.2.1)] → PW x.2.1 (q.2.2.2.2.2.2.2.2) H → SH x H locs → SW x H locs 136 ls []
  | _ => True
set_option maxRecDepth 100000 in
noncomputable def bX6_copy_136 (l0 : Nat) (l3 : Int32) (l4 : Int32) (l5 : Int32) (l6 : Int32) (M : Mm) : Option ((Nat × Nat × Int32 × Int32 × Int32 × Int32 × Int32 × Int32 × Mm) ⊕ Int32 × Mm) := if l5 ≤ l6 then some (.inr (1, M)) else gfR M 0 l0 6 fun v1 => gfR M 0 l0 7 fun v2 => ldI M v2 l6 fun v3 => stI M v1 ((((40 : Int32) * l3) + l4) + l6) v3 fun M4 => some (.inl (2, l0, 0, 0, l3, l4, l5, (l6 + 1), M4))
set_option maxRecDepth 100000 in
set_option maxHeartbeats 4000000 in
theorem sX6_copy_136 {x : SB} {F : ((Nat × Nat × Int32 × Int32 × Int32 × Int32 × Int32 × Int32 × Mm) ⊕ Int32 × Mm) → Prop} (X : CX x cX6_copy RX6 2) (hL : x.2.2.2.1 = 7) (Hr : RTI x cX6_copy .int F Sum.inr) (HH : ∀ q, F (.inl q) → pX6_copy x q) {l0 : Nat} {l3 : Int32} {l4 : Int32} {l5 : Int32} {l6 : Int32} {M : Mm} (h_l0 : sh l0 = 16) : SIM x F (bX6_copy_136 l0 l3 l4 l5 l6 M) 136 [(0, rf x.2.1 l0), (3, .int l3), (4, .int l4), (5, .int l5), (6, .int l6)] [] M := by
  unfold bX6_copy_136
  refine r_iload X dX6_copy_136 4 rfl ?_
  refine r_iload X dX6_copy_138 3 rfl ?_
  refine r_icmp_ge 171 X dX6_copy_140 (by decide) ?_ ?_
  · refine r_iconst (v := 1) X dX6_copy_171 (by decide) ?_
    exact r_iret Hr rfl dX6_copy_172
  · refine r_aload_n X dX6_copy_143 rfl 0 rfl ?_
    refine r_getR X fl_X6_20 (by decide) h_l0 dX6_copy_144 (fun v1 h_v1 => ?_)
    refine r_bipush (v := 40) X dX6_copy_147 (by decide) ?_
    refine r_iload_n X dX6_copy_149 rfl 1 rfl ?_
    refine r_imul X dX6_copy_150 ?_
    refine r_iload X dX6_copy_151 2 rfl ?_
    refine r_iadd X dX6_copy_153 ?_
    refine r_iload X dX6_copy_154 4 rfl ?_
    refine r_iadd X dX6_copy_156 ?_
    refine r_aload_n X dX6_copy_157 rfl 0 rfl ?_
    refine r_getR X fl_X6_23 (by decide) h_l0 dX6_copy_158 (fun v2 h_v2 => ?_)
    refine r_iload X dX6_copy_161 4 rfl ?_
    refine r_iald X h_v2 dX6_copy_163 (fun v3 => ?_)
    refine r_iast X h_v1 dX6_copy_164 (fun M4 => ?_)
    refine r_iinc [(6, .int (l6 + 1)), (0, rf x.2.1 l0), (3, .int l3), (4, .int l4), (5, .int l5)] X dX6_copy_165 4 rfl rfl (nlt hL (by decide)) rfl ?_
    refine r_goto 136 X dX6_copy_168 (by decide) ?_
    exact r_hdr [(0, rf x.2.1 l0), (3, .int l3), (4, .int l4), (5, .int l5), (6, .int (l6 + 1))] [1, 2, 3, 4, 0] rfl (fun h => HH _ h h_l0)
set_option maxRecDepth 100000 in
noncomputable def bX6_copy_104 (l0 : Nat) (l1 : Int32) (l2 : Int32) (l3 : Int32) (l4 : Int32) (l5 : Int32) (l6 : Int32) (M : Mm) : Option ((Nat × Nat × Int32 × Int32 × Int32 × Int32 × Int32 × Int32 × Mm) ⊕ Int32 × Mm) := if l5 ≤ l6 then some (.inl (2, l0, 0, 0, l3, l4, l5, 0, M)) else gfR M 0 l0 7 fun v5 => cal (fX6_rowAt l0 l1 (l2 + l6) M) fun v7 M6 => stI M6 v5 l6 v7 fun M8 => some (.inl (1, l0, l1, l2, l3, l4, l5, (l6 + 1), M8))
set_option maxRecDepth 100000 in
set_option maxHeartbeats 4000000 in
theorem sX6_copy_104 {x : SB} {F : ((Nat × Nat × Int32 × Int32 × Int32 × Int32 × Int32 × Int32 × Mm) ⊕ Int32 × Mm) → Prop} (X : CX x cX6_copy RX6 2) (hL : x.2.2.2.1 = 7) (Hr : RTI x cX6_copy .int F Sum.inr) (HH : ∀ q, F (.inl q) → pX6_copy x q) {l0 : Nat} {l1 : Int32} {l2 : Int32} {l3 : Int32} {l4 : Int32} {l5 : Int32} {l6 : Int32} {M : Mm} (h_l0 : sh l0 = 16) : SIM x F (bX6_copy_104 l0 l1 l2 l3 l4 l5 l6 M) 104 [(0, rf x.2.1 l0), (1, .int l1), (2, .int l2), (3, .int l3), (4, .int l4), (5, .int l5), (6, .int l6)] [] M := by
  unfold bX6_copy_104
  refine r_iload X dX6_copy_104 6 rfl ?_
  refine r_iload X dX6_copy_106 5 rfl ?_
  refine r_icmp_ge 133 X dX6_copy_108 (by decide) ?_ ?_
  · refine r_iconst (v := 0) X dX6_copy_133 (by decide) ?_
    refine r_istore [(6, .int 0), (0, rf x.2.1 l0), (1, .int l1), (2, .int l2), (3, .int l3), (4, .int l4), (5, .int l5)] X dX6_copy_134 (nlt hL (by decide)) rfl ?_
    exact r_hdr [(0, rf x.2.1 l0), (3, .int l3), (4, .int l4), (5, .int l5), (6, .int 0)] [1, 4, 5, 6, 0] rfl (fun h => HH _ h h_l0)
  · refine r_aload_n X dX6_copy_111 rfl 0 rfl ?_
    refine r_getR X fl_X6_23 (by decide) h_l0 dX6_copy_112 (fun v5 h_v5 => ?_)
    refine r_iload X dX6_copy_115 6 rfl ?_
    refine r_aload_n X dX6_copy_117 rfl 0 rfl ?_
    refine r_iload_n X dX6_copy_118 rfl 1 rfl ?_
    refine r_iload_n X dX6_copy_119 rfl 2 rfl ?_
    refine r_iload X dX6_copy_120 6 rfl ?_
    refine r_iadd X dX6_copy_122 ?_
    refine r_callVI [.int l1, .int (l2 + l6)] X mt_X6_110 (by decide) h_l0 (by decide) (okX6_rowAt _ _ X.J h_l0) rfl (Nat.le_of_ble_eq_true rfl) dX6_copy_123 rfl (fun v7 M6 => ?_)
    refine r_iast X h_v5 dX6_copy_126 (fun M8 => ?_)
    refine r_iinc [(6, .int (l6 + 1)), (0, rf x.2.1 l0), (1, .int l1), (2, .int l2), (3, .int l3), (4, .int l4), (5, .int l5)] X dX6_copy_127 6 rfl rfl (nlt hL (by decide)) rfl ?_
    refine r_goto 104 X dX6_copy_130 (by decide) ?_
    exact r_hdr [(0, rf x.2.1 l0), (1, .int l1), (2, .int l2), (3, .int l3), (4, .int l4), (5, .int l5), (6, .int (l6 + 1))] [1, 2, 3, 4, 5, 6, 0] rfl (fun h => HH _ h h_l0)
set_option maxRecDepth 100000 in
noncomputable def bX6_copy_95 (l0 : Nat) (M : Mm) : Option ((Nat × Nat × Int32 × Int32 × Int32 × Int32 × Int32 × Int32 × Mm) ⊕ Int32 × Mm) := cal (fX6_meets l0 2 M) fun v10 M9 => some (.inr (v10, M9))
set_option maxRecDepth 100000 in
set_option maxHeartbeats 4000000 in
theorem sX6_copy_95 {x : SB} {F : ((Nat × Nat × Int32 × Int32 × Int32 × Int32 × Int32 × Int32 × Mm) ⊕ Int32 × Mm) → Prop} (X : CX x cX6_copy RX6 2) (hL : x.2.2.2.1 = 7) (Hr : RTI x cX6_copy .int F Sum.inr) (HH : ∀ q, F (.inl q) → pX6_copy x q) {l0 : Nat} {M : Mm} (h_l0 : sh l0 = 16) : SIM x F (bX6_copy_95 l0 M) 95 [(0, rf x.2.1 l0)] [] M := by
  unfold bX6_copy_95
  refine r_aload_n X dX6_copy_95 rfl 0 rfl ?_
  refine r_iconst (v := 2) X dX6_copy_96 (by decide) ?_
  refine r_callVI [.int 2] X mt_X6_106 (by decide) h_l0 (by decide) (okX6_meets _ _ X.J h_l0) rfl (Nat.le_of_ble_eq_true rfl) dX6_copy_97 rfl (fun v10 M9 => ?_)
  exact r_iret Hr rfl dX6_copy_100
set_option maxRecDepth 100000 in
noncomputable def bX6_copy_45 (l0 : Nat) (M : Mm) : Option ((Nat × Nat × Int32 × Int32 × Int32 × Int32 × Int32 × Int32 × Mm) ⊕ Int32 × Mm) := cal (fX6_meets l0 1 M) fun v12 M11 => some (.inr (v12, M11))
set_option maxRecDepth 100000 in
set_option maxHeartbeats 4000000 in
theorem sX6_copy_45 {x : SB} {F : ((Nat × Nat × Int32 × Int32 × Int32 × Int32 × Int32 × Int32 × Mm) ⊕ Int32 × Mm) → Prop} (X : CX x cX6_copy RX6 2) (hL : x.2.2.2.1 = 7) (Hr : RTI x cX6_copy .int F Sum.inr) (HH : ∀ q, F (.inl q) → pX6_copy x q) {l0 : Nat} {M : Mm} (h_l0 : sh l0 = 16) : SIM x F (bX6_copy_45 l0 M) 45 [(0, rf x.2.1 l0)] [] M := by
  unfold bX6_copy_45
  refine r_aload_n X dX6_copy_45 rfl 0 rfl ?_
  refine r_iconst (v := 1) X dX6_copy_46 (by decide) ?_
  refine r_callVI [.int 1] X mt_X6_106 (by decide) h_l0 (by decide) (okX6_meets _ _ X.J h_l0) rfl (Nat.le_of_ble_eq_true rfl) dX6_copy_47 rfl (fun v12 M11 => ?_)
  exact r_iret Hr rfl dX6_copy_50
set_option maxRecDepth 100000 in
noncomputable def bX6_copy_14  (M : Mm) : Option ((Nat × Nat × Int32 × Int32 × Int32 × Int32 × Int32 × Int32 × Mm) ⊕ Int32 × Mm) := some (.inr ((-1), M))
set_option maxRecDepth 100000 in
set_option maxHeartbeats 4000000 in
theorem sX6_copy_14 {x : SB} {F : ((Nat × Nat × Int32 × Int32 × Int32 × Int32 × Int32 × Int32 × Mm) ⊕ Int32 × Mm) → Prop} (X : CX x cX6_copy RX6 2) (hL : x.2.2.2.1 = 7) (Hr : RTI x cX6_copy .int F Sum.inr) (HH : ∀ q, F (.inl q) → pX6_copy x q)  {M : Mm}  : SIM x F (bX6_copy_14  M) 14 [] [] M := by
  unfold bX6_copy_14
  refine r_iconst (v := (-1)) X dX6_copy_14 (by decide) ?_
  exact r_iret Hr rfl dX6_copy_15
set_option maxRecDepth 100000 in
noncomputable def bX6_copy_0 (l0 : Nat) (l1 : Int32) (l2 : Int32) (l3 : Int32) (l4 : Int32) (l5 : Int32) (M : Mm) : Option ((Nat × Nat × Int32 × Int32 × Int32 × Int32 × Int32 × Int32 × Mm) ⊕ Int32 × Mm) := cal (fX6_isRow l1 M) fun v14 M13 => if v14 = 0 then bX6_copy_14 M13 else cal (fX6_isRow l3 M13) fun v16 M15 => if v16 = 0 then bX6_copy_14 M15 else if 0 ≤ l5 then gfR M15 0 l0 5 fun v17 => ldI M15 v17 l1 fun v18 => if v18 < 0 then bX6_copy_45 l0 M15 else gfR M15 0 l0 5 fun v19 => ldI M15 v19 l3 fun v20 => if 0 ≤ v20 then if l2 < 0 then bX6_copy_95 l0 M15 else if l4 < 0 then bX6_copy_95 l0 M15 else gfR M15 0 l0 5 fun v21 => ldI M15 v21 l1 fun v22 => if 0 < (lg_cmp (((l2 : Int32).toInt64) + ((l5 : Int32).toInt64)) ((v22 : Int32).toInt64)) then bX6_copy_95 l0 M15 else gfR M15 0 l0 5 fun v23 => ldI M15 v23 l3 fun v24 => if (lg_cmp (((l4 : Int32).toInt64) + ((l5 : Int32).toInt64)) ((v24 : Int32).toInt64)) ≤ 0 then some (.inl (1, l0, l1, l2, l3, l4, l5, 0, M15)) else bX6_copy_95 l0 M15 else bX6_copy_45 l0 M15 else cal (fX6_meets l0 5 M15) fun v26 M25 => some (.inr (v26, M25))
set_option maxRecDepth 100000 in
set_option maxHeartbeats 4000000 in
theorem sX6_copy_0 {x : SB} {F : ((Nat × Nat × Int32 × Int32 × Int32 × Int32 × Int32 × Int32 × Mm) ⊕ Int32 × Mm) → Prop} (X : CX x cX6_copy RX6 2) (hL : x.2.2.2.1 = 7) (Hr : RTI x cX6_copy .int F Sum.inr) (HH : ∀ q, F (.inl q) → pX6_copy x q) {l0 : Nat} {l1 : Int32} {l2 : Int32} {l3 : Int32} {l4 : Int32} {l5 : Int32} {M : Mm} (h_l0 : sh l0 = 16) : SIM x F (bX6_copy_0 l0 l1 l2 l3 l4 l5 M) 0 [(0, rf x.2.1 l0), (1, .int l1), (2, .int l2), (3, .int l3), (4, .int l4), (5, .int l5)] [] M := by
  unfold bX6_copy_0
  refine r_iload_n X dX6_copy_0 rfl 1 rfl ?_
  refine r_callSI [.int l1] X mt_X6_102 (by decide) (okX6_isRow _ _ X.J) rfl (Nat.le_of_ble_eq_true rfl) dX6_copy_1 rfl (fun v14 M13 => ?_)
  refine r_if_eq 14 X dX6_copy_4 (by decide) ?_ ?_
  · exact r_to [] [] rfl (sX6_copy_14 X hL Hr HH)
  · refine r_iload_n X dX6_copy_7 rfl 3 rfl ?_
    refine r_callSI [.int l3] X mt_X6_102 (by decide) (okX6_isRow _ _ X.J) rfl (Nat.le_of_ble_eq_true rfl) dX6_copy_8 rfl (fun v16 M15 => ?_)
    refine r_if_ne 16 X dX6_copy_11 (by decide) ?_ ?_
    · exact r_to [] [] rfl (sX6_copy_14 X hL Hr HH)
    · refine r_iload X dX6_copy_16 5 rfl ?_
      refine r_if_ge 27 X dX6_copy_18 (by decide) ?_ ?_
      · refine r_aload_n X dX6_copy_27 rfl 0 rfl ?_
        refine r_getR X fl_X6_17 (by decide) h_l0 dX6_copy_28 (fun v17 h_v17 => ?_)
        refine r_iload_n X dX6_copy_31 rfl 1 rfl ?_
        refine r_iald X h_v17 dX6_copy_32 (fun v18 => ?_)
        refine r_if_lt 45 X dX6_copy_33 (by decide) ?_ ?_
        · exact r_to [(0, rf x.2.1 l0)] [0] rfl (sX6_copy_45 X hL Hr HH h_l0)
        · refine r_aload_n X dX6_copy_36 rfl 0 rfl ?_
          refine r_getR X fl_X6_17 (by decide) h_l0 dX6_copy_37 (fun v19 h_v19 => ?_)
          refine r_iload_n X dX6_copy_40 rfl 3 rfl ?_
          refine r_iald X h_v19 dX6_copy_41 (fun v20 => ?_)
          refine r_if_ge 51 X dX6_copy_42 (by decide) ?_ ?_
          · refine r_iload_n X dX6_copy_51 rfl 2 rfl ?_
            refine r_if_lt 95 X dX6_copy_52 (by decide) ?_ ?_
            · exact r_to [(0, rf x.2.1 l0)] [0] rfl (sX6_copy_95 X hL Hr HH h_l0)
            · refine r_iload X dX6_copy_55 4 rfl ?_
              refine r_if_lt 95 X dX6_copy_57 (by decide) ?_ ?_
              · exact r_to [(0, rf x.2.1 l0)] [0] rfl (sX6_copy_95 X hL Hr HH h_l0)
              · refine r_iload_n X dX6_copy_60 rfl 2 rfl ?_
                refine r_i2l X dX6_copy_61 ?_
                refine r_iload X dX6_copy_62 5 rfl ?_
                refine r_i2l X dX6_copy_64 ?_
                refine r_ladd X dX6_copy_65 ?_
                refine r_aload_n X dX6_copy_66 rfl 0 rfl ?_
                refine r_getR X fl_X6_17 (by decide) h_l0 dX6_copy_67 (fun v21 h_v21 => ?_)
                refine r_iload_n X dX6_copy_70 rfl 1 rfl ?_
                refine r_iald X h_v21 dX6_copy_71 (fun v22 => ?_)
                refine r_i2l X dX6_copy_72 ?_
                refine r_lcmp X dX6_copy_73 ?_
                refine r_if_gt 95 X dX6_copy_74 (by decide) ?_ ?_
                · exact r_to [(0, rf x.2.1 l0)] [0] rfl (sX6_copy_95 X hL Hr HH h_l0)
                · refine r_iload X dX6_copy_77 4 rfl ?_
                  refine r_i2l X dX6_copy_79 ?_
                  refine r_iload X dX6_copy_80 5 rfl ?_
                  refine r_i2l X dX6_copy_82 ?_
                  refine r_ladd X dX6_copy_83 ?_
                  refine r_aload_n X dX6_copy_84 rfl 0 rfl ?_
                  refine r_getR X fl_X6_17 (by decide) h_l0 dX6_copy_85 (fun v23 h_v23 => ?_)
                  refine r_iload_n X dX6_copy_88 rfl 3 rfl ?_
                  refine r_iald X h_v23 dX6_copy_89 (fun v24 => ?_)
                  refine r_i2l X dX6_copy_90 ?_
                  refine r_lcmp X dX6_copy_91 ?_
                  refine r_if_le 101 X dX6_copy_92 (by decide) ?_ ?_
                  · refine r_iconst (v := 0) X dX6_copy_101 (by decide) ?_
                    refine r_istore [(6, .int 0), (0, rf x.2.1 l0), (1, .int l1), (2, .int l2), (3, .int l3), (4, .int l4), (5, .int l5)] X dX6_copy_102 (nlt hL (by decide)) rfl ?_
                    exact r_hdr [(0, rf x.2.1 l0), (1, .int l1), (2, .int l2), (3, .int l3), (4, .int l4), (5, .int l5), (6, .int 0)] [1, 2, 3, 4, 5, 6, 0] rfl (fun h => HH _ h h_l0)
                  · exact r_to [(0, rf x.2.1 l0)] [0] rfl (sX6_copy_95 X hL Hr HH h_l0)
          · exact r_to [(0, rf x.2.1 l0)] [0] rfl (sX6_copy_45 X hL Hr HH h_l0)
      · refine r_aload_n X dX6_copy_21 rfl 0 rfl ?_
        refine r_iconst (v := 5) X dX6_copy_22 (by decide) ?_
        refine r_callVI [.int 5] X mt_X6_106 (by decide) h_l0 (by decide) (okX6_meets _ _ X.J h_l0) rfl (Nat.le_of_ble_eq_true rfl) dX6_copy_23 rfl (fun v26 M25 => ?_)
        exact r_iret Hr rfl dX6_copy_26
set_option maxRecDepth 100000 in
noncomputable def gX6_copy (q : Nat × Nat × Int32 × Int32 × Int32 × Int32 × Int32 × Int32 × Mm) : Option ((Nat × Nat × Int32 × Int32 × Int32 × Int32 × Int32 × Int32 × Mm) ⊕ Int32 × Mm) := match q.1 with
  | 1 => bX6_copy_104 (q.2.1) (q.2.2.1) (q.2.2.2.1) (q.2.2.2.2.1) (q.2.2.2.2.2.1) (q.2.2.2.2.2.2.1) (q.2.2.2.2.2.2.2.1) (q.2.2.2.2.2.2.2.2)
  | 2 => bX6_copy_136 (q.2.1) (q.2.2.2.2.1) (q.2.2.2.2.2.1) (q.2.2.2.2.2.2.1) (q.2.2.2.2.2.2.2.1) (q.2.2.2.2.2.2.2.2)
  | _ => none
set_option maxRecDepth 100000 in
noncomputable def fX6_copy (l0 : Nat) (l1 : Int32) (l2 : Int32) (l3 : Int32) (l4 : Int32) (l5 : Int32) (M : Mm) : Option (Int32 × Mm) := fen gX6_copy (bX6_copy_0 l0 l1 l2 l3 l4 l5 M)
set_option maxRecDepth 100000 in
set_option maxHeartbeats 4000000 in
theorem okX6_copy (l : Launch) (g : GX) (hJ : IJ g) {l0 : Nat} {l1 : Int32} {l2 : Int32} {l3 : Int32} {l4 : Int32} {l5 : Int32} {M : Mm} (h_l0 : sh l0 = 16) : CT l g yX6_copy cX6_copy 7 (some .int) 2 [rf g l0, .int l1, .int l2, .int l3, .int l4, .int l5] M (fX6_copy l0 l1 l2 l3 l4 l5 M) (fun r => some (.int r)) := by
  refine ct_I rfl hJ (Nat.le_of_ble_eq_true rfl) (fun x r hg hL hl X hf Hr => ?_)
  subst hg
  have Hr2 : RTI x cX6_copy .int (Sum.elim (pX6_copy x) (fun q => q = r)) Sum.inr := fun v M h => Hr v M h
  have HP : ∀ q, fnl gX6_copy q = some r → pX6_copy x q := by
    intro q hq
    refine fnl_ind (pX6_copy x) (fun q hq => ?_) hq
    obtain ⟨n, l0, l1, l2, l3, l4, l5, l6, M⟩ := q
    match n, hq with
    | 1, hq => exact fun h_l0 ls H locs hl hP hS => sX6_copy_104 X hL Hr2 (fun _ h => h) h_l0 hq ls H locs hl hP hS
    | 2, hq => exact fun h_l0 ls H locs hl hP hS => sX6_copy_136 X hL Hr2 (fun _ h => h) h_l0 hq ls H locs hl hP hS
    | 0, hq => exact trivial
    | n + 3, hq => exact trivial
  exact fun _ ls H locs hl hP hS => sX6_copy_0 X hL Hr2 (fun _ h => h) h_l0 (fen_w hf HP) ls H locs hl hP hS

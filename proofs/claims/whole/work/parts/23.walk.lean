/-! CrumbWood$Walks.leastOpen(I)I -/
set_option maxRecDepth 100000 in
def pX3_leastOpen (x : SB) (q : Nat × Nat × Int32 × Int32 × Mm) : Prop := match q.1 with
  | 1 => sh q.2.1 = 13 → ∀ (ls : Array Slot) (H : Heap) (locs : List Loc), lv_has ls x.2.2.2.1 [(0, rf x.2.1 q.2.1), (1, .int q.2.2.1), (2, .int q.2.2.2.1)] → PW x.2.1 (q.2.2.2.2) H → SH x H locs → SW x H locs 2 ls []
  | _ => True
set_option maxRecDepth 100000 in
noncomputable def bX3_leastOpen_28 (l0 : Nat) (l1 : Int32) (l2 : Int32) (M : Mm) : Option ((Nat × Nat × Int32 × Int32 × Mm) ⊕ Int32 × Mm) := some (.inl (1, l0, l1, (l2 + 1), M))
set_option maxRecDepth 100000 in
set_option maxHeartbeats 4000000 in
theorem sX3_leastOpen_28 {x : SB} {F : ((Nat × Nat × Int32 × Int32 × Mm) ⊕ Int32 × Mm) → Prop} (X : CX x cX3_leastOpen RX3 0) (hL : x.2.2.2.1 = 3) (Hr : RTI x cX3_leastOpen .int F Sum.inr) (HH : ∀ q, F (.inl q) → pX3_leastOpen x q) {l0 : Nat} {l1 : Int32} {l2 : Int32} {M : Mm} (h_l0 : sh l0 = 13) : SIM x F (bX3_leastOpen_28 l0 l1 l2 M) 28 [(0, rf x.2.1 l0), (1, .int l1), (2, .int l2)] [] M := by
  unfold bX3_leastOpen_28
  refine r_iinc [(2, .int (l2 + 1)), (0, rf x.2.1 l0), (1, .int l1)] X dX3_leastOpen_28 2 rfl rfl (nlt hL (by decide)) rfl ?_
  refine r_goto 2 X dX3_leastOpen_31 (by decide) ?_
  exact r_hdr [(0, rf x.2.1 l0), (1, .int l1), (2, .int (l2 + 1))] [1, 2, 0] rfl (fun h => HH _ h h_l0)
set_option maxRecDepth 100000 in
noncomputable def bX3_leastOpen_2 (l0 : Nat) (l1 : Int32) (l2 : Int32) (M : Mm) : Option ((Nat × Nat × Int32 × Int32 × Mm) ⊕ Int32 × Mm) := if 8 ≤ l2 then some (.inr ((-9), M)) else if ((l1 >>> (l2 &&& 31)) &&& 1) = 1 then gfR M 0 l0 0 fun v1 => ldI M v1 l2 fun v2 => if v2 ≤ 0 then bX3_leastOpen_28 l0 l1 l2 M else some (.inr (l2, M)) else bX3_leastOpen_28 l0 l1 l2 M
set_option maxRecDepth 100000 in
set_option maxHeartbeats 4000000 in
theorem sX3_leastOpen_2 {x : SB} {F : ((Nat × Nat × Int32 × Int32 × Mm) ⊕ Int32 × Mm) → Prop} (X : CX x cX3_leastOpen RX3 0) (hL : x.2.2.2.1 = 3) (Hr : RTI x cX3_leastOpen .int F Sum.inr) (HH : ∀ q, F (.inl q) → pX3_leastOpen x q) {l0 : Nat} {l1 : Int32} {l2 : Int32} {M : Mm} (h_l0 : sh l0 = 13) : SIM x F (bX3_leastOpen_2 l0 l1 l2 M) 2 [(0, rf x.2.1 l0), (1, .int l1), (2, .int l2)] [] M := by
  unfold bX3_leastOpen_2
  refine r_iload_n X dX3_leastOpen_2 rfl 2 rfl ?_
  refine r_bipush (v := 8) X dX3_leastOpen_3 (by decide) ?_
  refine r_icmp_ge 34 X dX3_leastOpen_5 (by decide) ?_ ?_
  · refine r_bipush (v := (-9)) X dX3_leastOpen_34 (by decide) ?_
    exact r_iret Hr rfl dX3_leastOpen_36
  · refine r_iload_n X dX3_leastOpen_8 rfl 1 rfl ?_
    refine r_iload_n X dX3_leastOpen_9 rfl 2 rfl ?_
    refine r_ishr X dX3_leastOpen_10 ?_
    refine r_iconst (v := 1) X dX3_leastOpen_11 (by decide) ?_
    refine r_iand X dX3_leastOpen_12 ?_
    refine r_iconst (v := 1) X dX3_leastOpen_13 (by decide) ?_
    refine r_icmp_ne 28 X dX3_leastOpen_14 (by decide) ?_ ?_
    · refine r_aload_n X dX3_leastOpen_17 rfl 0 rfl ?_
      refine r_getR X fl_X3_9 (by decide) h_l0 dX3_leastOpen_18 (fun v1 h_v1 => ?_)
      refine r_iload_n X dX3_leastOpen_21 rfl 2 rfl ?_
      refine r_iald X h_v1 dX3_leastOpen_22 (fun v2 => ?_)
      refine r_if_le 28 X dX3_leastOpen_23 (by decide) ?_ ?_
      · exact r_to [(0, rf x.2.1 l0), (1, .int l1), (2, .int l2)] [0, 1, 2] rfl (sX3_leastOpen_28 X hL Hr HH h_l0)
      · refine r_iload_n X dX3_leastOpen_26 rfl 2 rfl ?_
        exact r_iret Hr rfl dX3_leastOpen_27
    · exact r_to [(0, rf x.2.1 l0), (1, .int l1), (2, .int l2)] [0, 1, 2] rfl (sX3_leastOpen_28 X hL Hr HH h_l0)
set_option maxRecDepth 100000 in
noncomputable def bX3_leastOpen_0 (l0 : Nat) (l1 : Int32) (M : Mm) : Option ((Nat × Nat × Int32 × Int32 × Mm) ⊕ Int32 × Mm) := some (.inl (1, l0, l1, 0, M))
set_option maxRecDepth 100000 in
set_option maxHeartbeats 4000000 in
theorem sX3_leastOpen_0 {x : SB} {F : ((Nat × Nat × Int32 × Int32 × Mm) ⊕ Int32 × Mm) → Prop} (X : CX x cX3_leastOpen RX3 0) (hL : x.2.2.2.1 = 3) (Hr : RTI x cX3_leastOpen .int F Sum.inr) (HH : ∀ q, F (.inl q) → pX3_leastOpen x q) {l0 : Nat} {l1 : Int32} {M : Mm} (h_l0 : sh l0 = 13) : SIM x F (bX3_leastOpen_0 l0 l1 M) 0 [(0, rf x.2.1 l0), (1, .int l1)] [] M := by
  unfold bX3_leastOpen_0
  refine r_iconst (v := 0) X dX3_leastOpen_0 (by decide) ?_
  refine r_istore_n [(2, .int 0), (0, rf x.2.1 l0), (1, .int l1)] X dX3_leastOpen_1 rfl (nlt hL (by decide)) rfl ?_
  exact r_hdr [(0, rf x.2.1 l0), (1, .int l1), (2, .int 0)] [1, 2, 0] rfl (fun h => HH _ h h_l0)
set_option maxRecDepth 100000 in
noncomputable def gX3_leastOpen (q : Nat × Nat × Int32 × Int32 × Mm) : Option ((Nat × Nat × Int32 × Int32 × Mm) ⊕ Int32 × Mm) := match q.1 with
  | 1 => bX3_leastOpen_2 (q.2.1) (q.2.2.1) (q.2.2.2.1) (q.2.2.2.2)
  | _ => none
set_option maxRecDepth 100000 in
noncomputable def fX3_leastOpen (l0 : Nat) (l1 : Int32) (M : Mm) : Option (Int32 × Mm) := fen gX3_leastOpen (bX3_leastOpen_0 l0 l1 M)
set_option maxRecDepth 100000 in
set_option maxHeartbeats 4000000 in
theorem okX3_leastOpen (l : Launch) (g : GX) (hJ : IJ g) {l0 : Nat} {l1 : Int32} {M : Mm} (h_l0 : sh l0 = 13) : CT l g yX3_leastOpen cX3_leastOpen 3 (some .int) 0 [rf g l0, .int l1] M (fX3_leastOpen l0 l1 M) (fun r => some (.int r)) := by
  refine ct_I rfl hJ (Nat.le_of_ble_eq_true rfl) (fun x r hg hL hl X hf Hr => ?_)
  subst hg
  have Hr2 : RTI x cX3_leastOpen .int (Sum.elim (pX3_leastOpen x) (fun q => q = r)) Sum.inr := fun v M h => Hr v M h
  have HP : ∀ q, fnl gX3_leastOpen q = some r → pX3_leastOpen x q := by
    intro q hq
    refine fnl_ind (pX3_leastOpen x) (fun q hq => ?_) hq
    obtain ⟨n, l0, l1, l2, M⟩ := q
    match n, hq with
    | 1, hq => exact fun h_l0 ls H locs hl hP hS => sX3_leastOpen_2 X hL Hr2 (fun _ h => h) h_l0 hq ls H locs hl hP hS
    | 0, hq => exact trivial
    | n + 2, hq => exact trivial
  exact fun _ ls H locs hl hP hS => sX3_leastOpen_0 X hL Hr2 (fun _ h => h) h_l0 (fen_w hf HP) ls H locs hl hP hS
/-! CrumbWood$Walks.lengthen(LCrumbWood$Wood;I)V -/
set_option maxRecDepth 100000 in
def pX3_lengthen (x : SB) (q : Nat × Nat × Nat × Int32 × Int32 × Int32 × Int32 × Int32 × Mm) : Prop := match q.1 with
  | 1 => sh q.2.1 = 13 → sh q.2.2.1 = 14 → ∀ (ls : Array Slot) (H : Heap) (locs : List Loc), lv_has ls x.2.2.2.1 [(0, rf x.2.1 q.2.1), (1, rf x.2.1 q.2.2.1), (2, .int q.2.2.2.1), (3, .int q.2.2.2.2.1)] → PW x.2.1 (q.2.2.2.2.2.2.2.2) H → SH x H locs → SW x H locs 2 ls []
  | 2 => sh q.2.1 = 13 → sh q.2.2.1 = 14 → ∀ (ls : Array Slot) (H : Heap) (locs : List Loc), lv_has ls x.2.2.2.1 [(0, rf x.2.1 q.2.1), (1, rf x.2.1 q.2.2.1), (2, .int q.2.2.2.1), (3, .int q.2.2.2.2.1), (4, .int q.2.2.2.2.2.1), (5, .int q.2.2.2.2.2.2.1), (6, .int q.2.2.2.2.2.2.2.1)] → PW x.2.1 (q.2.2.2.2.2.2.2.2) H → SH x H locs → SW x H locs 26 ls []
  | _ => True
set_option maxRecDepth 100000 in
noncomputable def bX3_lengthen_58 (l0 : Nat) (l1 : Nat) (l2 : Int32) (l3 : Int32) (l4 : Int32) (l5 : Int32) (l6 : Int32) (M : Mm) : Option ((Nat × Nat × Nat × Int32 × Int32 × Int32 × Int32 × Int32 × Mm) ⊕ Unit × Mm) := some (.inl (2, l0, l1, l2, l3, l4, l5, (l6 + 1), M))
set_option maxRecDepth 100000 in
set_option maxHeartbeats 4000000 in
theorem sX3_lengthen_58 {x : SB} {F : ((Nat × Nat × Nat × Int32 × Int32 × Int32 × Int32 × Int32 × Mm) ⊕ Unit × Mm) → Prop} (X : CX x cX3_lengthen RX3 1) (hL : x.2.2.2.1 = 7) (Hr : RTV x cX3_lengthen F Sum.inr) (HH : ∀ q, F (.inl q) → pX3_lengthen x q) {l0 : Nat} {l1 : Nat} {l2 : Int32} {l3 : Int32} {l4 : Int32} {l5 : Int32} {l6 : Int32} {M : Mm} (h_l0 : sh l0 = 13) (h_l1 : sh l1 = 14) : SIM x F (bX3_lengthen_58 l0 l1 l2 l3 l4 l5 l6 M) 58 [(0, rf x.2.1 l0), (1, rf x.2.1 l1), (2, .int l2), (3, .int l3), (4, .int l4), (5, .int l5), (6, .int l6)] [] M := by
  unfold bX3_lengthen_58
  refine r_iinc [(6, .int (l6 + 1)), (0, rf x.2.1 l0), (1, rf x.2.1 l1), (2, .int l2), (3, .int l3), (4, .int l4), (5, .int l5)] X dX3_lengthen_58 6 rfl rfl (nlt hL (by decide)) rfl ?_
  refine r_goto 26 X dX3_lengthen_61 (by decide) ?_
  exact r_hdr [(0, rf x.2.1 l0), (1, rf x.2.1 l1), (2, .int l2), (3, .int l3), (4, .int l4), (5, .int l5), (6, .int (l6 + 1))] [1, 2, 3, 4, 5, 6, 0] rfl (fun h => HH _ h h_l0 h_l1)
set_option maxRecDepth 100000 in
noncomputable def bX3_lengthen_26 (l0 : Nat) (l1 : Nat) (l2 : Int32) (l3 : Int32) (l4 : Int32) (l5 : Int32) (l6 : Int32) (M : Mm) : Option ((Nat × Nat × Nat × Int32 × Int32 × Int32 × Int32 × Int32 × Mm) ⊕ Unit × Mm) := gfI M l1 0 fun v1 => if v1 ≤ l6 then gfR M 0 l0 1 fun v2 => stI M v2 l3 l5 fun M3 => some (.inl (1, l0, l1, l2, (l3 + 1), 0, 0, 0, M3)) else if ((l4 >>> (l6 &&& 31)) &&& 1) = 1 then gfR M 0 l0 0 fun v4 => ldI M v4 l6 fun v5 => ltI (l5 + v5) fun v6 => bX3_lengthen_58 l0 l1 l2 l3 l4 v6 l6 M else bX3_lengthen_58 l0 l1 l2 l3 l4 l5 l6 M
set_option maxRecDepth 100000 in
set_option maxHeartbeats 4000000 in
theorem sX3_lengthen_26 {x : SB} {F : ((Nat × Nat × Nat × Int32 × Int32 × Int32 × Int32 × Int32 × Mm) ⊕ Unit × Mm) → Prop} (X : CX x cX3_lengthen RX3 1) (hL : x.2.2.2.1 = 7) (Hr : RTV x cX3_lengthen F Sum.inr) (HH : ∀ q, F (.inl q) → pX3_lengthen x q) {l0 : Nat} {l1 : Nat} {l2 : Int32} {l3 : Int32} {l4 : Int32} {l5 : Int32} {l6 : Int32} {M : Mm} (h_l0 : sh l0 = 13) (h_l1 : sh l1 = 14) : SIM x F (bX3_lengthen_26 l0 l1 l2 l3 l4 l5 l6 M) 26 [(0, rf x.2.1 l0), (1, rf x.2.1 l1), (2, .int l2), (3, .int l3), (4, .int l4), (5, .int l5), (6, .int l6)] [] M := by
  unfold bX3_lengthen_26
  refine r_iload X dX3_lengthen_26 6 rfl ?_
  refine r_aload_n X dX3_lengthen_28 rfl 1 rfl ?_
  refine r_getI X fl_X3_39 (by decide) h_l1 dX3_lengthen_29 (fun v1 => ?_)
  refine r_icmp_ge 64 X dX3_lengthen_32 (by decide) ?_ ?_
  · refine r_aload_n X dX3_lengthen_64 rfl 0 rfl ?_
    refine r_getR X fl_X3_15 (by decide) h_l0 dX3_lengthen_65 (fun v2 h_v2 => ?_)
    refine r_iload_n X dX3_lengthen_68 rfl 3 rfl ?_
    refine r_iload X dX3_lengthen_69 5 rfl ?_
    refine r_iast X h_v2 dX3_lengthen_71 (fun M3 => ?_)
    refine r_iinc [(3, .int (l3 + 1)), (0, rf x.2.1 l0), (1, rf x.2.1 l1), (2, .int l2), (4, .int l4), (5, .int l5), (6, .int l6)] X dX3_lengthen_72 3 rfl rfl (nlt hL (by decide)) rfl ?_
    refine r_goto 2 X dX3_lengthen_75 (by decide) ?_
    exact r_hdr [(0, rf x.2.1 l0), (1, rf x.2.1 l1), (2, .int l2), (3, .int (l3 + 1))] [1, 2, 3, 0] rfl (fun h => HH _ h h_l0 h_l1)
  · refine r_iload X dX3_lengthen_35 4 rfl ?_
    refine r_iload X dX3_lengthen_37 6 rfl ?_
    refine r_ishr X dX3_lengthen_39 ?_
    refine r_iconst (v := 1) X dX3_lengthen_40 (by decide) ?_
    refine r_iand X dX3_lengthen_41 ?_
    refine r_iconst (v := 1) X dX3_lengthen_42 (by decide) ?_
    refine r_icmp_ne 58 X dX3_lengthen_43 (by decide) ?_ ?_
    · refine r_iload X dX3_lengthen_46 5 rfl ?_
      refine r_aload_n X dX3_lengthen_48 rfl 0 rfl ?_
      refine r_getR X fl_X3_9 (by decide) h_l0 dX3_lengthen_49 (fun v4 h_v4 => ?_)
      refine r_iload X dX3_lengthen_52 6 rfl ?_
      refine r_iald X h_v4 dX3_lengthen_54 (fun v5 => ?_)
      refine r_iadd X dX3_lengthen_55 ?_
      refine r_letI (fun v6 => ?_)
      refine r_istore [(5, .int v6), (0, rf x.2.1 l0), (1, rf x.2.1 l1), (2, .int l2), (3, .int l3), (4, .int l4), (6, .int l6)] X dX3_lengthen_56 (nlt hL (by decide)) rfl ?_
      exact r_to [(0, rf x.2.1 l0), (1, rf x.2.1 l1), (2, .int l2), (3, .int l3), (4, .int l4), (5, .int v6), (6, .int l6)] [1, 2, 3, 4, 5, 0, 6] rfl (sX3_lengthen_58 X hL Hr HH h_l0 h_l1)
    · exact r_to [(0, rf x.2.1 l0), (1, rf x.2.1 l1), (2, .int l2), (3, .int l3), (4, .int l4), (5, .int l5), (6, .int l6)] [0, 1, 2, 3, 4, 5, 6] rfl (sX3_lengthen_58 X hL Hr HH h_l0 h_l1)
set_option maxRecDepth 100000 in
noncomputable def bX3_lengthen_2 (l0 : Nat) (l1 : Nat) (l2 : Int32) (l3 : Int32) (M : Mm) : Option ((Nat × Nat × Nat × Int32 × Int32 × Int32 × Int32 × Int32 × Mm) ⊕ Unit × Mm) := gfI M l1 0 fun v7 => if v7 ≤ l3 then gfR M 0 l0 1 fun v8 => gfR M 0 l0 0 fun v9 => cpA M v8 0 v9 0 8 fun M10 => some (.inr ((), M10)) else gfR M 0 l1 5 fun v11 => ldI M v11 l3 fun v12 => ltI (v12 &&& l2) fun v13 => some (.inl (2, l0, l1, l2, l3, v13, 0, 0, M))
set_option maxRecDepth 100000 in
set_option maxHeartbeats 4000000 in
theorem sX3_lengthen_2 {x : SB} {F : ((Nat × Nat × Nat × Int32 × Int32 × Int32 × Int32 × Int32 × Mm) ⊕ Unit × Mm) → Prop} (X : CX x cX3_lengthen RX3 1) (hL : x.2.2.2.1 = 7) (Hr : RTV x cX3_lengthen F Sum.inr) (HH : ∀ q, F (.inl q) → pX3_lengthen x q) {l0 : Nat} {l1 : Nat} {l2 : Int32} {l3 : Int32} {M : Mm} (h_l0 : sh l0 = 13) (h_l1 : sh l1 = 14) : SIM x F (bX3_lengthen_2 l0 l1 l2 l3 M) 2 [(0, rf x.2.1 l0), (1, rf x.2.1 l1), (2, .int l2), (3, .int l3)] [] M := by
  unfold bX3_lengthen_2
  refine r_iload_n X dX3_lengthen_2 rfl 3 rfl ?_
  refine r_aload_n X dX3_lengthen_3 rfl 1 rfl ?_
  refine r_getI X fl_X3_39 (by decide) h_l1 dX3_lengthen_4 (fun v7 => ?_)
  refine r_icmp_ge 78 X dX3_lengthen_7 (by decide) ?_ ?_
  · refine r_aload_n X dX3_lengthen_78 rfl 0 rfl ?_
    refine r_getR X fl_X3_15 (by decide) h_l0 dX3_lengthen_79 (fun v8 h_v8 => ?_)
    refine r_iconst (v := 0) X dX3_lengthen_82 (by decide) ?_
    refine r_aload_n X dX3_lengthen_83 rfl 0 rfl ?_
    refine r_getR X fl_X3_9 (by decide) h_l0 dX3_lengthen_84 (fun v9 h_v9 => ?_)
    refine r_iconst (v := 0) X dX3_lengthen_87 (by decide) ?_
    refine r_bipush (v := 8) X dX3_lengthen_88 (by decide) ?_
    refine r_cpy X k_611 k_327 k_326 k_69 h_v8 h_v9 (by decide) (Nat.le_of_ble_eq_true rfl) dX3_lengthen_90 (fun M10 => ?_)
    exact r_vret Hr dX3_lengthen_93
  · refine r_aload_n X dX3_lengthen_10 rfl 1 rfl ?_
    refine r_getR X fl_X3_28 (by decide) h_l1 dX3_lengthen_11 (fun v11 h_v11 => ?_)
    refine r_iload_n X dX3_lengthen_14 rfl 3 rfl ?_
    refine r_iald X h_v11 dX3_lengthen_15 (fun v12 => ?_)
    refine r_iload_n X dX3_lengthen_16 rfl 2 rfl ?_
    refine r_iand X dX3_lengthen_17 ?_
    refine r_letI (fun v13 => ?_)
    refine r_istore [(4, .int v13), (0, rf x.2.1 l0), (1, rf x.2.1 l1), (2, .int l2), (3, .int l3)] X dX3_lengthen_18 (nlt hL (by decide)) rfl ?_
    refine r_iconst (v := 0) X dX3_lengthen_20 (by decide) ?_
    refine r_istore [(5, .int 0), (4, .int v13), (0, rf x.2.1 l0), (1, rf x.2.1 l1), (2, .int l2), (3, .int l3)] X dX3_lengthen_21 (nlt hL (by decide)) rfl ?_
    refine r_iconst (v := 0) X dX3_lengthen_23 (by decide) ?_
    refine r_istore [(6, .int 0), (5, .int 0), (4, .int v13), (0, rf x.2.1 l0), (1, rf x.2.1 l1), (2, .int l2), (3, .int l3)] X dX3_lengthen_24 (nlt hL (by decide)) rfl ?_
    exact r_hdr [(0, rf x.2.1 l0), (1, rf x.2.1 l1), (2, .int l2), (3, .int l3), (4, .int v13), (5, .int 0), (6, .int 0)] [3, 4, 5, 6, 2, 1, 0] rfl (fun h => HH _ h h_l0 h_l1)
set_option maxRecDepth 100000 in
noncomputable def bX3_lengthen_0 (l0 : Nat) (l1 : Nat) (l2 : Int32) (M : Mm) : Option ((Nat × Nat × Nat × Int32 × Int32 × Int32 × Int32 × Int32 × Mm) ⊕ Unit × Mm) := some (.inl (1, l0, l1, l2, 0, 0, 0, 0, M))
set_option maxRecDepth 100000 in
set_option maxHeartbeats 4000000 in
theorem sX3_lengthen_0 {x : SB} {F : ((Nat × Nat × Nat × Int32 × Int32 × Int32 × Int32 × Int32 × Mm) ⊕ Unit × Mm) → Prop} (X : CX x cX3_lengthen RX3 1) (hL : x.2.2.2.1 = 7) (Hr : RTV x cX3_lengthen F Sum.inr) (HH : ∀ q, F (.inl q) → pX3_lengthen x q) {l0 : Nat} {l1 : Nat} {l2 : Int32} {M : Mm} (h_l0 : sh l0 = 13) (h_l1 : sh l1 = 14) : SIM x F (bX3_lengthen_0 l0 l1 l2 M) 0 [(0, rf x.2.1 l0), (1, rf x.2.1 l1), (2, .int l2)] [] M := by
  unfold bX3_lengthen_0
  refine r_iconst (v := 0) X dX3_lengthen_0 (by decide) ?_
  refine r_istore_n [(3, .int 0), (0, rf x.2.1 l0), (1, rf x.2.1 l1), (2, .int l2)] X dX3_lengthen_1 rfl (nlt hL (by decide)) rfl ?_
  exact r_hdr [(0, rf x.2.1 l0), (1, rf x.2.1 l1), (2, .int l2), (3, .int 0)] [1, 2, 3, 0] rfl (fun h => HH _ h h_l0 h_l1)
set_option maxRecDepth 100000 in
noncomputable def gX3_lengthen (q : Nat × Nat × Nat × Int32 × Int32 × Int32 × Int32 × Int32 × Mm) : Option ((Nat × Nat × Nat × Int32 × Int32 × Int32 × Int32 × Int32 × Mm) ⊕ Unit × Mm) := match q.1 with
  | 1 => bX3_lengthen_2 (q.2.1) (q.2.2.1) (q.2.2.2.1) (q.2.2.2.2.1) (q.2.2.2.2.2.2.2.2)
  | 2 => bX3_lengthen_26 (q.2.1) (q.2.2.1) (q.2.2.2.1) (q.2.2.2.2.1) (q.2.2.2.2.2.1) (q.2.2.2.2.2.2.1) (q.2.2.2.2.2.2.2.1) (q.2.2.2.2.2.2.2.2)
  | _ => none
set_option maxRecDepth 100000 in
noncomputable def fX3_lengthen (l0 : Nat) (l1 : Nat) (l2 : Int32) (M : Mm) : Option (Unit × Mm) := fen gX3_lengthen (bX3_lengthen_0 l0 l1 l2 M)
set_option maxRecDepth 100000 in
set_option maxHeartbeats 4000000 in
theorem okX3_lengthen (l : Launch) (g : GX) (hJ : IJ g) {l0 : Nat} {l1 : Nat} {l2 : Int32} {M : Mm} (h_l0 : sh l0 = 13) (h_l1 : sh l1 = 14) : CT l g yX3_lengthen cX3_lengthen 7 none 1 [rf g l0, rf g l1, .int l2] M (fX3_lengthen l0 l1 l2 M) (fun _ => none) := by
  refine ct_V rfl hJ (Nat.le_of_ble_eq_true rfl) (fun x r hg hL hl X hf Hr => ?_)
  subst hg
  have Hr2 : RTV x cX3_lengthen (Sum.elim (pX3_lengthen x) (fun q => q = r)) Sum.inr := fun M h => Hr M h
  have HP : ∀ q, fnl gX3_lengthen q = some r → pX3_lengthen x q := by
    intro q hq
    refine fnl_ind (pX3_lengthen x) (fun q hq => ?_) hq
    obtain ⟨n, l0, l1, l2, l3, l4, l5, l6, M⟩ := q
    match n, hq with
    | 1, hq => exact fun h_l0 h_l1 ls H locs hl hP hS => sX3_lengthen_2 X hL Hr2 (fun _ h => h) h_l0 h_l1 hq ls H locs hl hP hS
    | 2, hq => exact fun h_l0 h_l1 ls H locs hl hP hS => sX3_lengthen_26 X hL Hr2 (fun _ h => h) h_l0 h_l1 hq ls H locs hl hP hS
    | 0, hq => exact trivial
    | n + 3, hq => exact trivial
  exact fun _ ls H locs hl hP hS => sX3_lengthen_0 X hL Hr2 (fun _ h => h) h_l0 h_l1 (fen_w hf HP) ls H locs hl hP hS
/-! CrumbWood$Walks.numberOf(LCrumbWood$Wood;II)I -/
set_option maxRecDepth 100000 in
def pX3_numberOf (x : SB) (q : Nat × Nat × Nat × Int32 × Int32 × Int32 × Mm) : Prop := match q.1 with
  | 1 => sh q.2.1 = 13 → sh q.2.2.1 = 14 → ∀ (ls : Array Slot) (H : Heap) (locs : List Loc), lv_has ls x.2.2.2.1 [(0, rf x.2.1 q.2.1), (1, rf x.2.1 q.2.2.1), (2, .int q.2.2.2.1), (3, .int q.2.2.2.2.1), (4, .int q.2.2.2.2.2.1)] → PW x.2.1 (q.2.2.2.2.2.2) H → SH x H locs → SW x H locs 3 ls []
  | 2 => sh q.2.1 = 13 → sh q.2.2.1 = 14 → ∀ (ls : Array Slot) (H : Heap) (locs : List Loc), lv_has ls x.2.2.2.1 [(0, rf x.2.1 q.2.1), (1, rf x.2.1 q.2.2.1), (2, .int q.2.2.2.1), (3, .int q.2.2.2.2.1), (4, .int q.2.2.2.2.2.1)] → PW x.2.1 (q.2.2.2.2.2.2) H → SH x H locs → SW x H locs 46 ls []
  | _ => True
set_option maxRecDepth 100000 in
noncomputable def bX3_numberOf_46 (l0 : Nat) (l1 : Nat) (l2 : Int32) (l3 : Int32) (l4 : Int32) (M : Mm) : Option ((Nat × Nat × Nat × Int32 × Int32 × Int32 × Mm) ⊕ Int32 × Mm) := if l2 ≤ l4 then gfR M 0 l0 0 fun v1 => ldI M v1 0 fun v2 => some (.inr (v2, M)) else gfR M 0 l1 5 fun v3 => ldI M v3 0 fun v4 => cal (fX3_leastOpen l0 (v4 &&& l3) M) fun v6 M5 => pfI M5 l0 2 v6 fun M7 => cal (fX3_lengthen l0 l1 l3 M7) fun _ M8 => some (.inl (2, l0, l1, l2, l3, (l4 + 1), M8))
set_option maxRecDepth 100000 in
set_option maxHeartbeats 4000000 in
theorem sX3_numberOf_46 {x : SB} {F : ((Nat × Nat × Nat × Int32 × Int32 × Int32 × Mm) ⊕ Int32 × Mm) → Prop} (X : CX x cX3_numberOf RX3 2) (hL : x.2.2.2.1 = 5) (Hr : RTI x cX3_numberOf .int F Sum.inr) (HH : ∀ q, F (.inl q) → pX3_numberOf x q) {l0 : Nat} {l1 : Nat} {l2 : Int32} {l3 : Int32} {l4 : Int32} {M : Mm} (h_l0 : sh l0 = 13) (h_l1 : sh l1 = 14) : SIM x F (bX3_numberOf_46 l0 l1 l2 l3 l4 M) 46 [(0, rf x.2.1 l0), (1, rf x.2.1 l1), (2, .int l2), (3, .int l3), (4, .int l4)] [] M := by
  unfold bX3_numberOf_46
  refine r_iload X dX3_numberOf_46 4 rfl ?_
  refine r_iload_n X dX3_numberOf_48 rfl 2 rfl ?_
  refine r_icmp_ge 80 X dX3_numberOf_49 (by decide) ?_ ?_
  · refine r_aload_n X dX3_numberOf_80 rfl 0 rfl ?_
    refine r_getR X fl_X3_9 (by decide) h_l0 dX3_numberOf_81 (fun v1 h_v1 => ?_)
    refine r_iconst (v := 0) X dX3_numberOf_84 (by decide) ?_
    refine r_iald X h_v1 dX3_numberOf_85 (fun v2 => ?_)
    exact r_iret Hr rfl dX3_numberOf_86
  · refine r_aload_n X dX3_numberOf_52 rfl 0 rfl ?_
    refine r_aload_n X dX3_numberOf_53 rfl 0 rfl ?_
    refine r_aload_n X dX3_numberOf_54 rfl 1 rfl ?_
    refine r_getR X fl_X3_28 (by decide) h_l1 dX3_numberOf_55 (fun v3 h_v3 => ?_)
    refine r_iconst (v := 0) X dX3_numberOf_58 (by decide) ?_
    refine r_iald X h_v3 dX3_numberOf_59 (fun v4 => ?_)
    refine r_iload_n X dX3_numberOf_60 rfl 3 rfl ?_
    refine r_iand X dX3_numberOf_61 ?_
    refine r_callVI [.int (v4 &&& l3)] X mt_X3_31 (by decide) h_l0 (by decide) (okX3_leastOpen _ _ X.J h_l0) rfl (Nat.le_of_ble_eq_true rfl) dX3_numberOf_62 rfl (fun v6 M5 => ?_)
    refine r_putI X fl_X3_18 (by decide) h_l0 (fun _ => rfl) (fun _ => rfl) dX3_numberOf_65 (fun M7 => ?_)
    refine r_aload_n X dX3_numberOf_68 rfl 0 rfl ?_
    refine r_aload_n X dX3_numberOf_69 rfl 1 rfl ?_
    refine r_iload_n X dX3_numberOf_70 rfl 3 rfl ?_
    refine r_callVV [rf x.2.1 l1, .int l3] X mt_X3_35 (by decide) h_l0 (by decide) (okX3_lengthen _ _ X.J h_l0 h_l1) rfl (Nat.le_of_ble_eq_true rfl) dX3_numberOf_71 rfl (fun _ M8 => ?_)
    refine r_iinc [(4, .int (l4 + 1)), (0, rf x.2.1 l0), (1, rf x.2.1 l1), (2, .int l2), (3, .int l3)] X dX3_numberOf_74 4 rfl rfl (nlt hL (by decide)) rfl ?_
    refine r_goto 46 X dX3_numberOf_77 (by decide) ?_
    exact r_hdr [(0, rf x.2.1 l0), (1, rf x.2.1 l1), (2, .int l2), (3, .int l3), (4, .int (l4 + 1))] [1, 2, 3, 4, 0] rfl (fun h => HH _ h h_l0 h_l1)
set_option maxRecDepth 100000 in
noncomputable def bX3_numberOf_30 (l0 : Nat) (l1 : Nat) (l2 : Int32) (l3 : Int32) (l4 : Int32) (s0 : Int32) (s1 : Int32) (s2 : Nat) (M : Mm) : Option ((Nat × Nat × Nat × Int32 × Int32 × Int32 × Mm) ⊕ Int32 × Mm) := stI M s2 s1 s0 fun M9 => some (.inl (1, l0, l1, l2, l3, (l4 + 1), M9))
set_option maxRecDepth 100000 in
set_option maxHeartbeats 4000000 in
theorem sX3_numberOf_30 {x : SB} {F : ((Nat × Nat × Nat × Int32 × Int32 × Int32 × Mm) ⊕ Int32 × Mm) → Prop} (X : CX x cX3_numberOf RX3 2) (hL : x.2.2.2.1 = 5) (Hr : RTI x cX3_numberOf .int F Sum.inr) (HH : ∀ q, F (.inl q) → pX3_numberOf x q) {l0 : Nat} {l1 : Nat} {l2 : Int32} {l3 : Int32} {l4 : Int32} {s0 : Int32} {s1 : Int32} {s2 : Nat} {M : Mm} (h_l0 : sh l0 = 13) (h_l1 : sh l1 = 14) (h_s2 : sh s2 = 0) : SIM x F (bX3_numberOf_30 l0 l1 l2 l3 l4 s0 s1 s2 M) 30 [(0, rf x.2.1 l0), (1, rf x.2.1 l1), (2, .int l2), (3, .int l3), (4, .int l4)] [.int s0, .int s1, rf x.2.1 s2] M := by
  unfold bX3_numberOf_30
  refine r_iast X h_s2 dX3_numberOf_30 (fun M9 => ?_)
  refine r_iinc [(4, .int (l4 + 1)), (0, rf x.2.1 l0), (1, rf x.2.1 l1), (2, .int l2), (3, .int l3)] X dX3_numberOf_31 4 rfl rfl (nlt hL (by decide)) rfl ?_
  refine r_goto 3 X dX3_numberOf_34 (by decide) ?_
  exact r_hdr [(0, rf x.2.1 l0), (1, rf x.2.1 l1), (2, .int l2), (3, .int l3), (4, .int (l4 + 1))] [1, 2, 3, 4, 0] rfl (fun h => HH _ h h_l0 h_l1)
set_option maxRecDepth 100000 in
noncomputable def bX3_numberOf_3 (l0 : Nat) (l1 : Nat) (l2 : Int32) (l3 : Int32) (l4 : Int32) (M : Mm) : Option ((Nat × Nat × Nat × Int32 × Int32 × Int32 × Mm) ⊕ Int32 × Mm) := if 8 ≤ l4 then pfI M l0 2 (-9) fun M10 => some (.inl (2, l0, l1, l2, l3, 0, M10)) else gfR M 0 l0 0 fun v11 => cal (fX4_standing l1 M) fun v13 M12 => if l4 = v13 then bX3_numberOf_30 l0 l1 l2 l3 l4 1 l4 v11 M12 else bX3_numberOf_30 l0 l1 l2 l3 l4 0 l4 v11 M12
set_option maxRecDepth 100000 in
set_option maxHeartbeats 4000000 in
theorem sX3_numberOf_3 {x : SB} {F : ((Nat × Nat × Nat × Int32 × Int32 × Int32 × Mm) ⊕ Int32 × Mm) → Prop} (X : CX x cX3_numberOf RX3 2) (hL : x.2.2.2.1 = 5) (Hr : RTI x cX3_numberOf .int F Sum.inr) (HH : ∀ q, F (.inl q) → pX3_numberOf x q) {l0 : Nat} {l1 : Nat} {l2 : Int32} {l3 : Int32} {l4 : Int32} {M : Mm} (h_l0 : sh l0 = 13) (h_l1 : sh l1 = 14) : SIM x F (bX3_numberOf_3 l0 l1 l2 l3 l4 M) 3 [(0, rf x.2.1 l0), (1, rf x.2.1 l1), (2, .int l2), (3, .int l3), (4, .int l4)] [] M := by
  unfold bX3_numberOf_3
  refine r_iload X dX3_numberOf_3 4 rfl ?_
  refine r_bipush (v := 8) X dX3_numberOf_5 (by decide) ?_
  refine r_icmp_ge 37 X dX3_numberOf_7 (by decide) ?_ ?_
  · refine r_aload_n X dX3_numberOf_37 rfl 0 rfl ?_
    refine r_bipush (v := (-9)) X dX3_numberOf_38 (by decide) ?_
    refine r_putI X fl_X3_18 (by decide) h_l0 (fun _ => rfl) (fun _ => rfl) dX3_numberOf_40 (fun M10 => ?_)
    refine r_iconst (v := 0) X dX3_numberOf_43 (by decide) ?_
    refine r_istore [(4, .int 0), (0, rf x.2.1 l0), (1, rf x.2.1 l1), (2, .int l2), (3, .int l3)] X dX3_numberOf_44 (nlt hL (by decide)) rfl ?_
    exact r_hdr [(0, rf x.2.1 l0), (1, rf x.2.1 l1), (2, .int l2), (3, .int l3), (4, .int 0)] [1, 2, 3, 4, 0] rfl (fun h => HH _ h h_l0 h_l1)
  · refine r_aload_n X dX3_numberOf_10 rfl 0 rfl ?_
    refine r_getR X fl_X3_9 (by decide) h_l0 dX3_numberOf_11 (fun v11 h_v11 => ?_)
    refine r_iload X dX3_numberOf_14 4 rfl ?_
    refine r_iload X dX3_numberOf_16 4 rfl ?_
    refine r_aload_n X dX3_numberOf_18 rfl 1 rfl ?_
    refine r_callVI [] X mt_X3_22 (by decide) h_l1 (by decide) (okX4_standing _ _ X.J h_l1) rfl (Nat.le_of_ble_eq_true rfl) dX3_numberOf_19 rfl (fun v13 M12 => ?_)
    refine r_icmp_ne 29 X dX3_numberOf_22 (by decide) ?_ ?_
    · refine r_iconst (v := 1) X dX3_numberOf_25 (by decide) ?_
      refine r_goto 30 X dX3_numberOf_26 (by decide) ?_
      exact r_to [(0, rf x.2.1 l0), (1, rf x.2.1 l1), (2, .int l2), (3, .int l3), (4, .int l4)] [0, 1, 2, 3, 4] rfl (sX3_numberOf_30 X hL Hr HH h_l0 h_l1 h_v11)
    · refine r_iconst (v := 0) X dX3_numberOf_29 (by decide) ?_
      exact r_to [(0, rf x.2.1 l0), (1, rf x.2.1 l1), (2, .int l2), (3, .int l3), (4, .int l4)] [0, 1, 2, 3, 4] rfl (sX3_numberOf_30 X hL Hr HH h_l0 h_l1 h_v11)
set_option maxRecDepth 100000 in
noncomputable def bX3_numberOf_0 (l0 : Nat) (l1 : Nat) (l2 : Int32) (l3 : Int32) (M : Mm) : Option ((Nat × Nat × Nat × Int32 × Int32 × Int32 × Mm) ⊕ Int32 × Mm) := some (.inl (1, l0, l1, l2, l3, 0, M))
set_option maxRecDepth 100000 in
set_option maxHeartbeats 4000000 in
theorem sX3_numberOf_0 {x : SB} {F : ((Nat × Nat × Nat × Int32 × Int32 × Int32 × Mm) ⊕ Int32 × Mm) → Prop} (X : CX x cX3_numberOf RX3 2) (hL : x.2.2.2.1 = 5) (Hr : RTI x cX3_numberOf .int F Sum.inr) (HH : ∀ q, F (.inl q) → pX3_numberOf x q) {l0 : Nat} {l1 : Nat} {l2 : Int32} {l3 : Int32} {M : Mm} (h_l0 : sh l0 = 13) (h_l1 : sh l1 = 14) : SIM x F (bX3_numberOf_0 l0 l1 l2 l3 M) 0 [(0, rf x.2.1 l0), (1, rf x.2.1 l1), (2, .int l2), (3, .int l3)] [] M := by
  unfold bX3_numberOf_0
  refine r_iconst (v := 0) X dX3_numberOf_0 (by decide) ?_
  refine r_istore [(4, .int 0), (0, rf x.2.1 l0), (1, rf x.2.1 l1), (2, .int l2), (3, .int l3)] X dX3_numberOf_1 (nlt hL (by decide)) rfl ?_
  exact r_hdr [(0, rf x.2.1 l0), (1, rf x.2.1 l1), (2, .int l2), (3, .int l3), (4, .int 0)] [1, 2, 3, 4, 0] rfl (fun h => HH _ h h_l0 h_l1)
set_option maxRecDepth 100000 in
noncomputable def gX3_numberOf (q : Nat × Nat × Nat × Int32 × Int32 × Int32 × Mm) : Option ((Nat × Nat × Nat × Int32 × Int32 × Int32 × Mm) ⊕ Int32 × Mm) := match q.1 with
  | 1 => bX3_numberOf_3 (q.2.1) (q.2.2.1) (q.2.2.2.1) (q.2.2.2.2.1) (q.2.2.2.2.2.1) (q.2.2.2.2.2.2)
  | 2 => bX3_numberOf_46 (q.2.1) (q.2.2.1) (q.2.2.2.1) (q.2.2.2.2.1) (q.2.2.2.2.2.1) (q.2.2.2.2.2.2)
  | _ => none
set_option maxRecDepth 100000 in
noncomputable def fX3_numberOf (l0 : Nat) (l1 : Nat) (l2 : Int32) (l3 : Int32) (M : Mm) : Option (Int32 × Mm) := fen gX3_numberOf (bX3_numberOf_0 l0 l1 l2 l3 M)
set_option maxRecDepth 100000 in
set_option maxHeartbeats 4000000 in
theorem okX3_numberOf (l : Launch) (g : GX) (hJ : IJ g) {l0 : Nat} {l1 : Nat} {l2 : Int32} {l3 : Int32} {M : Mm} (h_l0 : sh l0 = 13) (h_l1 : sh l1 = 14) : CT l g yX3_numberOf cX3_numberOf 5 (some .int) 2 [rf g l0, rf g l1, .int l2, .int l3] M (fX3_numberOf l0 l1 l2 l3 M) (fun r => some (.int r)) := by
  refine ct_I rfl hJ (Nat.le_of_ble_eq_true rfl) (fun x r hg hL hl X hf Hr => ?_)
  subst hg
  have Hr2 : RTI x cX3_numberOf .int (Sum.elim (pX3_numberOf x) (fun q => q = r)) Sum.inr := fun v M h => Hr v M h
  have HP : ∀ q, fnl gX3_numberOf q = some r → pX3_numberOf x q := by
    intro q hq
    refine fnl_ind (pX3_numberOf x) (fun q hq => ?_) hq
    obtain ⟨n, l0, l1, l2, l3, l4, M⟩ := q
    match n, hq with
    | 1, hq => exact fun h_l0 h_l1 ls H locs hl hP hS => sX3_numberOf_3 X hL Hr2 (fun _ h => h) h_l0 h_l1 hq ls H locs hl hP hS
    | 2, hq => exact fun h_l0 h_l1 ls H locs hl hP hS => sX3_numberOf_46 X hL Hr2 (fun _ h => h) h_l0 h_l1 hq ls H locs hl hP hS
    | 0, hq => exact trivial
    | n + 3, hq => exact trivial
  exact fun _ ls H locs hl hP hS => sX3_numberOf_0 X hL Hr2 (fun _ h => h) h_l0 h_l1 (fen_w hf HP) ls H locs hl hP hS
/-! CrumbWood.nearest()I -/
set_option maxRecDepth 100000 in
def pX5_nearest (x : SB) (q : Nat × Nat × Int32 × Mm) : Prop := match q.1 with
  | 1 => sh q.2.1 = 15 → ∀ (ls : Array Slot) (H : Heap) (locs : List Loc), lv_has ls x.2.2.2.1 [(0, rf x.2.1 q.2.1), (1, .int q.2.2.1)] → PW x.2.1 (q.2.2.2) H → SH x H locs → SW x H locs 15 ls []
  | _ => True
set_option maxRecDepth 100000 in
noncomputable def bX5_nearest_15 (l0 : Nat) (l1 : Int32) (M : Mm) : Option ((Nat × Nat × Int32 × Mm) ⊕ Int32 × Mm) := gfR M 14 l0 2 fun v1 => gfI M v1 0 fun v2 => if v2 ≤ l1 then some (.inr ((-9), M)) else gfR M 13 l0 7 fun v3 => gfR M 14 l0 2 fun v4 => gfR M 14 l0 2 fun v5 => cal (fX4_all v5 M) fun v7 M6 => cal (fX3_numberOf v3 v4 l1 v7 M6) fun v9 M8 => if v9 ≤ 0 then some (.inl (1, l0, (l1 + 1), M8)) else pfI M8 l0 10 v9 fun M10 => some (.inr (l1, M10))
set_option maxRecDepth 100000 in
set_option maxHeartbeats 4000000 in
theorem sX5_nearest_15 {x : SB} {F : ((Nat × Nat × Int32 × Mm) ⊕ Int32 × Mm) → Prop} (X : CX x cX5_nearest RX5 3) (hL : x.2.2.2.1 = 3) (Hr : RTI x cX5_nearest .int F Sum.inr) (HH : ∀ q, F (.inl q) → pX5_nearest x q) {l0 : Nat} {l1 : Int32} {M : Mm} (h_l0 : sh l0 = 15) : SIM x F (bX5_nearest_15 l0 l1 M) 15 [(0, rf x.2.1 l0), (1, .int l1)] [] M := by
  unfold bX5_nearest_15
  refine r_iload_n X dX5_nearest_15 rfl 1 rfl ?_
  refine r_aload_n X dX5_nearest_16 rfl 0 rfl ?_
  refine r_getR X fl_X5_21 (by decide) h_l0 dX5_nearest_17 (fun v1 h_v1 => ?_)
  refine r_getI X fl_X5_120 (by decide) h_v1 dX5_nearest_20 (fun v2 => ?_)
  refine r_icmp_ge 63 X dX5_nearest_23 (by decide) ?_ ?_
  · refine r_bipush (v := (-9)) X dX5_nearest_63 (by decide) ?_
    exact r_iret Hr rfl dX5_nearest_65
  · refine r_aload_n X dX5_nearest_26 rfl 0 rfl ?_
    refine r_getR X fl_X5_49 (by decide) h_l0 dX5_nearest_27 (fun v3 h_v3 => ?_)
    refine r_aload_n X dX5_nearest_30 rfl 0 rfl ?_
    refine r_getR X fl_X5_21 (by decide) h_l0 dX5_nearest_31 (fun v4 h_v4 => ?_)
    refine r_iload_n X dX5_nearest_34 rfl 1 rfl ?_
    refine r_aload_n X dX5_nearest_35 rfl 0 rfl ?_
    refine r_getR X fl_X5_21 (by decide) h_l0 dX5_nearest_36 (fun v5 h_v5 => ?_)
    refine r_callVI [] X mt_X5_225 (by decide) h_v5 (by decide) (okX4_all _ _ X.J h_v5) rfl (Nat.le_of_ble_eq_true rfl) dX5_nearest_39 rfl (fun v7 M6 => ?_)
    refine r_callVI [rf x.2.1 v4, .int l1, .int v7] X mt_X5_228 (by decide) h_v3 (by decide) (okX3_numberOf _ _ X.J h_v3 h_v4) rfl (Nat.le_of_ble_eq_true rfl) dX5_nearest_42 rfl (fun v9 M8 => ?_)
    refine r_istore_n [(2, .int v9), (0, rf x.2.1 l0), (1, .int l1)] X dX5_nearest_45 rfl (nlt hL (by decide)) rfl ?_
    refine r_iload_n X dX5_nearest_46 rfl 0 rfl ?_
    refine r_if_le 57 X dX5_nearest_47 (by decide) ?_ ?_
    · refine r_iinc [(1, .int (l1 + 1)), (2, .int v9), (0, rf x.2.1 l0)] X dX5_nearest_57 2 rfl rfl (nlt hL (by decide)) rfl ?_
      refine r_goto 15 X dX5_nearest_60 (by decide) ?_
      exact r_hdr [(0, rf x.2.1 l0), (1, .int (l1 + 1))] [2, 0] rfl (fun h => HH _ h h_l0)
    · refine r_aload_n X dX5_nearest_50 rfl 1 rfl ?_
      refine r_iload_n X dX5_nearest_51 rfl 0 rfl ?_
      refine r_putI X fl_X5_61 (by decide) h_l0 (fun _ => rfl) (fun _ => rfl) dX5_nearest_52 (fun M10 => ?_)
      refine r_iload_n X dX5_nearest_55 rfl 2 rfl ?_
      exact r_iret Hr rfl dX5_nearest_56
set_option maxRecDepth 100000 in
noncomputable def bX5_nearest_0 (l0 : Nat) (M : Mm) : Option ((Nat × Nat × Int32 × Mm) ⊕ Int32 × Mm) := gfR M 14 l0 2 fun v11 => cal (fX4_isEmpty v11 M) fun v13 M12 => if v13 = 0 then some (.inl (1, l0, 0, M12)) else some (.inr ((-4), M12))
set_option maxRecDepth 100000 in
set_option maxHeartbeats 4000000 in
theorem sX5_nearest_0 {x : SB} {F : ((Nat × Nat × Int32 × Mm) ⊕ Int32 × Mm) → Prop} (X : CX x cX5_nearest RX5 3) (hL : x.2.2.2.1 = 3) (Hr : RTI x cX5_nearest .int F Sum.inr) (HH : ∀ q, F (.inl q) → pX5_nearest x q) {l0 : Nat} {M : Mm} (h_l0 : sh l0 = 15) : SIM x F (bX5_nearest_0 l0 M) 0 [(0, rf x.2.1 l0)] [] M := by
  unfold bX5_nearest_0
  refine r_aload_n X dX5_nearest_0 rfl 0 rfl ?_
  refine r_getR X fl_X5_21 (by decide) h_l0 dX5_nearest_1 (fun v11 h_v11 => ?_)
  refine r_callVI [] X mt_X5_199 (by decide) h_v11 (by decide) (okX4_isEmpty _ _ X.J h_v11) rfl (Nat.le_of_ble_eq_true rfl) dX5_nearest_4 rfl (fun v13 M12 => ?_)
  refine r_if_eq 13 X dX5_nearest_7 (by decide) ?_ ?_
  · refine r_iconst (v := 0) X dX5_nearest_13 (by decide) ?_
    refine r_istore_n [(1, .int 0), (0, rf x.2.1 l0)] X dX5_nearest_14 rfl (nlt hL (by decide)) rfl ?_
    exact r_hdr [(0, rf x.2.1 l0), (1, .int 0)] [1, 0] rfl (fun h => HH _ h h_l0)
  · refine r_bipush (v := (-4)) X dX5_nearest_10 (by decide) ?_
    exact r_iret Hr rfl dX5_nearest_12
set_option maxRecDepth 100000 in
noncomputable def gX5_nearest (q : Nat × Nat × Int32 × Mm) : Option ((Nat × Nat × Int32 × Mm) ⊕ Int32 × Mm) := match q.1 with
  | 1 => bX5_nearest_15 (q.2.1) (q.2.2.1) (q.2.2.2)
  | _ => none
set_option maxRecDepth 100000 in
noncomputable def fX5_nearest (l0 : Nat) (M : Mm) : Option (Int32 × Mm) := fen gX5_nearest (bX5_nearest_0 l0 M)
set_option maxRecDepth 100000 in
set_option maxHeartbeats 4000000 in
theorem okX5_nearest (l : Launch) (g : GX) (hJ : IJ g) {l0 : Nat} {M : Mm} (h_l0 : sh l0 = 15) : CT l g yX5_nearest cX5_nearest 3 (some .int) 3 [rf g l0] M (fX5_nearest l0 M) (fun r => some (.int r)) := by
  refine ct_I rfl hJ (Nat.le_of_ble_eq_true rfl) (fun x r hg hL hl X hf Hr => ?_)
  subst hg
  have Hr2 : RTI x cX5_nearest .int (Sum.elim (pX5_nearest x) (fun q => q = r)) Sum.inr := fun v M h => Hr v M h
  have HP : ∀ q, fnl gX5_nearest q = some r → pX5_nearest x q := by
    intro q hq
    refine fnl_ind (pX5_nearest x) (fun q hq => ?_) hq
    obtain ⟨n, l0, l1, M⟩ := q
    match n, hq with
    | 1, hq => exact fun h_l0 ls H locs hl hP hS => sX5_nearest_15 X hL Hr2 (fun _ h => h) h_l0 hq ls H locs hl hP hS
    | 0, hq => exact trivial
    | n + 2, hq => exact trivial
  exact fun _ ls H locs hl hP hS => sX5_nearest_0 X hL Hr2 (fun _ h => h) h_l0 (fen_w hf HP) ls H locs hl hP hS
/-! CrumbWood.odds()I -/
set_option maxRecDepth 100000 in
noncomputable def fX5_odds (l0 : Nat) (M : Mm) : Option (Int32 × Mm) := gfR M 14 l0 2 fun v1 => cal (fX4_isEmpty v1 M) fun v3 M2 => if v3 = 0 then gfR M2 11 l0 6 fun v4 => gfR M2 14 l0 2 fun v5 => cal (fX1_look v4 v5 M2) fun _ M6 => gfR M6 11 l0 6 fun v7 => gfR M6 14 l0 2 fun v8 => cal (fX4_standing v8 M6) fun v10 M9 => cal (fX1_luckyCases v7 v10 0 M9) fun v12 M11 => gfR M11 11 l0 6 fun v13 => cal (fX1_cases v13 M11) fun v15 M14 => cal (fX5_tellChances l0 v12 v15 M14) fun _ M16 => some ((1, M16)) else some (((-4), M2))
set_option maxRecDepth 100000 in
set_option maxHeartbeats 4000000 in
theorem sX5_odds_0 {x : SB} {F : (Int32 × Mm) → Prop} (X : CX x cX5_odds RX5 4) (hL : x.2.2.2.1 = 1) (Hr : RTI x cX5_odds .int F (fun q => q)) {l0 : Nat} {M : Mm} (h_l0 : sh l0 = 15) : SIM x F (fX5_odds l0 M) 0 [(0, rf x.2.1 l0)] [] M := by
  unfold fX5_odds
  refine r_aload_n X dX5_odds_0 rfl 0 rfl ?_
  refine r_getR X fl_X5_21 (by decide) h_l0 dX5_odds_1 (fun v1 h_v1 => ?_)
  refine r_callVI [] X mt_X5_199 (by decide) h_v1 (by decide) (okX4_isEmpty _ _ X.J h_v1) rfl (Nat.le_of_ble_eq_true rfl) dX5_odds_4 rfl (fun v3 M2 => ?_)
  refine r_if_eq 13 X dX5_odds_7 (by decide) ?_ ?_
  · refine r_aload_n X dX5_odds_13 rfl 0 rfl ?_
    refine r_getR X fl_X5_42 (by decide) h_l0 dX5_odds_14 (fun v4 h_v4 => ?_)
    refine r_aload_n X dX5_odds_17 rfl 0 rfl ?_
    refine r_getR X fl_X5_21 (by decide) h_l0 dX5_odds_18 (fun v5 h_v5 => ?_)
    refine r_callVV [rf x.2.1 v5] X mt_X5_240 (by decide) h_v4 (by decide) (okX1_look _ _ X.J h_v4 h_v5) rfl (Nat.le_of_ble_eq_true rfl) dX5_odds_21 rfl (fun _ M6 => ?_)
    refine r_aload_n X dX5_odds_24 rfl 0 rfl ?_
    refine r_aload_n X dX5_odds_25 rfl 0 rfl ?_
    refine r_getR X fl_X5_42 (by decide) h_l0 dX5_odds_26 (fun v7 h_v7 => ?_)
    refine r_aload_n X dX5_odds_29 rfl 0 rfl ?_
    refine r_getR X fl_X5_21 (by decide) h_l0 dX5_odds_30 (fun v8 h_v8 => ?_)
    refine r_callVI [] X mt_X5_180 (by decide) h_v8 (by decide) (okX4_standing _ _ X.J h_v8) rfl (Nat.le_of_ble_eq_true rfl) dX5_odds_33 rfl (fun v10 M9 => ?_)
    refine r_iconst (v := 0) X dX5_odds_36 (by decide) ?_
    refine r_callVI [.int v10, .int 0] X mt_X5_243 (by decide) h_v7 (by decide) (okX1_luckyCases _ _ X.J h_v7) rfl (Nat.le_of_ble_eq_true rfl) dX5_odds_37 rfl (fun v12 M11 => ?_)
    refine r_aload_n X dX5_odds_40 rfl 0 rfl ?_
    refine r_getR X fl_X5_42 (by decide) h_l0 dX5_odds_41 (fun v13 h_v13 => ?_)
    refine r_callVI [] X mt_X5_246 (by decide) h_v13 (by decide) (okX1_cases _ _ X.J h_v13) rfl (Nat.le_of_ble_eq_true rfl) dX5_odds_44 rfl (fun v15 M14 => ?_)
    refine r_callVV [.int v12, .int v15] X mt_X5_249 (by decide) h_l0 (by decide) (okX5_tellChances _ _ X.J h_l0) rfl (Nat.le_of_ble_eq_true rfl) dX5_odds_47 rfl (fun _ M16 => ?_)
    refine r_iconst (v := 1) X dX5_odds_50 (by decide) ?_
    exact r_iret Hr rfl dX5_odds_51
  · refine r_bipush (v := (-4)) X dX5_odds_10 (by decide) ?_
    exact r_iret Hr rfl dX5_odds_12
set_option maxRecDepth 100000 in
set_option maxHeartbeats 4000000 in
theorem okX5_odds (l : Launch) (g : GX) (hJ : IJ g) {l0 : Nat} {M : Mm} (h_l0 : sh l0 = 15) : CT l g yX5_odds cX5_odds 1 (some .int) 4 [rf g l0] M (fX5_odds l0 M) (fun r => some (.int r)) := by
  refine ct_I rfl hJ (Nat.le_of_ble_eq_true rfl) (fun x r hg hL hl X hf Hr => ?_)
  subst hg
  exact fun _ ls H locs hl hP hS => sX5_odds_0 X hL Hr h_l0 ⟨_, hf, rfl⟩ ls H locs hl hP hS
/-! CrumbWood.on(I)I -/
set_option maxRecDepth 100000 in
noncomputable def fX5_on (l0 : Nat) (l1 : Int32) (M : Mm) : Option (Int32 × Mm) := cal (fX5_isBelow l1 3 M) fun v2 M1 => if v2 = 0 then some (((-1), M1)) else gfR M1 4 l0 3 fun v3 => ldR M1 14 v3 l1 fun v4 => cal (fX4_isEmpty v4 M1) fun v6 M5 => if v6 = 0 then gfR M5 14 l0 2 fun v7 => gfR M5 4 l0 3 fun v8 => ldR M5 14 v8 l1 fun v9 => cal (fX4_become v7 v9 M5) fun _ M10 => gfR M10 14 l0 2 fun v11 => gfI M10 v11 2 fun v12 => some ((v12, M10)) else cal (fX5_refuse l0 1 M5) fun v14 M13 => some ((v14, M13))
set_option maxRecDepth 100000 in
set_option maxHeartbeats 4000000 in
theorem sX5_on_0 {x : SB} {F : (Int32 × Mm) → Prop} (X : CX x cX5_on RX5 2) (hL : x.2.2.2.1 = 2) (Hr : RTI x cX5_on .int F (fun q => q)) {l0 : Nat} {l1 : Int32} {M : Mm} (h_l0 : sh l0 = 15) : SIM x F (fX5_on l0 l1 M) 0 [(0, rf x.2.1 l0), (1, .int l1)] [] M := by
  unfold fX5_on
  refine r_iload_n X dX5_on_0 rfl 1 rfl ?_
  refine r_iconst (v := 3) X dX5_on_1 (by decide) ?_
  refine r_callSI [.int l1, .int 3] X mt_X5_74 (by decide) (okX5_isBelow _ _ X.J) rfl (Nat.le_of_ble_eq_true rfl) dX5_on_2 rfl (fun v2 M1 => ?_)
  refine r_if_ne 10 X dX5_on_5 (by decide) ?_ ?_
  · refine r_iconst (v := (-1)) X dX5_on_8 (by decide) ?_
    exact r_iret Hr rfl dX5_on_9
  · refine r_aload_n X dX5_on_10 rfl 0 rfl ?_
    refine r_getR X fl_X5_25 (by decide) h_l0 dX5_on_11 (fun v3 h_v3 => ?_)
    refine r_iload_n X dX5_on_14 rfl 1 rfl ?_
    refine r_aldW X h_v3 dX5_on_15 (fun v4 h_v4 => ?_)
    refine r_callVI [] X mt_X5_199 (by decide) h_v4 (by decide) (okX4_isEmpty _ _ X.J h_v4) rfl (Nat.le_of_ble_eq_true rfl) dX5_on_16 rfl (fun v6 M5 => ?_)
    refine r_if_eq 28 X dX5_on_19 (by decide) ?_ ?_
    · refine r_aload_n X dX5_on_28 rfl 0 rfl ?_
      refine r_getR X fl_X5_21 (by decide) h_l0 dX5_on_29 (fun v7 h_v7 => ?_)
      refine r_aload_n X dX5_on_32 rfl 0 rfl ?_
      refine r_getR X fl_X5_25 (by decide) h_l0 dX5_on_33 (fun v8 h_v8 => ?_)
      refine r_iload_n X dX5_on_36 rfl 1 rfl ?_
      refine r_aldW X h_v8 dX5_on_37 (fun v9 h_v9 => ?_)
      refine r_callVV [rf x.2.1 v9] X mt_X5_116 (by decide) h_v7 (by decide) (okX4_become _ _ X.J h_v7 h_v9) rfl (Nat.le_of_ble_eq_true rfl) dX5_on_38 rfl (fun _ M10 => ?_)
      refine r_aload_n X dX5_on_41 rfl 0 rfl ?_
      refine r_getR X fl_X5_21 (by decide) h_l0 dX5_on_42 (fun v11 h_v11 => ?_)
      refine r_getI X fl_X5_184 (by decide) h_v11 dX5_on_45 (fun v12 => ?_)
      exact r_iret Hr rfl dX5_on_48
    · refine r_aload_n X dX5_on_22 rfl 0 rfl ?_
      refine r_iconst (v := 1) X dX5_on_23 (by decide) ?_
      refine r_callVI [.int 1] X mt_X5_78 (by decide) h_l0 (by decide) (okX5_refuse _ _ X.J h_l0) rfl (Nat.le_of_ble_eq_true rfl) dX5_on_24 rfl (fun v14 M13 => ?_)
      exact r_iret Hr rfl dX5_on_27
set_option maxRecDepth 100000 in
set_option maxHeartbeats 4000000 in
theorem okX5_on (l : Launch) (g : GX) (hJ : IJ g) {l0 : Nat} {l1 : Int32} {M : Mm} (h_l0 : sh l0 = 15) : CT l g yX5_on cX5_on 2 (some .int) 2 [rf g l0, .int l1] M (fX5_on l0 l1 M) (fun r => some (.int r)) := by
  refine ct_I rfl hJ (Nat.le_of_ble_eq_true rfl) (fun x r hg hL hl X hf Hr => ?_)
  subst hg
  exact fun _ ls H locs hl hP hS => sX5_on_0 X hL Hr h_l0 ⟨_, hf, rfl⟩ ls H locs hl hP hS
/-! CrumbWood.path(III)I -/
set_option maxRecDepth 100000 in
noncomputable def bX5_path_72 (l4 : Int32) (s0 : Int32) (s1 : Int32) (s2 : Int32) (s3 : Nat) (M : Mm) : Option (Int32 × Mm) := cal (fX4_join s3 s2 s1 s0 M) fun _ M1 => some ((l4, M1))
set_option maxRecDepth 100000 in
set_option maxHeartbeats 4000000 in
theorem sX5_path_72 {x : SB} {F : (Int32 × Mm) → Prop} (X : CX x cX5_path RX5 2) (hL : x.2.2.2.1 = 5) (Hr : RTI x cX5_path .int F (fun q => q)) {l4 : Int32} {s0 : Int32} {s1 : Int32} {s2 : Int32} {s3 : Nat} {M : Mm} (h_s3 : sh s3 = 14) : SIM x F (bX5_path_72 l4 s0 s1 s2 s3 M) 72 [(4, .int l4)] [.int s0, .int s1, .int s2, rf x.2.1 s3] M := by
  unfold bX5_path_72
  refine r_callVV [.int s2, .int s1, .int s0] X mt_X5_164 (by decide) h_s3 (by decide) (okX4_join _ _ X.J h_s3) rfl (Nat.le_of_ble_eq_true rfl) dX5_path_72 rfl (fun _ M1 => ?_)
  refine r_iload X dX5_path_75 0 rfl ?_
  exact r_iret Hr rfl dX5_path_77
set_option maxRecDepth 100000 in
noncomputable def bX5_path_54 (l0 : Nat) (l1 : Int32) (l2 : Int32) (l3 : Int32) (s0 : Int32) (M : Mm) : Option (Int32 × Mm) := gfR M 14 l0 2 fun v2 => if l3 = 1 then bX5_path_72 s0 1 l2 l1 v2 M else bX5_path_72 s0 0 l2 l1 v2 M
set_option maxRecDepth 100000 in
set_option maxHeartbeats 4000000 in
theorem sX5_path_54 {x : SB} {F : (Int32 × Mm) → Prop} (X : CX x cX5_path RX5 2) (hL : x.2.2.2.1 = 5) (Hr : RTI x cX5_path .int F (fun q => q)) {l0 : Nat} {l1 : Int32} {l2 : Int32} {l3 : Int32} {s0 : Int32} {M : Mm} (h_l0 : sh l0 = 15) : SIM x F (bX5_path_54 l0 l1 l2 l3 s0 M) 54 [(0, rf x.2.1 l0), (1, .int l1), (2, .int l2), (3, .int l3)] [.int s0] M := by
  unfold bX5_path_54
  refine r_istore [(4, .int s0), (0, rf x.2.1 l0), (1, .int l1), (2, .int l2), (3, .int l3)] X dX5_path_54 (nlt hL (by decide)) rfl ?_
  refine r_aload_n X dX5_path_56 rfl 1 rfl ?_
  refine r_getR X fl_X5_21 (by decide) h_l0 dX5_path_57 (fun v2 h_v2 => ?_)
  refine r_iload_n X dX5_path_60 rfl 2 rfl ?_
  refine r_iload_n X dX5_path_61 rfl 3 rfl ?_
  refine r_iload_n X dX5_path_62 rfl 4 rfl ?_
  refine r_iconst (v := 1) X dX5_path_63 (by decide) ?_
  refine r_icmp_ne 71 X dX5_path_64 (by decide) ?_ ?_
  · refine r_iconst (v := 1) X dX5_path_67 (by decide) ?_
    refine r_goto 72 X dX5_path_68 (by decide) ?_
    exact r_to [(4, .int s0)] [0] rfl (sX5_path_72 X hL Hr h_v2)
  · refine r_iconst (v := 0) X dX5_path_71 (by decide) ?_
    exact r_to [(4, .int s0)] [0] rfl (sX5_path_72 X hL Hr h_v2)
set_option maxRecDepth 100000 in
noncomputable def bX5_path_35  (M : Mm) : Option (Int32 × Mm) := some (((-1), M))
set_option maxRecDepth 100000 in
set_option maxHeartbeats 4000000 in
theorem sX5_path_35 {x : SB} {F : (Int32 × Mm) → Prop} (X : CX x cX5_path RX5 2) (hL : x.2.2.2.1 = 5) (Hr : RTI x cX5_path .int F (fun q => q))  {M : Mm}  : SIM x F (bX5_path_35  M) 35 [] [] M := by
  unfold bX5_path_35
  refine r_iconst (v := (-1)) X dX5_path_35 (by decide) ?_
  exact r_iret Hr rfl dX5_path_36
set_option maxRecDepth 100000 in
noncomputable def fX5_path (l0 : Nat) (l1 : Int32) (l2 : Int32) (l3 : Int32) (M : Mm) : Option (Int32 × Mm) := gfR M 14 l0 2 fun v3 => cal (fX4_hasPlace v3 l1 M) fun v5 M4 => if v5 = 0 then bX5_path_35 M4 else gfR M4 14 l0 2 fun v6 => cal (fX4_hasPlace v6 l2 M4) fun v8 M7 => if v8 = 0 then bX5_path_35 M7 else if l1 = l2 then bX5_path_35 M7 else cal (fX5_isBelow l3 2 M7) fun v10 M9 => if v10 = 0 then bX5_path_35 M9 else gfR M9 14 l0 2 fun v11 => cal (fX4_isBeside v11 l1 l2 M9) fun v13 M12 => if v13 = 0 then bX5_path_54 l0 l1 l2 l3 0 M12 else bX5_path_54 l0 l1 l2 l3 1 M12
set_option maxRecDepth 100000 in
set_option maxHeartbeats 4000000 in
theorem sX5_path_0 {x : SB} {F : (Int32 × Mm) → Prop} (X : CX x cX5_path RX5 2) (hL : x.2.2.2.1 = 5) (Hr : RTI x cX5_path .int F (fun q => q)) {l0 : Nat} {l1 : Int32} {l2 : Int32} {l3 : Int32} {M : Mm} (h_l0 : sh l0 = 15) : SIM x F (fX5_path l0 l1 l2 l3 M) 0 [(0, rf x.2.1 l0), (1, .int l1), (2, .int l2), (3, .int l3)] [] M := by
  unfold fX5_path
  refine r_aload_n X dX5_path_0 rfl 0 rfl ?_
  refine r_getR X fl_X5_21 (by decide) h_l0 dX5_path_1 (fun v3 h_v3 => ?_)
  refine r_iload_n X dX5_path_4 rfl 1 rfl ?_
  refine r_callVI [.int l1] X mt_X5_123 (by decide) h_v3 (by decide) (okX4_hasPlace _ _ X.J h_v3) rfl (Nat.le_of_ble_eq_true rfl) dX5_path_5 rfl (fun v5 M4 => ?_)
  refine r_if_eq 35 X dX5_path_8 (by decide) ?_ ?_
  · exact r_to [] [] rfl (sX5_path_35 X hL Hr)
  · refine r_aload_n X dX5_path_11 rfl 0 rfl ?_
    refine r_getR X fl_X5_21 (by decide) h_l0 dX5_path_12 (fun v6 h_v6 => ?_)
    refine r_iload_n X dX5_path_15 rfl 2 rfl ?_
    refine r_callVI [.int l2] X mt_X5_123 (by decide) h_v6 (by decide) (okX4_hasPlace _ _ X.J h_v6) rfl (Nat.le_of_ble_eq_true rfl) dX5_path_16 rfl (fun v8 M7 => ?_)
    refine r_if_eq 35 X dX5_path_19 (by decide) ?_ ?_
    · exact r_to [] [] rfl (sX5_path_35 X hL Hr)
    · refine r_iload_n X dX5_path_22 rfl 1 rfl ?_
      refine r_iload_n X dX5_path_23 rfl 2 rfl ?_
      refine r_icmp_eq 35 X dX5_path_24 (by decide) ?_ ?_
      · exact r_to [] [] rfl (sX5_path_35 X hL Hr)
      · refine r_iload_n X dX5_path_27 rfl 3 rfl ?_
        refine r_iconst (v := 2) X dX5_path_28 (by decide) ?_
        refine r_callSI [.int l3, .int 2] X mt_X5_74 (by decide) (okX5_isBelow _ _ X.J) rfl (Nat.le_of_ble_eq_true rfl) dX5_path_29 rfl (fun v10 M9 => ?_)
        refine r_if_ne 37 X dX5_path_32 (by decide) ?_ ?_
        · exact r_to [] [] rfl (sX5_path_35 X hL Hr)
        · refine r_aload_n X dX5_path_37 rfl 0 rfl ?_
          refine r_getR X fl_X5_21 (by decide) h_l0 dX5_path_38 (fun v11 h_v11 => ?_)
          refine r_iload_n X dX5_path_41 rfl 1 rfl ?_
          refine r_iload_n X dX5_path_42 rfl 2 rfl ?_
          refine r_callVI [.int l1, .int l2] X mt_X5_161 (by decide) h_v11 (by decide) (okX4_isBeside _ _ X.J h_v11) rfl (Nat.le_of_ble_eq_true rfl) dX5_path_43 rfl (fun v13 M12 => ?_)
          refine r_if_eq 53 X dX5_path_46 (by decide) ?_ ?_
          · refine r_iconst (v := 0) X dX5_path_53 (by decide) ?_
            exact r_to [(0, rf x.2.1 l0), (1, .int l1), (2, .int l2), (3, .int l3)] [0, 1, 2, 3] rfl (sX5_path_54 X hL Hr h_l0)
          · refine r_iconst (v := 1) X dX5_path_49 (by decide) ?_
            refine r_goto 54 X dX5_path_50 (by decide) ?_
            exact r_to [(0, rf x.2.1 l0), (1, .int l1), (2, .int l2), (3, .int l3)] [0, 1, 2, 3] rfl (sX5_path_54 X hL Hr h_l0)
set_option maxRecDepth 100000 in
set_option maxHeartbeats 4000000 in
theorem okX5_path (l : Launch) (g : GX) (hJ : IJ g) {l0 : Nat} {l1 : Int32} {l2 : Int32} {l3 : Int32} {M : Mm} (h_l0 : sh l0 = 15) : CT l g yX5_path cX5_path 5 (some .int) 2 [rf g l0, .int l1, .int l2, .int l3] M (fX5_path l0 l1 l2 l3 M) (fun r => some (.int r)) := by
  refine ct_I rfl hJ (Nat.le_of_ble_eq_true rfl) (fun x r hg hL hl X hf Hr => ?_)
  subst hg
  exact fun _ ls H locs hl hP hS => sX5_path_0 X hL Hr h_l0 ⟨_, hf, rfl⟩ ls H locs hl hP hS
/-! CrumbWood.place(II)I -/
set_option maxRecDepth 100000 in
noncomputable def bX5_place_20  (M : Mm) : Option (Int32 × Mm) := some (((-1), M))
set_option maxRecDepth 100000 in
set_option maxHeartbeats 4000000 in
theorem sX5_place_20 {x : SB} {F : (Int32 × Mm) → Prop} (X : CX x cX5_place RX5 3) (hL : x.2.2.2.1 = 3) (Hr : RTI x cX5_place .int F (fun q => q))  {M : Mm}  : SIM x F (bX5_place_20  M) 20 [] [] M := by
  unfold bX5_place_20
  refine r_iconst (v := (-1)) X dX5_place_20 (by decide) ?_
  exact r_iret Hr rfl dX5_place_21
set_option maxRecDepth 100000 in
noncomputable def fX5_place (l0 : Nat) (l1 : Int32) (l2 : Int32) (M : Mm) : Option (Int32 × Mm) := gfR M 14 l0 2 fun v1 => cal (fX4_hasPlace v1 l1 M) fun v3 M2 => if v3 = 0 then bX5_place_20 M2 else cal (fX5_isBelow l2 6 M2) fun v5 M4 => if v5 = 0 then bX5_place_20 M4 else gfR M4 14 l0 2 fun v6 => cal (fX4_factOf v6 l1 l2 M4) fun v8 M7 => pfI M7 l0 10 v8 fun M9 => some ((1, M9))
set_option maxRecDepth 100000 in
set_option maxHeartbeats 4000000 in
theorem sX5_place_0 {x : SB} {F : (Int32 × Mm) → Prop} (X : CX x cX5_place RX5 3) (hL : x.2.2.2.1 = 3) (Hr : RTI x cX5_place .int F (fun q => q)) {l0 : Nat} {l1 : Int32} {l2 : Int32} {M : Mm} (h_l0 : sh l0 = 15) : SIM x F (fX5_place l0 l1 l2 M) 0 [(0, rf x.2.1 l0), (1, .int l1), (2, .int l2)] [] M := by
  unfold fX5_place
  refine r_aload_n X dX5_place_0 rfl 0 rfl ?_
  refine r_getR X fl_X5_21 (by decide) h_l0 dX5_place_1 (fun v1 h_v1 => ?_)
  refine r_iload_n X dX5_place_4 rfl 1 rfl ?_
  refine r_callVI [.int l1] X mt_X5_123 (by decide) h_v1 (by decide) (okX4_hasPlace _ _ X.J h_v1) rfl (Nat.le_of_ble_eq_true rfl) dX5_place_5 rfl (fun v3 M2 => ?_)
  refine r_if_eq 20 X dX5_place_8 (by decide) ?_ ?_
  · exact r_to [] [] rfl (sX5_place_20 X hL Hr)
  · refine r_iload_n X dX5_place_11 rfl 2 rfl ?_
    refine r_bipush (v := 6) X dX5_place_12 (by decide) ?_
    refine r_callSI [.int l2, .int 6] X mt_X5_74 (by decide) (okX5_isBelow _ _ X.J) rfl (Nat.le_of_ble_eq_true rfl) dX5_place_14 rfl (fun v5 M4 => ?_)
    refine r_if_ne 22 X dX5_place_17 (by decide) ?_ ?_
    · exact r_to [] [] rfl (sX5_place_20 X hL Hr)
    · refine r_aload_n X dX5_place_22 rfl 0 rfl ?_
      refine r_aload_n X dX5_place_23 rfl 0 rfl ?_
      refine r_getR X fl_X5_21 (by decide) h_l0 dX5_place_24 (fun v6 h_v6 => ?_)
      refine r_iload_n X dX5_place_27 rfl 1 rfl ?_
      refine r_iload_n X dX5_place_28 rfl 2 rfl ?_
      refine r_callVI [.int l1, .int l2] X mt_X5_127 (by decide) h_v6 (by decide) (okX4_factOf _ _ X.J h_v6) rfl (Nat.le_of_ble_eq_true rfl) dX5_place_29 rfl (fun v8 M7 => ?_)
      refine r_putI X fl_X5_61 (by decide) h_l0 (fun _ => rfl) (fun _ => rfl) dX5_place_32 (fun M9 => ?_)
      refine r_iconst (v := 1) X dX5_place_35 (by decide) ?_
      exact r_iret Hr rfl dX5_place_36
set_option maxRecDepth 100000 in
set_option maxHeartbeats 4000000 in
theorem okX5_place (l : Launch) (g : GX) (hJ : IJ g) {l0 : Nat} {l1 : Int32} {l2 : Int32} {M : Mm} (h_l0 : sh l0 = 15) : CT l g yX5_place cX5_place 3 (some .int) 3 [rf g l0, .int l1, .int l2] M (fX5_place l0 l1 l2 M) (fun r => some (.int r)) := by
  refine ct_I rfl hJ (Nat.le_of_ble_eq_true rfl) (fun x r hg hL hl X hf Hr => ?_)
  subst hg
  exact fun _ ls H locs hl hP hS => sX5_place_0 X hL Hr h_l0 ⟨_, hf, rfl⟩ ls H locs hl hP hS
/-! CrumbWood.pocket(I)I -/
set_option maxRecDepth 100000 in
noncomputable def fX5_pocket (l0 : Nat) (l1 : Int32) (M : Mm) : Option (Int32 × Mm) := cal (fX5_isBelow l1 3 M) fun v2 M1 => if v2 = 0 then some (((-1), M1)) else gfR M1 14 l0 2 fun v3 => gfR M1 0 v3 9 fun v4 => ldI M1 v4 l1 fun v5 => some ((v5, M1))
set_option maxRecDepth 100000 in
set_option maxHeartbeats 4000000 in
theorem sX5_pocket_0 {x : SB} {F : (Int32 × Mm) → Prop} (X : CX x cX5_pocket RX5 1) (hL : x.2.2.2.1 = 2) (Hr : RTI x cX5_pocket .int F (fun q => q)) {l0 : Nat} {l1 : Int32} {M : Mm} (h_l0 : sh l0 = 15) : SIM x F (fX5_pocket l0 l1 M) 0 [(0, rf x.2.1 l0), (1, .int l1)] [] M := by
  unfold fX5_pocket
  refine r_iload_n X dX5_pocket_0 rfl 1 rfl ?_
  refine r_iconst (v := 3) X dX5_pocket_1 (by decide) ?_
  refine r_callSI [.int l1, .int 3] X mt_X5_74 (by decide) (okX5_isBelow _ _ X.J) rfl (Nat.le_of_ble_eq_true rfl) dX5_pocket_2 rfl (fun v2 M1 => ?_)
  refine r_if_ne 10 X dX5_pocket_5 (by decide) ?_ ?_
  · refine r_iconst (v := (-1)) X dX5_pocket_8 (by decide) ?_
    exact r_iret Hr rfl dX5_pocket_9
  · refine r_aload_n X dX5_pocket_10 rfl 0 rfl ?_
    refine r_getR X fl_X5_21 (by decide) h_l0 dX5_pocket_11 (fun v3 h_v3 => ?_)
    refine r_getR X fl_X5_177 (by decide) h_v3 dX5_pocket_14 (fun v4 h_v4 => ?_)
    refine r_iload_n X dX5_pocket_17 rfl 1 rfl ?_
    refine r_iald X h_v4 dX5_pocket_18 (fun v5 => ?_)
    exact r_iret Hr rfl dX5_pocket_19
set_option maxRecDepth 100000 in
set_option maxHeartbeats 4000000 in
theorem okX5_pocket (l : Launch) (g : GX) (hJ : IJ g) {l0 : Nat} {l1 : Int32} {M : Mm} (h_l0 : sh l0 = 15) : CT l g yX5_pocket cX5_pocket 2 (some .int) 1 [rf g l0, .int l1] M (fX5_pocket l0 l1 M) (fun r => some (.int r)) := by
  refine ct_I rfl hJ (Nat.le_of_ble_eq_true rfl) (fun x r hg hL hl X hf Hr => ?_)
  subst hg
  exact fun _ ls H locs hl hP hS => sX5_pocket_0 X hL Hr h_l0 ⟨_, hf, rfl⟩ ls H locs hl hP hS
/-! CrumbWood.put(III)I -/
set_option maxRecDepth 100000 in
noncomputable def fX5_put (l0 : Nat) (l1 : Int32) (l2 : Int32) (l3 : Int32) (M : Mm) : Option (Int32 × Mm) := cal (fX5_isBelow l1 4 M) fun v2 M1 => if v2 = 0 then some (((-1), M1)) else gfR M1 3 l0 1 fun v3 => ldR M1 12 v3 l1 fun v4 => cal (fX2_lackOf v4 l2 M1) fun v6 M5 => if v6 = 0 then gfR M5 3 l0 1 fun v7 => ldR M5 12 v7 l1 fun v8 => gfR M5 0 v8 0 fun v9 => ldI M5 v9 l2 fun v10 => gfR M5 3 l0 1 fun v11 => ldR M5 12 v11 l1 fun v12 => gfR M5 0 v12 0 fun v13 => stI M5 v13 l2 ((l3 : Int32).toInt8.toInt32) fun M14 => some (((v10 + 1000), M14)) else cal (fX5_refuse l0 v6 M5) fun v16 M15 => some ((v16, M15))
set_option maxRecDepth 100000 in
set_option maxHeartbeats 4000000 in
theorem sX5_put_0 {x : SB} {F : (Int32 × Mm) → Prop} (X : CX x cX5_put RX5 2) (hL : x.2.2.2.1 = 6) (Hr : RTI x cX5_put .int F (fun q => q)) {l0 : Nat} {l1 : Int32} {l2 : Int32} {l3 : Int32} {M : Mm} (h_l0 : sh l0 = 15) : SIM x F (fX5_put l0 l1 l2 l3 M) 0 [(0, rf x.2.1 l0), (1, .int l1), (2, .int l2), (3, .int l3)] [] M := by
  unfold fX5_put
  refine r_iload_n X dX5_put_0 rfl 1 rfl ?_
  refine r_iconst (v := 4) X dX5_put_1 (by decide) ?_
  refine r_callSI [.int l1, .int 4] X mt_X5_74 (by decide) (okX5_isBelow _ _ X.J) rfl (Nat.le_of_ble_eq_true rfl) dX5_put_2 rfl (fun v2 M1 => ?_)
  refine r_if_ne 10 X dX5_put_5 (by decide) ?_ ?_
  · refine r_iconst (v := (-1)) X dX5_put_8 (by decide) ?_
    exact r_iret Hr rfl dX5_put_9
  · refine r_aload_n X dX5_put_10 rfl 0 rfl ?_
    refine r_getR X fl_X5_15 (by decide) h_l0 dX5_put_11 (fun v3 h_v3 => ?_)
    refine r_iload_n X dX5_put_14 rfl 1 rfl ?_
    refine r_aldS X h_v3 dX5_put_15 (fun v4 h_v4 => ?_)
    refine r_iload_n X dX5_put_16 rfl 2 rfl ?_
    refine r_callVI [.int l2] X mt_X5_86 (by decide) h_v4 (by decide) (okX2_lackOf _ _ X.J h_v4) rfl (Nat.le_of_ble_eq_true rfl) dX5_put_17 rfl (fun v6 M5 => ?_)
    refine r_istore [(4, .int v6), (0, rf x.2.1 l0), (1, .int l1), (2, .int l2), (3, .int l3)] X dX5_put_20 (nlt hL (by decide)) rfl ?_
    refine r_iload X dX5_put_22 0 rfl ?_
    refine r_if_eq 34 X dX5_put_24 (by decide) ?_ ?_
    · refine r_aload_n X dX5_put_34 rfl 1 rfl ?_
      refine r_getR X fl_X5_15 (by decide) h_l0 dX5_put_35 (fun v7 h_v7 => ?_)
      refine r_iload_n X dX5_put_38 rfl 2 rfl ?_
      refine r_aldS X h_v7 dX5_put_39 (fun v8 h_v8 => ?_)
      refine r_getR X fl_X5_89 (by decide) h_v8 dX5_put_40 (fun v9 h_v9 => ?_)
      refine r_iload_n X dX5_put_43 rfl 3 rfl ?_
      refine r_iald X h_v9 dX5_put_44 (fun v10 => ?_)
      refine r_istore [(5, .int v10), (4, .int v6), (0, rf x.2.1 l0), (1, .int l1), (2, .int l2), (3, .int l3)] X dX5_put_45 (nlt hL (by decide)) rfl ?_
      refine r_aload_n X dX5_put_47 rfl 2 rfl ?_
      refine r_getR X fl_X5_15 (by decide) h_l0 dX5_put_48 (fun v11 h_v11 => ?_)
      refine r_iload_n X dX5_put_51 rfl 3 rfl ?_
      refine r_aldS X h_v11 dX5_put_52 (fun v12 h_v12 => ?_)
      refine r_getR X fl_X5_89 (by decide) h_v12 dX5_put_53 (fun v13 h_v13 => ?_)
      refine r_iload_n X dX5_put_56 rfl 4 rfl ?_
      refine r_iload_n X dX5_put_57 rfl 5 rfl ?_
      refine r_i2b X dX5_put_58 ?_
      refine r_iast X h_v13 dX5_put_59 (fun M14 => ?_)
      refine r_iload X dX5_put_60 0 rfl ?_
      refine r_sipush (v := 1000) X dX5_put_62 (by decide) ?_
      refine r_iadd X dX5_put_65 ?_
      exact r_iret Hr rfl dX5_put_66
    · refine r_aload_n X dX5_put_27 rfl 1 rfl ?_
      refine r_iload X dX5_put_28 0 rfl ?_
      refine r_callVI [.int v6] X mt_X5_78 (by decide) h_l0 (by decide) (okX5_refuse _ _ X.J h_l0) rfl (Nat.le_of_ble_eq_true rfl) dX5_put_30 rfl (fun v16 M15 => ?_)
      exact r_iret Hr rfl dX5_put_33
set_option maxRecDepth 100000 in
set_option maxHeartbeats 4000000 in
theorem okX5_put (l : Launch) (g : GX) (hJ : IJ g) {l0 : Nat} {l1 : Int32} {l2 : Int32} {l3 : Int32} {M : Mm} (h_l0 : sh l0 = 15) : CT l g yX5_put cX5_put 6 (some .int) 2 [rf g l0, .int l1, .int l2, .int l3] M (fX5_put l0 l1 l2 l3 M) (fun r => some (.int r)) := by
  refine ct_I rfl hJ (Nat.le_of_ble_eq_true rfl) (fun x r hg hL hl X hf Hr => ?_)
  subst hg
  exact fun _ ls H locs hl hP hS => sX5_put_0 X hL Hr h_l0 ⟨_, hf, rfl⟩ ls H locs hl hP hS
/-! CrumbWood$Strip.renew(II)V -/
set_option maxRecDepth 100000 in
def pX2_renew (x : SB) (q : Nat × Nat × Int32 × Int32 × Mm) : Prop := match q.1 with
  | 1 => sh q.2.1 = 12 → ∀ (ls : Array Slot) (H : Heap) (locs : List Loc), lv_has ls x.2.2.2.1 [(0, rf x.2.1 q.2.1), (2, .int q.2.2.1), (3, .int q.2.2.2.1)] → PW x.2.1 (q.2.2.2.2) H → SH x H locs → SW x H locs 15 ls []
  | _ => True
set_option maxRecDepth 100000 in
noncomputable def bX2_renew_15 (l0 : Nat) (l2 : Int32) (l3 : Int32) (M : Mm) : Option ((Nat × Nat × Int32 × Int32 × Mm) ⊕ Unit × Mm) := gfI M l0 1 fun v1 => if v1 ≤ l3 then some (.inr ((), M)) else gfR M 0 l0 0 fun v2 => stI M v2 l3 l2 fun M3 => some (.inl (1, l0, l2, (l3 + 1), M3))
set_option maxRecDepth 100000 in
set_option maxHeartbeats 4000000 in
theorem sX2_renew_15 {x : SB} {F : ((Nat × Nat × Int32 × Int32 × Mm) ⊕ Unit × Mm) → Prop} (X : CX x cX2_renew RX2 1) (hL : x.2.2.2.1 = 4) (Hr : RTV x cX2_renew F Sum.inr) (HH : ∀ q, F (.inl q) → pX2_renew x q) {l0 : Nat} {l2 : Int32} {l3 : Int32} {M : Mm} (h_l0 : sh l0 = 12) : SIM x F (bX2_renew_15 l0 l2 l3 M) 15 [(0, rf x.2.1 l0), (2, .int l2), (3, .int l3)] [] M := by
  unfold bX2_renew_15
  refine r_iload_n X dX2_renew_15 rfl 2 rfl ?_
  refine r_aload_n X dX2_renew_16 rfl 0 rfl ?_
  refine r_getI X fl_X2_9 (by decide) h_l0 dX2_renew_17 (fun v1 => ?_)
  refine r_icmp_ge 36 X dX2_renew_20 (by decide) ?_ ?_
  · exact r_vret Hr dX2_renew_36
  · refine r_aload_n X dX2_renew_23 rfl 0 rfl ?_
    refine r_getR X fl_X2_21 (by decide) h_l0 dX2_renew_24 (fun v2 h_v2 => ?_)
    refine r_iload_n X dX2_renew_27 rfl 2 rfl ?_
    refine r_iload_n X dX2_renew_28 rfl 1 rfl ?_
    refine r_iast X h_v2 dX2_renew_29 (fun M3 => ?_)
    refine r_iinc [(3, .int (l3 + 1)), (0, rf x.2.1 l0), (2, .int l2)] X dX2_renew_30 2 rfl rfl (nlt hL (by decide)) rfl ?_
    refine r_goto 15 X dX2_renew_33 (by decide) ?_
    exact r_hdr [(0, rf x.2.1 l0), (2, .int l2), (3, .int (l3 + 1))] [1, 2, 0] rfl (fun h => HH _ h h_l0)
set_option maxRecDepth 100000 in
noncomputable def bX2_renew_0 (l0 : Nat) (l1 : Int32) (l2 : Int32) (M : Mm) : Option ((Nat × Nat × Int32 × Int32 × Mm) ⊕ Unit × Mm) := gfR M 0 l0 0 fun v4 => pfI M l0 1 (if (Int32.ofNat (ln v4)) < l1 then (Int32.ofNat (ln v4)) else l1) fun M5 => some (.inl (1, l0, l2, 0, M5))
set_option maxRecDepth 100000 in
set_option maxHeartbeats 4000000 in
theorem sX2_renew_0 {x : SB} {F : ((Nat × Nat × Int32 × Int32 × Mm) ⊕ Unit × Mm) → Prop} (X : CX x cX2_renew RX2 1) (hL : x.2.2.2.1 = 4) (Hr : RTV x cX2_renew F Sum.inr) (HH : ∀ q, F (.inl q) → pX2_renew x q) {l0 : Nat} {l1 : Int32} {l2 : Int32} {M : Mm} (h_l0 : sh l0 = 12) : SIM x F (bX2_renew_0 l0 l1 l2 M) 0 [(0, rf x.2.1 l0), (1, .int l1), (2, .int l2)] [] M := by
  unfold bX2_renew_0
  refine r_aload_n X dX2_renew_0 rfl 0 rfl ?_
  refine r_iload_n X dX2_renew_1 rfl 1 rfl ?_
  refine r_aload_n X dX2_renew_2 rfl 0 rfl ?_
  refine r_getR X fl_X2_21 (by decide) h_l0 dX2_renew_3 (fun v4 h_v4 => ?_)
  refine r_alenI X h_v4 dX2_renew_6 ?_
  refine r_min X k_292 k_293 k_67 k_294 (by decide) (Nat.le_of_ble_eq_true rfl) dX2_renew_7 ?_
  refine r_putI X fl_X2_9 (by decide) h_l0 (fun _ => rfl) (fun _ => rfl) dX2_renew_10 (fun M5 => ?_)
  refine r_iconst (v := 0) X dX2_renew_13 (by decide) ?_
  refine r_istore_n [(3, .int 0), (0, rf x.2.1 l0), (1, .int l1), (2, .int l2)] X dX2_renew_14 rfl (nlt hL (by decide)) rfl ?_
  exact r_hdr [(0, rf x.2.1 l0), (2, .int l2), (3, .int 0)] [1, 3, 0] rfl (fun h => HH _ h h_l0)
set_option maxRecDepth 100000 in
noncomputable def gX2_renew (q : Nat × Nat × Int32 × Int32 × Mm) : Option ((Nat × Nat × Int32 × Int32 × Mm) ⊕ Unit × Mm) := match q.1 with
  | 1 => bX2_renew_15 (q.2.1) (q.2.2.1) (q.2.2.2.1) (q.2.2.2.2)
  | _ => none
set_option maxRecDepth 100000 in
noncomputable def fX2_renew (l0 : Nat) (l1 : Int32) (l2 : Int32) (M : Mm) : Option (Unit × Mm) := fen gX2_renew (bX2_renew_0 l0 l1 l2 M)
set_option maxRecDepth 100000 in
set_option maxHeartbeats 4000000 in
theorem okX2_renew (l : Launch) (g : GX) (hJ : IJ g) {l0 : Nat} {l1 : Int32} {l2 : Int32} {M : Mm} (h_l0 : sh l0 = 12) : CT l g yX2_renew cX2_renew 4 none 1 [rf g l0, .int l1, .int l2] M (fX2_renew l0 l1 l2 M) (fun _ => none) := by
  refine ct_V rfl hJ (Nat.le_of_ble_eq_true rfl) (fun x r hg hL hl X hf Hr => ?_)
  subst hg
  have Hr2 : RTV x cX2_renew (Sum.elim (pX2_renew x) (fun q => q = r)) Sum.inr := fun M h => Hr M h
  have HP : ∀ q, fnl gX2_renew q = some r → pX2_renew x q := by
    intro q hq
    refine fnl_ind (pX2_renew x) (fun q hq => ?_) hq
    obtain ⟨n, l0, l2, l3, M⟩ := q
    match n, hq with
    | 1, hq => exact fun h_l0 ls H locs hl hP hS => sX2_renew_15 X hL Hr2 (fun _ h => h) h_l0 hq ls H locs hl hP hS
    | 0, hq => exact trivial
    | n + 2, hq => exact trivial
  exact fun _ ls H locs hl hP hS => sX2_renew_0 X hL Hr2 (fun _ h => h) h_l0 (fen_w hf HP) ls H locs hl hP hS
/-! CrumbWood.row(II)I -/
set_option maxRecDepth 100000 in
noncomputable def bX5_row_15  (M : Mm) : Option (Int32 × Mm) := some (((-1), M))
set_option maxRecDepth 100000 in
set_option maxHeartbeats 4000000 in
theorem sX5_row_15 {x : SB} {F : (Int32 × Mm) → Prop} (X : CX x cX5_row RX5 2) (hL : x.2.2.2.1 = 3) (Hr : RTI x cX5_row .int F (fun q => q))  {M : Mm}  : SIM x F (bX5_row_15  M) 15 [] [] M := by
  unfold bX5_row_15
  refine r_iconst (v := (-1)) X dX5_row_15 (by decide) ?_
  exact r_iret Hr rfl dX5_row_16
set_option maxRecDepth 100000 in
noncomputable def fX5_row (l0 : Nat) (l1 : Int32) (l2 : Int32) (M : Mm) : Option (Int32 × Mm) := cal (fX5_isBelow l1 6 M) fun v2 M1 => if v2 = 0 then bX5_row_15 M1 else if l2 ≤ 40 then if 0 ≤ l2 then gfR M1 3 l0 0 fun v3 => ldR M1 12 v3 l1 fun v4 => cal (fX2_renew v4 l2 0 M1) fun _ M5 => some ((l2, M5)) else cal (fX5_refuse l0 5 M1) fun v7 M6 => some ((v7, M6)) else bX5_row_15 M1
set_option maxRecDepth 100000 in
set_option maxHeartbeats 4000000 in
theorem sX5_row_0 {x : SB} {F : (Int32 × Mm) → Prop} (X : CX x cX5_row RX5 2) (hL : x.2.2.2.1 = 3) (Hr : RTI x cX5_row .int F (fun q => q)) {l0 : Nat} {l1 : Int32} {l2 : Int32} {M : Mm} (h_l0 : sh l0 = 15) : SIM x F (fX5_row l0 l1 l2 M) 0 [(0, rf x.2.1 l0), (1, .int l1), (2, .int l2)] [] M := by
  unfold fX5_row
  refine r_iload_n X dX5_row_0 rfl 1 rfl ?_
  refine r_bipush (v := 6) X dX5_row_1 (by decide) ?_
  refine r_callSI [.int l1, .int 6] X mt_X5_74 (by decide) (okX5_isBelow _ _ X.J) rfl (Nat.le_of_ble_eq_true rfl) dX5_row_3 rfl (fun v2 M1 => ?_)
  refine r_if_eq 15 X dX5_row_6 (by decide) ?_ ?_
  · exact r_to [] [] rfl (sX5_row_15 X hL Hr)
  · refine r_iload_n X dX5_row_9 rfl 2 rfl ?_
    refine r_bipush (v := 40) X dX5_row_10 (by decide) ?_
    refine r_icmp_le 17 X dX5_row_12 (by decide) ?_ ?_
    · refine r_iload_n X dX5_row_17 rfl 2 rfl ?_
      refine r_if_ge 27 X dX5_row_18 (by decide) ?_ ?_
      · refine r_aload_n X dX5_row_27 rfl 0 rfl ?_
        refine r_getR X fl_X5_11 (by decide) h_l0 dX5_row_28 (fun v3 h_v3 => ?_)
        refine r_iload_n X dX5_row_31 rfl 1 rfl ?_
        refine r_aldS X h_v3 dX5_row_32 (fun v4 h_v4 => ?_)
        refine r_iload_n X dX5_row_33 rfl 2 rfl ?_
        refine r_iconst (v := 0) X dX5_row_34 (by decide) ?_
        refine r_callVV [.int l2, .int 0] X mt_X5_82 (by decide) h_v4 (by decide) (okX2_renew _ _ X.J h_v4) rfl (Nat.le_of_ble_eq_true rfl) dX5_row_35 rfl (fun _ M5 => ?_)
        refine r_iload_n X dX5_row_38 rfl 2 rfl ?_
        exact r_iret Hr rfl dX5_row_39
      · refine r_aload_n X dX5_row_21 rfl 0 rfl ?_
        refine r_iconst (v := 5) X dX5_row_22 (by decide) ?_
        refine r_callVI [.int 5] X mt_X5_78 (by decide) h_l0 (by decide) (okX5_refuse _ _ X.J h_l0) rfl (Nat.le_of_ble_eq_true rfl) dX5_row_23 rfl (fun v7 M6 => ?_)
        exact r_iret Hr rfl dX5_row_26
    · exact r_to [] [] rfl (sX5_row_15 X hL Hr)
set_option maxRecDepth 100000 in
set_option maxHeartbeats 4000000 in
theorem okX5_row (l : Launch) (g : GX) (hJ : IJ g) {l0 : Nat} {l1 : Int32} {l2 : Int32} {M : Mm} (h_l0 : sh l0 = 15) : CT l g yX5_row cX5_row 3 (some .int) 2 [rf g l0, .int l1, .int l2] M (fX5_row l0 l1 l2 M) (fun r => some (.int r)) := by
  refine ct_I rfl hJ (Nat.le_of_ble_eq_true rfl) (fun x r hg hL hl X hf Hr => ?_)
  subst hg
  exact fun _ ls H locs hl hP hS => sX5_row_0 X hL Hr h_l0 ⟨_, hf, rfl⟩ ls H locs hl hP hS
/-! CrumbWood$Walks.commonPlaces(LCrumbWood$Wood;II)I -/
set_option maxRecDepth 100000 in
def pX3_commonPlaces (x : SB) (q : Nat × Nat × Nat × Int32 × Int32 × Int32 × Int32 × Int32 × Mm) : Prop := match q.1 with
  | 1 => sh q.2.1 = 13 → sh q.2.2.1 = 14 → ∀ (ls : Array Slot) (H : Heap) (locs : List Loc), lv_has ls x.2.2.2.1 [(0, rf x.2.1 q.2.1), (1, rf x.2.1 q.2.2.1), (2, .int q.2.2.2.1), (3, .int q.2.2.2.2.1), (4, .int q.2.2.2.2.2.1), (5, .int q.2.2.2.2.2.2.1), (6, .int q.2.2.2.2.2.2.2.1)] → PW x.2.1 (q.2.2.2.2.2.2.2.2) H → SH x H locs → SW x H locs 29 ls []
  | _ => True
set_option maxRecDepth 100000 in
noncomputable def bX3_commonPlaces_74 (l0 : Nat) (l1 : Nat) (l2 : Int32) (l3 : Int32) (l4 : Int32) (l5 : Int32) (l6 : Int32) (M : Mm) : Option ((Nat × Nat × Nat × Int32 × Int32 × Int32 × Int32 × Int32 × Mm) ⊕ Int32 × Mm) := some (.inl (1, l0, l1, l2, l3, l4, l5, (l6 + 1), M))
set_option maxRecDepth 100000 in
set_option maxHeartbeats 4000000 in
theorem sX3_commonPlaces_74 {x : SB} {F : ((Nat × Nat × Nat × Int32 × Int32 × Int32 × Int32 × Int32 × Mm) ⊕ Int32 × Mm) → Prop} (X : CX x cX3_commonPlaces RX3 3) (hL : x.2.2.2.1 = 8) (Hr : RTI x cX3_commonPlaces .int F Sum.inr) (HH : ∀ q, F (.inl q) → pX3_commonPlaces x q) {l0 : Nat} {l1 : Nat} {l2 : Int32} {l3 : Int32} {l4 : Int32} {l5 : Int32} {l6 : Int32} {M : Mm} (h_l0 : sh l0 = 13) (h_l1 : sh l1 = 14) : SIM x F (bX3_commonPlaces_74 l0 l1 l2 l3 l4 l5 l6 M) 74 [(0, rf x.2.1 l0), (1, rf x.2.1 l1), (2, .int l2), (3, .int l3), (4, .int l4), (5, .int l5), (6, .int l6)] [] M := by
  unfold bX3_commonPlaces_74
  refine r_iinc [(6, .int (l6 + 1)), (0, rf x.2.1 l0), (1, rf x.2.1 l1), (2, .int l2), (3, .int l3), (4, .int l4), (5, .int l5)] X dX3_commonPlaces_74 6 rfl rfl (nlt hL (by decide)) rfl ?_
  refine r_goto 29 X dX3_commonPlaces_77 (by decide) ?_
  exact r_hdr [(0, rf x.2.1 l0), (1, rf x.2.1 l1), (2, .int l2), (3, .int l3), (4, .int l4), (5, .int l5), (6, .int (l6 + 1))] [1, 2, 3, 4, 5, 6, 0] rfl (fun h => HH _ h h_l0 h_l1)
set_option maxRecDepth 100000 in
noncomputable def bX3_commonPlaces_29 (l0 : Nat) (l1 : Nat) (l2 : Int32) (l3 : Int32) (l4 : Int32) (l5 : Int32) (l6 : Int32) (M : Mm) : Option ((Nat × Nat × Nat × Int32 × Int32 × Int32 × Int32 × Int32 × Mm) ⊕ Int32 × Mm) := gfI M l1 0 fun v1 => if v1 ≤ l6 then some (.inr (l5, M)) else ltI ((1 : Int32) <<< (l6 &&& 31)) fun v2 => if (l4 &&& v2) = 0 then cal (fX3_numberOf l0 l1 l2 (l3 &&& (v2 ^^^ (-1))) M) fun v4 M3 => if v4 = 0 then ltI (l5 ||| v2) fun v5 => bX3_commonPlaces_74 l0 l1 l2 l3 l4 v5 l6 M3 else bX3_commonPlaces_74 l0 l1 l2 l3 l4 l5 l6 M3 else bX3_commonPlaces_74 l0 l1 l2 l3 l4 l5 l6 M
set_option maxRecDepth 100000 in
set_option maxHeartbeats 4000000 in
theorem sX3_commonPlaces_29 {x : SB} {F : ((Nat × Nat × Nat × Int32 × Int32 × Int32 × Int32 × Int32 × Mm) ⊕ Int32 × Mm) → Prop} (X : CX x cX3_commonPlaces RX3 3) (hL : x.2.2.2.1 = 8) (Hr : RTI x cX3_commonPlaces .int F Sum.inr) (HH : ∀ q, F (.inl q) → pX3_commonPlaces x q) {l0 : Nat} {l1 : Nat} {l2 : Int32} {l3 : Int32} {l4 : Int32} {l5 : Int32} {l6 : Int32} {M : Mm} (h_l0 : sh l0 = 13) (h_l1 : sh l1 = 14) : SIM x F (bX3_commonPlaces_29 l0 l1 l2 l3 l4 l5 l6 M) 29 [(0, rf x.2.1 l0), (1, rf x.2.1 l1), (2, .int l2), (3, .int l3), (4, .int l4), (5, .int l5), (6, .int l6)] [] M := by
  unfold bX3_commonPlaces_29
  refine r_iload X dX3_commonPlaces_29 6 rfl ?_
  refine r_aload_n X dX3_commonPlaces_31 rfl 1 rfl ?_
  refine r_getI X fl_X3_39 (by decide) h_l1 dX3_commonPlaces_32 (fun v1 => ?_)
  refine r_icmp_ge 80 X dX3_commonPlaces_35 (by decide) ?_ ?_
  · refine r_iload X dX3_commonPlaces_80 5 rfl ?_
    exact r_iret Hr rfl dX3_commonPlaces_82
  · refine r_iconst (v := 1) X dX3_commonPlaces_38 (by decide) ?_
    refine r_iload X dX3_commonPlaces_39 6 rfl ?_
    refine r_ishl X dX3_commonPlaces_41 ?_
    refine r_letI (fun v2 => ?_)
    refine r_istore [(7, .int v2), (0, rf x.2.1 l0), (1, rf x.2.1 l1), (2, .int l2), (3, .int l3), (4, .int l4), (5, .int l5), (6, .int l6)] X dX3_commonPlaces_42 (nlt hL (by decide)) rfl ?_
    refine r_iload X dX3_commonPlaces_44 5 rfl ?_
    refine r_iload X dX3_commonPlaces_46 0 rfl ?_
    refine r_iand X dX3_commonPlaces_48 ?_
    refine r_if_ne 74 X dX3_commonPlaces_49 (by decide) ?_ ?_
    · refine r_aload_n X dX3_commonPlaces_52 rfl 1 rfl ?_
      refine r_aload_n X dX3_commonPlaces_53 rfl 2 rfl ?_
      refine r_iload_n X dX3_commonPlaces_54 rfl 3 rfl ?_
      refine r_iload_n X dX3_commonPlaces_55 rfl 4 rfl ?_
      refine r_iload X dX3_commonPlaces_56 0 rfl ?_
      refine r_iconst (v := (-1)) X dX3_commonPlaces_58 (by decide) ?_
      refine r_ixor X dX3_commonPlaces_59 ?_
      refine r_iand X dX3_commonPlaces_60 ?_
      refine r_callVI [rf x.2.1 l1, .int l2, .int (l3 &&& (v2 ^^^ (-1)))] X mt_X3_48 (by decide) h_l0 (by decide) (okX3_numberOf _ _ X.J h_l0 h_l1) rfl (Nat.le_of_ble_eq_true rfl) dX3_commonPlaces_61 rfl (fun v4 M3 => ?_)
      refine r_if_ne 74 X dX3_commonPlaces_64 (by decide) ?_ ?_
      · refine r_iload X dX3_commonPlaces_67 6 rfl ?_
        refine r_iload X dX3_commonPlaces_69 0 rfl ?_
        refine r_ior X dX3_commonPlaces_71 ?_
        refine r_letI (fun v5 => ?_)
        refine r_istore [(5, .int v5), (7, .int v2), (0, rf x.2.1 l0), (1, rf x.2.1 l1), (2, .int l2), (3, .int l3), (4, .int l4), (6, .int l6)] X dX3_commonPlaces_72 (nlt hL (by decide)) rfl ?_
        exact r_to [(0, rf x.2.1 l0), (1, rf x.2.1 l1), (2, .int l2), (3, .int l3), (4, .int l4), (5, .int v5), (6, .int l6)] [2, 3, 4, 5, 6, 0, 7] rfl (sX3_commonPlaces_74 X hL Hr HH h_l0 h_l1)
      · exact r_to [(0, rf x.2.1 l0), (1, rf x.2.1 l1), (2, .int l2), (3, .int l3), (4, .int l4), (5, .int l5), (6, .int l6)] [1, 2, 3, 4, 5, 6, 7] rfl (sX3_commonPlaces_74 X hL Hr HH h_l0 h_l1)
    · exact r_to [(0, rf x.2.1 l0), (1, rf x.2.1 l1), (2, .int l2), (3, .int l3), (4, .int l4), (5, .int l5), (6, .int l6)] [1, 2, 3, 4, 5, 6, 7] rfl (sX3_commonPlaces_74 X hL Hr HH h_l0 h_l1)
set_option maxRecDepth 100000 in
noncomputable def bX3_commonPlaces_0 (l0 : Nat) (l1 : Nat) (l2 : Int32) (l3 : Int32) (M : Mm) : Option ((Nat × Nat × Nat × Int32 × Int32 × Int32 × Int32 × Int32 × Mm) ⊕ Int32 × Mm) := cal (fX3_numberOf l0 l1 l2 l3 M) fun v7 M6 => if v7 = 0 then some (.inr (0, M6)) else cal (fX4_standing l1 M6) fun v9 M8 => ltI ((1 : Int32) ||| ((1 : Int32) <<< (v9 &&& 31))) fun v10 => some (.inl (1, l0, l1, l2, l3, v10, v10, 0, M8))
set_option maxRecDepth 100000 in
set_option maxHeartbeats 4000000 in
theorem sX3_commonPlaces_0 {x : SB} {F : ((Nat × Nat × Nat × Int32 × Int32 × Int32 × Int32 × Int32 × Mm) ⊕ Int32 × Mm) → Prop} (X : CX x cX3_commonPlaces RX3 3) (hL : x.2.2.2.1 = 8) (Hr : RTI x cX3_commonPlaces .int F Sum.inr) (HH : ∀ q, F (.inl q) → pX3_commonPlaces x q) {l0 : Nat} {l1 : Nat} {l2 : Int32} {l3 : Int32} {M : Mm} (h_l0 : sh l0 = 13) (h_l1 : sh l1 = 14) : SIM x F (bX3_commonPlaces_0 l0 l1 l2 l3 M) 0 [(0, rf x.2.1 l0), (1, rf x.2.1 l1), (2, .int l2), (3, .int l3)] [] M := by
  unfold bX3_commonPlaces_0
  refine r_aload_n X dX3_commonPlaces_0 rfl 0 rfl ?_
  refine r_aload_n X dX3_commonPlaces_1 rfl 1 rfl ?_
  refine r_iload_n X dX3_commonPlaces_2 rfl 2 rfl ?_
  refine r_iload_n X dX3_commonPlaces_3 rfl 3 rfl ?_
  refine r_callVI [rf x.2.1 l1, .int l2, .int l3] X mt_X3_48 (by decide) h_l0 (by decide) (okX3_numberOf _ _ X.J h_l0 h_l1) rfl (Nat.le_of_ble_eq_true rfl) dX3_commonPlaces_4 rfl (fun v7 M6 => ?_)
  refine r_if_ne 12 X dX3_commonPlaces_7 (by decide) ?_ ?_
  · refine r_iconst (v := 0) X dX3_commonPlaces_10 (by decide) ?_
    exact r_iret Hr rfl dX3_commonPlaces_11
  · refine r_iconst (v := 1) X dX3_commonPlaces_12 (by decide) ?_
    refine r_iconst (v := 1) X dX3_commonPlaces_13 (by decide) ?_
    refine r_aload_n X dX3_commonPlaces_14 rfl 1 rfl ?_
    refine r_callVI [] X mt_X3_22 (by decide) h_l1 (by decide) (okX4_standing _ _ X.J h_l1) rfl (Nat.le_of_ble_eq_true rfl) dX3_commonPlaces_15 rfl (fun v9 M8 => ?_)
    refine r_ishl X dX3_commonPlaces_18 ?_
    refine r_ior X dX3_commonPlaces_19 ?_
    refine r_letI (fun v10 => ?_)
    refine r_istore [(4, .int v10), (0, rf x.2.1 l0), (1, rf x.2.1 l1), (2, .int l2), (3, .int l3)] X dX3_commonPlaces_20 (nlt hL (by decide)) rfl ?_
    refine r_iload X dX3_commonPlaces_22 0 rfl ?_
    refine r_istore [(5, .int v10), (4, .int v10), (0, rf x.2.1 l0), (1, rf x.2.1 l1), (2, .int l2), (3, .int l3)] X dX3_commonPlaces_24 (nlt hL (by decide)) rfl ?_
    refine r_iconst (v := 0) X dX3_commonPlaces_26 (by decide) ?_
    refine r_istore [(6, .int 0), (5, .int v10), (4, .int v10), (0, rf x.2.1 l0), (1, rf x.2.1 l1), (2, .int l2), (3, .int l3)] X dX3_commonPlaces_27 (nlt hL (by decide)) rfl ?_
    exact r_hdr [(0, rf x.2.1 l0), (1, rf x.2.1 l1), (2, .int l2), (3, .int l3), (4, .int v10), (5, .int v10), (6, .int 0)] [3, 4, 5, 6, 2, 1, 0] rfl (fun h => HH _ h h_l0 h_l1)
set_option maxRecDepth 100000 in
noncomputable def gX3_commonPlaces (q : Nat × Nat × Nat × Int32 × Int32 × Int32 × Int32 × Int32 × Mm) : Option ((Nat × Nat × Nat × Int32 × Int32 × Int32 × Int32 × Int32 × Mm) ⊕ Int32 × Mm) := match q.1 with
  | 1 => bX3_commonPlaces_29 (q.2.1) (q.2.2.1) (q.2.2.2.1) (q.2.2.2.2.1) (q.2.2.2.2.2.1) (q.2.2.2.2.2.2.1) (q.2.2.2.2.2.2.2.1) (q.2.2.2.2.2.2.2.2)
  | _ => none
set_option maxRecDepth 100000 in
noncomputable def fX3_commonPlaces (l0 : Nat) (l1 : Nat) (l2 : Int32) (l3 : Int32) (M : Mm) : Option (Int32 × Mm) := fen gX3_commonPlaces (bX3_commonPlaces_0 l0 l1 l2 l3 M)
set_option maxRecDepth 100000 in
set_option maxHeartbeats 4000000 in
theorem okX3_commonPlaces (l : Launch) (g : GX) (hJ : IJ g) {l0 : Nat} {l1 : Nat} {l2 : Int32} {l3 : Int32} {M : Mm} (h_l0 : sh l0 = 13) (h_l1 : sh l1 = 14) : CT l g yX3_commonPlaces cX3_commonPlaces 8 (some .int) 3 [rf g l0, rf g l1, .int l2, .int l3] M (fX3_commonPlaces l0 l1 l2 l3 M) (fun r => some (.int r)) := by
  refine ct_I rfl hJ (Nat.le_of_ble_eq_true rfl) (fun x r hg hL hl X hf Hr => ?_)
  subst hg
  have Hr2 : RTI x cX3_commonPlaces .int (Sum.elim (pX3_commonPlaces x) (fun q => q = r)) Sum.inr := fun v M h => Hr v M h
  have HP : ∀ q, fnl gX3_commonPlaces q = some r → pX3_commonPlaces x q := by
    intro q hq
    refine fnl_ind (pX3_commonPlaces x) (fun q hq => ?_) hq
    obtain ⟨n, l0, l1, l2, l3, l4, l5, l6, M⟩ := q
    match n, hq with
    | 1, hq => exact fun h_l0 h_l1 ls H locs hl hP hS => sX3_commonPlaces_29 X hL Hr2 (fun _ h => h) h_l0 h_l1 hq ls H locs hl hP hS
    | 0, hq => exact trivial
    | n + 2, hq => exact trivial
  exact fun _ ls H locs hl hP hS => sX3_commonPlaces_0 X hL Hr2 (fun _ h => h) h_l0 h_l1 (fen_w hf HP) ls H locs hl hP hS
/-! CrumbWood$Wood.marked()I -/
set_option maxRecDepth 100000 in
def pX4_marked (x : SB) (q : Nat × Nat × Int32 × Int32 × Mm) : Prop := match q.1 with
  | 1 => sh q.2.1 = 14 → ∀ (ls : Array Slot) (H : Heap) (locs : List Loc), lv_has ls x.2.2.2.1 [(0, rf x.2.1 q.2.1), (1, .int q.2.2.1), (2, .int q.2.2.2.1)] → PW x.2.1 (q.2.2.2.2) H → SH x H locs → SW x H locs 4 ls []
  | _ => True
set_option maxRecDepth 100000 in
noncomputable def bX4_marked_47 (l0 : Nat) (l1 : Int32) (l2 : Int32) (M : Mm) : Option ((Nat × Nat × Int32 × Int32 × Mm) ⊕ Int32 × Mm) := some (.inl (1, l0, l1, (l2 + 1), M))
set_option maxRecDepth 100000 in
set_option maxHeartbeats 4000000 in
theorem sX4_marked_47 {x : SB} {F : ((Nat × Nat × Int32 × Int32 × Mm) ⊕ Int32 × Mm) → Prop} (X : CX x cX4_marked RX4 0) (hL : x.2.2.2.1 = 3) (Hr : RTI x cX4_marked .int F Sum.inr) (HH : ∀ q, F (.inl q) → pX4_marked x q) {l0 : Nat} {l1 : Int32} {l2 : Int32} {M : Mm} (h_l0 : sh l0 = 14) : SIM x F (bX4_marked_47 l0 l1 l2 M) 47 [(0, rf x.2.1 l0), (1, .int l1), (2, .int l2)] [] M := by
  unfold bX4_marked_47
  refine r_iinc [(2, .int (l2 + 1)), (0, rf x.2.1 l0), (1, .int l1)] X dX4_marked_47 2 rfl rfl (nlt hL (by decide)) rfl ?_
  refine r_goto 4 X dX4_marked_50 (by decide) ?_
  exact r_hdr [(0, rf x.2.1 l0), (1, .int l1), (2, .int (l2 + 1))] [1, 2, 0] rfl (fun h => HH _ h h_l0)
set_option maxRecDepth 100000 in
noncomputable def bX4_marked_4 (l0 : Nat) (l1 : Int32) (l2 : Int32) (M : Mm) : Option ((Nat × Nat × Int32 × Int32 × Mm) ⊕ Int32 × Mm) := gfI M l0 0 fun v1 => if v1 ≤ l2 then some (.inr (l1, M)) else gfR M 5 l0 6 fun v2 => ldR M 0 v2 0 fun v3 => ldI M v3 l2 fun v4 => gfR M 5 l0 6 fun v5 => ldR M 0 v5 1 fun v6 => ldI M v6 l2 fun v7 => gfR M 5 l0 6 fun v8 => ldR M 0 v8 2 fun v9 => ldI M v9 l2 fun v10 => if ((v4 + v7) + v10) ≤ 0 then bX4_marked_47 l0 l1 l2 M else ltI (l1 ||| ((1 : Int32) <<< (l2 &&& 31))) fun v11 => bX4_marked_47 l0 v11 l2 M
set_option maxRecDepth 100000 in
set_option maxHeartbeats 4000000 in
theorem sX4_marked_4 {x : SB} {F : ((Nat × Nat × Int32 × Int32 × Mm) ⊕ Int32 × Mm) → Prop} (X : CX x cX4_marked RX4 0) (hL : x.2.2.2.1 = 3) (Hr : RTI x cX4_marked .int F Sum.inr) (HH : ∀ q, F (.inl q) → pX4_marked x q) {l0 : Nat} {l1 : Int32} {l2 : Int32} {M : Mm} (h_l0 : sh l0 = 14) : SIM x F (bX4_marked_4 l0 l1 l2 M) 4 [(0, rf x.2.1 l0), (1, .int l1), (2, .int l2)] [] M := by
  unfold bX4_marked_4
  refine r_iload_n X dX4_marked_4 rfl 2 rfl ?_
  refine r_aload_n X dX4_marked_5 rfl 0 rfl ?_
  refine r_getI X fl_X4_9 (by decide) h_l0 dX4_marked_6 (fun v1 => ?_)
  refine r_icmp_ge 53 X dX4_marked_9 (by decide) ?_ ?_
  · refine r_iload_n X dX4_marked_53 rfl 1 rfl ?_
    exact r_iret Hr rfl dX4_marked_54
  · refine r_aload_n X dX4_marked_12 rfl 0 rfl ?_
    refine r_getR X fl_X4_33 (by decide) h_l0 dX4_marked_13 (fun v2 h_v2 => ?_)
    refine r_iconst (v := 0) X dX4_marked_16 (by decide) ?_
    refine r_aldA X h_v2 dX4_marked_17 (fun v3 h_v3 => ?_)
    refine r_iload_n X dX4_marked_18 rfl 2 rfl ?_
    refine r_iald X h_v3 dX4_marked_19 (fun v4 => ?_)
    refine r_aload_n X dX4_marked_20 rfl 0 rfl ?_
    refine r_getR X fl_X4_33 (by decide) h_l0 dX4_marked_21 (fun v5 h_v5 => ?_)
    refine r_iconst (v := 1) X dX4_marked_24 (by decide) ?_
    refine r_aldA X h_v5 dX4_marked_25 (fun v6 h_v6 => ?_)
    refine r_iload_n X dX4_marked_26 rfl 2 rfl ?_
    refine r_iald X h_v6 dX4_marked_27 (fun v7 => ?_)
    refine r_iadd X dX4_marked_28 ?_
    refine r_aload_n X dX4_marked_29 rfl 0 rfl ?_
    refine r_getR X fl_X4_33 (by decide) h_l0 dX4_marked_30 (fun v8 h_v8 => ?_)
    refine r_iconst (v := 2) X dX4_marked_33 (by decide) ?_
    refine r_aldA X h_v8 dX4_marked_34 (fun v9 h_v9 => ?_)
    refine r_iload_n X dX4_marked_35 rfl 2 rfl ?_
    refine r_iald X h_v9 dX4_marked_36 (fun v10 => ?_)
    refine r_iadd X dX4_marked_37 ?_
    refine r_if_le 47 X dX4_marked_38 (by decide) ?_ ?_
    · exact r_to [(0, rf x.2.1 l0), (1, .int l1), (2, .int l2)] [0, 1, 2] rfl (sX4_marked_47 X hL Hr HH h_l0)
    · refine r_iload_n X dX4_marked_41 rfl 1 rfl ?_
      refine r_iconst (v := 1) X dX4_marked_42 (by decide) ?_
      refine r_iload_n X dX4_marked_43 rfl 2 rfl ?_
      refine r_ishl X dX4_marked_44 ?_
      refine r_ior X dX4_marked_45 ?_
      refine r_letI (fun v11 => ?_)
      refine r_istore_n [(1, .int v11), (0, rf x.2.1 l0), (2, .int l2)] X dX4_marked_46 rfl (nlt hL (by decide)) rfl ?_
      exact r_to [(0, rf x.2.1 l0), (1, .int v11), (2, .int l2)] [1, 0, 2] rfl (sX4_marked_47 X hL Hr HH h_l0)
set_option maxRecDepth 100000 in
noncomputable def bX4_marked_0 (l0 : Nat) (M : Mm) : Option ((Nat × Nat × Int32 × Int32 × Mm) ⊕ Int32 × Mm) := some (.inl (1, l0, 0, 0, M))
set_option maxRecDepth 100000 in
set_option maxHeartbeats 4000000 in
theorem sX4_marked_0 {x : SB} {F : ((Nat × Nat × Int32 × Int32 × Mm) ⊕ Int32 × Mm) → Prop} (X : CX x cX4_marked RX4 0) (hL : x.2.2.2.1 = 3) (Hr : RTI x cX4_marked .int F Sum.inr) (HH : ∀ q, F (.inl q) → pX4_marked x q) {l0 : Nat} {M : Mm} (h_l0 : sh l0 = 14) : SIM x F (bX4_marked_0 l0 M) 0 [(0, rf x.2.1 l0)] [] M := by
  unfold bX4_marked_0
  refine r_iconst (v := 0) X dX4_marked_0 (by decide) ?_
  refine r_istore_n [(1, .int 0), (0, rf x.2.1 l0)] X dX4_marked_1 rfl (nlt hL (by decide)) rfl ?_
  refine r_iconst (v := 0) X dX4_marked_2 (by decide) ?_
  refine r_istore_n [(2, .int 0), (1, .int 0), (0, rf x.2.1 l0)] X dX4_marked_3 rfl (nlt hL (by decide)) rfl ?_
  exact r_hdr [(0, rf x.2.1 l0), (1, .int 0), (2, .int 0)] [2, 1, 0] rfl (fun h => HH _ h h_l0)
set_option maxRecDepth 100000 in
noncomputable def gX4_marked (q : Nat × Nat × Int32 × Int32 × Mm) : Option ((Nat × Nat × Int32 × Int32 × Mm) ⊕ Int32 × Mm) := match q.1 with
  | 1 => bX4_marked_4 (q.2.1) (q.2.2.1) (q.2.2.2.1) (q.2.2.2.2)
  | _ => none
set_option maxRecDepth 100000 in
noncomputable def fX4_marked (l0 : Nat) (M : Mm) : Option (Int32 × Mm) := fen gX4_marked (bX4_marked_0 l0 M)
set_option maxRecDepth 100000 in
set_option maxHeartbeats 4000000 in
theorem okX4_marked (l : Launch) (g : GX) (hJ : IJ g) {l0 : Nat} {M : Mm} (h_l0 : sh l0 = 14) : CT l g yX4_marked cX4_marked 3 (some .int) 0 [rf g l0] M (fX4_marked l0 M) (fun r => some (.int r)) := by
  refine ct_I rfl hJ (Nat.le_of_ble_eq_true rfl) (fun x r hg hL hl X hf Hr => ?_)
  subst hg
  have Hr2 : RTI x cX4_marked .int (Sum.elim (pX4_marked x) (fun q => q = r)) Sum.inr := fun v M h => Hr v M h
  have HP : ∀ q, fnl gX4_marked q = some r → pX4_marked x q := by
    intro q hq
    refine fnl_ind (pX4_marked x) (fun q hq => ?_) hq
    obtain ⟨n, l0, l1, l2, M⟩ := q
    match n, hq with
    | 1, hq => exact fun h_l0 ls H locs hl hP hS => sX4_marked_4 X hL Hr2 (fun _ h => h) h_l0 hq ls H locs hl hP hS
    | 0, hq => exact trivial
    | n + 2, hq => exact trivial
  exact fun _ ls H locs hl hP hS => sX4_marked_0 X hL Hr2 (fun _ h => h) h_l0 (fen_w hf HP) ls H locs hl hP hS
/-! CrumbWood.sure(I)I -/
set_option maxRecDepth 100000 in
noncomputable def fX5_sure (l0 : Nat) (l1 : Int32) (M : Mm) : Option (Int32 × Mm) := cal (fX5_isUpTo l1 8 M) fun v2 M1 => if v2 = 0 then some (((-1), M1)) else gfR M1 14 l0 2 fun v3 => cal (fX4_isEmpty v3 M1) fun v5 M4 => if v5 = 0 then gfR M4 13 l0 7 fun v6 => gfR M4 14 l0 2 fun v7 => gfR M4 14 l0 2 fun v8 => cal (fX4_marked v8 M4) fun v10 M9 => cal (fX3_commonPlaces v6 v7 l1 v10 M9) fun v12 M11 => some ((v12, M11)) else some (((-4), M4))
set_option maxRecDepth 100000 in
set_option maxHeartbeats 4000000 in
theorem sX5_sure_0 {x : SB} {F : (Int32 × Mm) → Prop} (X : CX x cX5_sure RX5 4) (hL : x.2.2.2.1 = 2) (Hr : RTI x cX5_sure .int F (fun q => q)) {l0 : Nat} {l1 : Int32} {M : Mm} (h_l0 : sh l0 = 15) : SIM x F (fX5_sure l0 l1 M) 0 [(0, rf x.2.1 l0), (1, .int l1)] [] M := by
  unfold fX5_sure
  refine r_iload_n X dX5_sure_0 rfl 1 rfl ?_
  refine r_bipush (v := 8) X dX5_sure_1 (by decide) ?_
  refine r_callSI [.int l1, .int 8] X mt_X5_196 (by decide) (okX5_isUpTo _ _ X.J) rfl (Nat.le_of_ble_eq_true rfl) dX5_sure_3 rfl (fun v2 M1 => ?_)
  refine r_if_ne 11 X dX5_sure_6 (by decide) ?_ ?_
  · refine r_iconst (v := (-1)) X dX5_sure_9 (by decide) ?_
    exact r_iret Hr rfl dX5_sure_10
  · refine r_aload_n X dX5_sure_11 rfl 0 rfl ?_
    refine r_getR X fl_X5_21 (by decide) h_l0 dX5_sure_12 (fun v3 h_v3 => ?_)
    refine r_callVI [] X mt_X5_199 (by decide) h_v3 (by decide) (okX4_isEmpty _ _ X.J h_v3) rfl (Nat.le_of_ble_eq_true rfl) dX5_sure_15 rfl (fun v5 M4 => ?_)
    refine r_if_eq 24 X dX5_sure_18 (by decide) ?_ ?_
    · refine r_aload_n X dX5_sure_24 rfl 0 rfl ?_
      refine r_getR X fl_X5_49 (by decide) h_l0 dX5_sure_25 (fun v6 h_v6 => ?_)
      refine r_aload_n X dX5_sure_28 rfl 0 rfl ?_
      refine r_getR X fl_X5_21 (by decide) h_l0 dX5_sure_29 (fun v7 h_v7 => ?_)
      refine r_iload_n X dX5_sure_32 rfl 1 rfl ?_
      refine r_aload_n X dX5_sure_33 rfl 0 rfl ?_
      refine r_getR X fl_X5_21 (by decide) h_l0 dX5_sure_34 (fun v8 h_v8 => ?_)
      refine r_callVI [] X mt_X5_252 (by decide) h_v8 (by decide) (okX4_marked _ _ X.J h_v8) rfl (Nat.le_of_ble_eq_true rfl) dX5_sure_37 rfl (fun v10 M9 => ?_)
      refine r_callVI [rf x.2.1 v7, .int l1, .int v10] X mt_X5_258 (by decide) h_v6 (by decide) (okX3_commonPlaces _ _ X.J h_v6 h_v7) rfl (Nat.le_of_ble_eq_true rfl) dX5_sure_40 rfl (fun v12 M11 => ?_)
      exact r_iret Hr rfl dX5_sure_43
    · refine r_bipush (v := (-4)) X dX5_sure_21 (by decide) ?_
      exact r_iret Hr rfl dX5_sure_23
set_option maxRecDepth 100000 in
set_option maxHeartbeats 4000000 in
theorem okX5_sure (l : Launch) (g : GX) (hJ : IJ g) {l0 : Nat} {l1 : Int32} {M : Mm} (h_l0 : sh l0 = 15) : CT l g yX5_sure cX5_sure 2 (some .int) 4 [rf g l0, .int l1] M (fX5_sure l0 l1 M) (fun r => some (.int r)) := by
  refine ct_I rfl hJ (Nat.le_of_ble_eq_true rfl) (fun x r hg hL hl X hf Hr => ?_)
  subst hg
  exact fun _ ls H locs hl hP hS => sX5_sure_0 X hL Hr h_l0 ⟨_, hf, rfl⟩ ls H locs hl hP hS
/-! CrumbWood.surest(II)I -/
set_option maxRecDepth 100000 in
noncomputable def fX5_surest (l0 : Nat) (l1 : Int32) (l2 : Int32) (M : Mm) : Option (Int32 × Mm) := cal (fX5_plan l0 l1 l2 1 M) fun v2 M1 => some ((v2, M1))
set_option maxRecDepth 100000 in
set_option maxHeartbeats 4000000 in
theorem sX5_surest_0 {x : SB} {F : (Int32 × Mm) → Prop} (X : CX x cX5_surest RX5 6) (hL : x.2.2.2.1 = 3) (Hr : RTI x cX5_surest .int F (fun q => q)) {l0 : Nat} {l1 : Int32} {l2 : Int32} {M : Mm} (h_l0 : sh l0 = 15) : SIM x F (fX5_surest l0 l1 l2 M) 0 [(0, rf x.2.1 l0), (1, .int l1), (2, .int l2)] [] M := by
  unfold fX5_surest
  refine r_aload_n X dX5_surest_0 rfl 0 rfl ?_
  refine r_iload_n X dX5_surest_1 rfl 1 rfl ?_
  refine r_iload_n X dX5_surest_2 rfl 2 rfl ?_
  refine r_iconst (v := 1) X dX5_surest_3 (by decide) ?_
  refine r_callVI [.int l1, .int l2, .int 1] X mt_X5_232 (by decide) h_l0 (by decide) (okX5_plan _ _ X.J h_l0) rfl (Nat.le_of_ble_eq_true rfl) dX5_surest_4 rfl (fun v2 M1 => ?_)
  exact r_iret Hr rfl dX5_surest_7
set_option maxRecDepth 100000 in
set_option maxHeartbeats 4000000 in
theorem okX5_surest (l : Launch) (g : GX) (hJ : IJ g) {l0 : Nat} {l1 : Int32} {l2 : Int32} {M : Mm} (h_l0 : sh l0 = 15) : CT l g yX5_surest cX5_surest 3 (some .int) 6 [rf g l0, .int l1, .int l2] M (fX5_surest l0 l1 l2 M) (fun r => some (.int r)) := by
  refine ct_I rfl hJ (Nat.le_of_ble_eq_true rfl) (fun x r hg hL hl X hf Hr => ?_)
  subst hg
  exact fun _ ls H locs hl hP hS => sX5_surest_0 X hL Hr h_l0 ⟨_, hf, rfl⟩ ls H locs hl hP hS
/-! CrumbWood.take(II)I -/
set_option maxRecDepth 100000 in
noncomputable def bX5_take_19  (M : Mm) : Option (Int32 × Mm) := some (((-1), M))
set_option maxRecDepth 100000 in
set_option maxHeartbeats 4000000 in
theorem sX5_take_19 {x : SB} {F : (Int32 × Mm) → Prop} (X : CX x cX5_take RX5 2) (hL : x.2.2.2.1 = 4) (Hr : RTI x cX5_take .int F (fun q => q))  {M : Mm}  : SIM x F (bX5_take_19  M) 19 [] [] M := by
  unfold bX5_take_19
  refine r_iconst (v := (-1)) X dX5_take_19 (by decide) ?_
  exact r_iret Hr rfl dX5_take_20
set_option maxRecDepth 100000 in
noncomputable def fX5_take (l0 : Nat) (l1 : Int32) (l2 : Int32) (M : Mm) : Option (Int32 × Mm) := gfR M 14 l0 2 fun v1 => cal (fX4_hasPlace v1 l1 M) fun v3 M2 => if v3 = 0 then bX5_take_19 M2 else cal (fX5_isBelow l2 3 M2) fun v5 M4 => if v5 = 0 then bX5_take_19 M4 else gfR M4 14 l0 2 fun v6 => gfR M4 5 v6 6 fun v7 => ldR M4 0 v7 l2 fun v8 => ldI M4 v8 l1 fun v9 => gfR M4 14 l0 2 fun v10 => gfR M4 5 v10 6 fun v11 => ldR M4 0 v11 l2 fun v12 => stI M4 v12 l1 0 fun M13 => some ((v9, M13))
set_option maxRecDepth 100000 in
set_option maxHeartbeats 4000000 in
theorem sX5_take_0 {x : SB} {F : (Int32 × Mm) → Prop} (X : CX x cX5_take RX5 2) (hL : x.2.2.2.1 = 4) (Hr : RTI x cX5_take .int F (fun q => q)) {l0 : Nat} {l1 : Int32} {l2 : Int32} {M : Mm} (h_l0 : sh l0 = 15) : SIM x F (fX5_take l0 l1 l2 M) 0 [(0, rf x.2.1 l0), (1, .int l1), (2, .int l2)] [] M := by
  unfold fX5_take
  refine r_aload_n X dX5_take_0 rfl 0 rfl ?_
  refine r_getR X fl_X5_21 (by decide) h_l0 dX5_take_1 (fun v1 h_v1 => ?_)
  refine r_iload_n X dX5_take_4 rfl 1 rfl ?_
  refine r_callVI [.int l1] X mt_X5_123 (by decide) h_v1 (by decide) (okX4_hasPlace _ _ X.J h_v1) rfl (Nat.le_of_ble_eq_true rfl) dX5_take_5 rfl (fun v3 M2 => ?_)
  refine r_if_eq 19 X dX5_take_8 (by decide) ?_ ?_
  · exact r_to [] [] rfl (sX5_take_19 X hL Hr)
  · refine r_iload_n X dX5_take_11 rfl 2 rfl ?_
    refine r_iconst (v := 3) X dX5_take_12 (by decide) ?_
    refine r_callSI [.int l2, .int 3] X mt_X5_74 (by decide) (okX5_isBelow _ _ X.J) rfl (Nat.le_of_ble_eq_true rfl) dX5_take_13 rfl (fun v5 M4 => ?_)
    refine r_if_ne 21 X dX5_take_16 (by decide) ?_ ?_
    · exact r_to [] [] rfl (sX5_take_19 X hL Hr)
    · refine r_aload_n X dX5_take_21 rfl 0 rfl ?_
      refine r_getR X fl_X5_21 (by decide) h_l0 dX5_take_22 (fun v6 h_v6 => ?_)
      refine r_getR X fl_X5_146 (by decide) h_v6 dX5_take_25 (fun v7 h_v7 => ?_)
      refine r_iload_n X dX5_take_28 rfl 2 rfl ?_
      refine r_aldA X h_v7 dX5_take_29 (fun v8 h_v8 => ?_)
      refine r_iload_n X dX5_take_30 rfl 1 rfl ?_
      refine r_iald X h_v8 dX5_take_31 (fun v9 => ?_)
      refine r_istore_n [(3, .int v9), (0, rf x.2.1 l0), (1, .int l1), (2, .int l2)] X dX5_take_32 rfl (nlt hL (by decide)) rfl ?_
      refine r_aload_n X dX5_take_33 rfl 1 rfl ?_
      refine r_getR X fl_X5_21 (by decide) h_l0 dX5_take_34 (fun v10 h_v10 => ?_)
      refine r_getR X fl_X5_146 (by decide) h_v10 dX5_take_37 (fun v11 h_v11 => ?_)
      refine r_iload_n X dX5_take_40 rfl 3 rfl ?_
      refine r_aldA X h_v11 dX5_take_41 (fun v12 h_v12 => ?_)
      refine r_iload_n X dX5_take_42 rfl 2 rfl ?_
      refine r_iconst (v := 0) X dX5_take_43 (by decide) ?_
      refine r_iast X h_v12 dX5_take_44 (fun M13 => ?_)
      refine r_iload_n X dX5_take_45 rfl 0 rfl ?_
      exact r_iret Hr rfl dX5_take_46
set_option maxRecDepth 100000 in
set_option maxHeartbeats 4000000 in
theorem okX5_take (l : Launch) (g : GX) (hJ : IJ g) {l0 : Nat} {l1 : Int32} {l2 : Int32} {M : Mm} (h_l0 : sh l0 = 15) : CT l g yX5_take cX5_take 4 (some .int) 2 [rf g l0, .int l1, .int l2] M (fX5_take l0 l1 l2 M) (fun r => some (.int r)) := by
  refine ct_I rfl hJ (Nat.le_of_ble_eq_true rfl) (fun x r hg hL hl X hf Hr => ?_)
  subst hg
  exact fun _ ls H locs hl hP hS => sX5_take_0 X hL Hr h_l0 ⟨_, hf, rfl⟩ ls H locs hl hP hS
/-! CrumbWood.tear(I)I -/
set_option maxRecDepth 100000 in
noncomputable def fX5_tear (l0 : Nat) (l1 : Int32) (M : Mm) : Option (Int32 × Mm) := cal (fX5_isBelow l1 6 M) fun v2 M1 => if v2 = 0 then some (((-1), M1)) else gfR M1 3 l0 0 fun v3 => ldR M1 12 v3 l1 fun v4 => cal (fX2_isMissing v4 M1) fun v6 M5 => if v6 = 0 then gfR M5 3 l0 0 fun v7 => ldR M5 12 v7 l1 fun v8 => pfI M5 v8 1 (-1) fun M9 => some ((1, M9)) else cal (fX5_refuse l0 1 M5) fun v11 M10 => some ((v11, M10))
set_option maxRecDepth 100000 in
set_option maxHeartbeats 4000000 in
theorem sX5_tear_0 {x : SB} {F : (Int32 × Mm) → Prop} (X : CX x cX5_tear RX5 1) (hL : x.2.2.2.1 = 2) (Hr : RTI x cX5_tear .int F (fun q => q)) {l0 : Nat} {l1 : Int32} {M : Mm} (h_l0 : sh l0 = 15) : SIM x F (fX5_tear l0 l1 M) 0 [(0, rf x.2.1 l0), (1, .int l1)] [] M := by
  unfold fX5_tear
  refine r_iload_n X dX5_tear_0 rfl 1 rfl ?_
  refine r_bipush (v := 6) X dX5_tear_1 (by decide) ?_
  refine r_callSI [.int l1, .int 6] X mt_X5_74 (by decide) (okX5_isBelow _ _ X.J) rfl (Nat.le_of_ble_eq_true rfl) dX5_tear_3 rfl (fun v2 M1 => ?_)
  refine r_if_ne 11 X dX5_tear_6 (by decide) ?_ ?_
  · refine r_iconst (v := (-1)) X dX5_tear_9 (by decide) ?_
    exact r_iret Hr rfl dX5_tear_10
  · refine r_aload_n X dX5_tear_11 rfl 0 rfl ?_
    refine r_getR X fl_X5_11 (by decide) h_l0 dX5_tear_12 (fun v3 h_v3 => ?_)
    refine r_iload_n X dX5_tear_15 rfl 1 rfl ?_
    refine r_aldS X h_v3 dX5_tear_16 (fun v4 h_v4 => ?_)
    refine r_callVI [] X mt_X5_92 (by decide) h_v4 (by decide) (okX2_isMissing _ _ X.J h_v4) rfl (Nat.le_of_ble_eq_true rfl) dX5_tear_17 rfl (fun v6 M5 => ?_)
    refine r_if_eq 29 X dX5_tear_20 (by decide) ?_ ?_
    · refine r_aload_n X dX5_tear_29 rfl 0 rfl ?_
      refine r_getR X fl_X5_11 (by decide) h_l0 dX5_tear_30 (fun v7 h_v7 => ?_)
      refine r_iload_n X dX5_tear_33 rfl 1 rfl ?_
      refine r_aldS X h_v7 dX5_tear_34 (fun v8 h_v8 => ?_)
      refine r_iconst (v := (-1)) X dX5_tear_35 (by decide) ?_
      refine r_putI X fl_X5_96 (by decide) h_v8 (fun _ => rfl) (fun _ => rfl) dX5_tear_36 (fun M9 => ?_)
      refine r_iconst (v := 1) X dX5_tear_39 (by decide) ?_
      exact r_iret Hr rfl dX5_tear_40
    · refine r_aload_n X dX5_tear_23 rfl 0 rfl ?_
      refine r_iconst (v := 1) X dX5_tear_24 (by decide) ?_
      refine r_callVI [.int 1] X mt_X5_78 (by decide) h_l0 (by decide) (okX5_refuse _ _ X.J h_l0) rfl (Nat.le_of_ble_eq_true rfl) dX5_tear_25 rfl (fun v11 M10 => ?_)
      exact r_iret Hr rfl dX5_tear_28
set_option maxRecDepth 100000 in
set_option maxHeartbeats 4000000 in
theorem okX5_tear (l : Launch) (g : GX) (hJ : IJ g) {l0 : Nat} {l1 : Int32} {M : Mm} (h_l0 : sh l0 = 15) : CT l g yX5_tear cX5_tear 2 (some .int) 1 [rf g l0, .int l1] M (fX5_tear l0 l1 M) (fun r => some (.int r)) := by
  refine ct_I rfl hJ (Nat.le_of_ble_eq_true rfl) (fun x r hg hL hl X hf Hr => ?_)
  subst hg
  exact fun _ ls H locs hl hP hS => sX5_tear_0 X hL Hr h_l0 ⟨_, hf, rfl⟩ ls H locs hl hP hS
/-! CrumbWood.text(II)I -/
set_option maxRecDepth 100000 in
noncomputable def bX5_text_14  (M : Mm) : Option (Int32 × Mm) := some (((-1), M))
set_option maxRecDepth 100000 in
set_option maxHeartbeats 4000000 in
theorem sX5_text_14 {x : SB} {F : (Int32 × Mm) → Prop} (X : CX x cX5_text RX5 2) (hL : x.2.2.2.1 = 3) (Hr : RTI x cX5_text .int F (fun q => q))  {M : Mm}  : SIM x F (bX5_text_14  M) 14 [] [] M := by
  unfold bX5_text_14
  refine r_iconst (v := (-1)) X dX5_text_14 (by decide) ?_
  exact r_iret Hr rfl dX5_text_15
set_option maxRecDepth 100000 in
noncomputable def fX5_text (l0 : Nat) (l1 : Int32) (l2 : Int32) (M : Mm) : Option (Int32 × Mm) := cal (fX5_isBelow l1 4 M) fun v2 M1 => if v2 = 0 then bX5_text_14 M1 else if l2 ≤ 80 then if 0 ≤ l2 then gfR M1 3 l0 1 fun v3 => ldR M1 12 v3 l1 fun v4 => cal (fX2_renew v4 l2 32 M1) fun _ M5 => some ((l2, M5)) else cal (fX5_refuse l0 5 M1) fun v7 M6 => some ((v7, M6)) else bX5_text_14 M1
set_option maxRecDepth 100000 in
set_option maxHeartbeats 4000000 in
theorem sX5_text_0 {x : SB} {F : (Int32 × Mm) → Prop} (X : CX x cX5_text RX5 2) (hL : x.2.2.2.1 = 3) (Hr : RTI x cX5_text .int F (fun q => q)) {l0 : Nat} {l1 : Int32} {l2 : Int32} {M : Mm} (h_l0 : sh l0 = 15) : SIM x F (fX5_text l0 l1 l2 M) 0 [(0, rf x.2.1 l0), (1, .int l1), (2, .int l2)] [] M := by
  unfold fX5_text
  refine r_iload_n X dX5_text_0 rfl 1 rfl ?_
  refine r_iconst (v := 4) X dX5_text_1 (by decide) ?_
  refine r_callSI [.int l1, .int 4] X mt_X5_74 (by decide) (okX5_isBelow _ _ X.J) rfl (Nat.le_of_ble_eq_true rfl) dX5_text_2 rfl (fun v2 M1 => ?_)
  refine r_if_eq 14 X dX5_text_5 (by decide) ?_ ?_
  · exact r_to [] [] rfl (sX5_text_14 X hL Hr)
  · refine r_iload_n X dX5_text_8 rfl 2 rfl ?_
    refine r_bipush (v := 80) X dX5_text_9 (by decide) ?_
    refine r_icmp_le 16 X dX5_text_11 (by decide) ?_ ?_
    · refine r_iload_n X dX5_text_16 rfl 2 rfl ?_
      refine r_if_ge 26 X dX5_text_17 (by decide) ?_ ?_
      · refine r_aload_n X dX5_text_26 rfl 0 rfl ?_
        refine r_getR X fl_X5_15 (by decide) h_l0 dX5_text_27 (fun v3 h_v3 => ?_)
        refine r_iload_n X dX5_text_30 rfl 1 rfl ?_
        refine r_aldS X h_v3 dX5_text_31 (fun v4 h_v4 => ?_)
        refine r_iload_n X dX5_text_32 rfl 2 rfl ?_
        refine r_bipush (v := 32) X dX5_text_33 (by decide) ?_
        refine r_callVV [.int l2, .int 32] X mt_X5_82 (by decide) h_v4 (by decide) (okX2_renew _ _ X.J h_v4) rfl (Nat.le_of_ble_eq_true rfl) dX5_text_35 rfl (fun _ M5 => ?_)
        refine r_iload_n X dX5_text_38 rfl 2 rfl ?_
        exact r_iret Hr rfl dX5_text_39
      · refine r_aload_n X dX5_text_20 rfl 0 rfl ?_
        refine r_iconst (v := 5) X dX5_text_21 (by decide) ?_
        refine r_callVI [.int 5] X mt_X5_78 (by decide) h_l0 (by decide) (okX5_refuse _ _ X.J h_l0) rfl (Nat.le_of_ble_eq_true rfl) dX5_text_22 rfl (fun v7 M6 => ?_)
        exact r_iret Hr rfl dX5_text_25
    · exact r_to [] [] rfl (sX5_text_14 X hL Hr)
set_option maxRecDepth 100000 in
set_option maxHeartbeats 4000000 in
theorem okX5_text (l : Launch) (g : GX) (hJ : IJ g) {l0 : Nat} {l1 : Int32} {l2 : Int32} {M : Mm} (h_l0 : sh l0 = 15) : CT l g yX5_text cX5_text 3 (some .int) 2 [rf g l0, .int l1, .int l2] M (fX5_text l0 l1 l2 M) (fun r => some (.int r)) := by
  refine ct_I rfl hJ (Nat.le_of_ble_eq_true rfl) (fun x r hg hL hl X hf Hr => ?_)
  subst hg
  exact fun _ ls H locs hl hP hS => sX5_text_0 X hL Hr h_l0 ⟨_, hf, rfl⟩ ls H locs hl hP hS
/-! CrumbWood.upper()J -/
set_option maxRecDepth 100000 in
noncomputable def fX5_upper (l0 : Nat) (M : Mm) : Option (Int64 × Mm) := gfJ M l0 11 fun v1 => some ((v1, M))
set_option maxRecDepth 100000 in
set_option maxHeartbeats 4000000 in
theorem sX5_upper_0 {x : SB} {F : (Int64 × Mm) → Prop} (X : CX x cX5_upper RX5 0) (hL : x.2.2.2.1 = 1) (Hr : RTJ x cX5_upper F (fun q => q)) {l0 : Nat} {M : Mm} (h_l0 : sh l0 = 15) : SIM x F (fX5_upper l0 M) 0 [(0, rf x.2.1 l0)] [] M := by
  unfold fX5_upper
  refine r_aload_n X dX5_upper_0 rfl 0 rfl ?_
  refine r_getJ X fl_X5_64 (by decide) h_l0 dX5_upper_1 (fun v1 => ?_)
  exact r_lret Hr dX5_upper_4
set_option maxRecDepth 100000 in
set_option maxHeartbeats 4000000 in
theorem okX5_upper (l : Launch) (g : GX) (hJ : IJ g) {l0 : Nat} {M : Mm} (h_l0 : sh l0 = 15) : CT l g yX5_upper cX5_upper 1 (some .long) 0 [rf g l0] M (fX5_upper l0 M) (fun r => some (.long r)) := by
  refine ct_J rfl hJ (Nat.le_of_ble_eq_true rfl) (fun x r hg hL hl X hf Hr => ?_)
  subst hg
  exact fun _ ls H locs hl hP hS => sX5_upper_0 X hL Hr h_l0 ⟨_, hf, rfl⟩ ls H locs hl hP hS
/-! CrumbWood.waits()I -/
set_option maxRecDepth 100000 in
def pX5_waits (x : SB) (q : Nat × Nat × Int32 × Mm) : Prop := match q.1 with
  | 1 => sh q.2.1 = 15 → ∀ (ls : Array Slot) (H : Heap) (locs : List Loc), lv_has ls x.2.2.2.1 [(0, rf x.2.1 q.2.1), (1, .int q.2.2.1)] → PW x.2.1 (q.2.2.2) H → SH x H locs → SW x H locs 26 ls []
  | _ => True
set_option maxRecDepth 100000 in
noncomputable def bX5_waits_26 (l0 : Nat) (l1 : Int32) (M : Mm) : Option ((Nat × Nat × Int32 × Mm) ⊕ Int32 × Mm) := if 60 < l1 then some (.inr ((-9), M)) else gfR M 11 l0 6 fun v1 => gfR M 14 l0 4 fun v2 => cal (fX1_findsHome v1 v2 M) fun v4 M3 => if v4 = 0 then some (.inr (l1, M3)) else gfR M3 14 l0 4 fun v5 => cal (fX4_passHours v5 1 M3) fun v7 M6 => some (.inl (1, l0, (l1 + 1), M6))
set_option maxRecDepth 100000 in
set_option maxHeartbeats 4000000 in
theorem sX5_waits_26 {x : SB} {F : ((Nat × Nat × Int32 × Mm) ⊕ Int32 × Mm) → Prop} (X : CX x cX5_waits RX5 4) (hL : x.2.2.2.1 = 2) (Hr : RTI x cX5_waits .int F Sum.inr) (HH : ∀ q, F (.inl q) → pX5_waits x q) {l0 : Nat} {l1 : Int32} {M : Mm} (h_l0 : sh l0 = 15) : SIM x F (bX5_waits_26 l0 l1 M) 26 [(0, rf x.2.1 l0), (1, .int l1)] [] M := by
  unfold bX5_waits_26
  refine r_iload_n X dX5_waits_26 rfl 1 rfl ?_
  refine r_bipush (v := 60) X dX5_waits_27 (by decide) ?_
  refine r_icmp_gt 63 X dX5_waits_29 (by decide) ?_ ?_
  · refine r_bipush (v := (-9)) X dX5_waits_63 (by decide) ?_
    exact r_iret Hr rfl dX5_waits_65
  · refine r_aload_n X dX5_waits_32 rfl 0 rfl ?_
    refine r_getR X fl_X5_42 (by decide) h_l0 dX5_waits_33 (fun v1 h_v1 => ?_)
    refine r_aload_n X dX5_waits_36 rfl 0 rfl ?_
    refine r_getR X fl_X5_29 (by decide) h_l0 dX5_waits_37 (fun v2 h_v2 => ?_)
    refine r_callVI [rf x.2.1 v2] X mt_X5_212 (by decide) h_v1 (by decide) (okX1_findsHome _ _ X.J h_v1 h_v2) rfl (Nat.le_of_ble_eq_true rfl) dX5_waits_40 rfl (fun v4 M3 => ?_)
    refine r_if_ne 48 X dX5_waits_43 (by decide) ?_ ?_
    · refine r_iload_n X dX5_waits_46 rfl 1 rfl ?_
      exact r_iret Hr rfl dX5_waits_47
    · refine r_aload_n X dX5_waits_48 rfl 0 rfl ?_
      refine r_getR X fl_X5_29 (by decide) h_l0 dX5_waits_49 (fun v5 h_v5 => ?_)
      refine r_iconst (v := 1) X dX5_waits_52 (by decide) ?_
      refine r_callVI [.int 1] X mt_X5_202 (by decide) h_v5 (by decide) (okX4_passHours _ _ X.J h_v5) rfl (Nat.le_of_ble_eq_true rfl) dX5_waits_53 rfl (fun v7 M6 => ?_)
      refine r_pop X dX5_waits_56 rfl ?_
      refine r_iinc [(1, .int (l1 + 1)), (0, rf x.2.1 l0)] X dX5_waits_57 1 rfl rfl (nlt hL (by decide)) rfl ?_
      refine r_goto 26 X dX5_waits_60 (by decide) ?_
      exact r_hdr [(0, rf x.2.1 l0), (1, .int (l1 + 1))] [1, 0] rfl (fun h => HH _ h h_l0)
set_option maxRecDepth 100000 in
noncomputable def bX5_waits_0 (l0 : Nat) (M : Mm) : Option ((Nat × Nat × Int32 × Mm) ⊕ Int32 × Mm) := gfR M 14 l0 2 fun v8 => cal (fX4_isEmpty v8 M) fun v10 M9 => if v10 = 0 then gfR M9 14 l0 4 fun v11 => gfR M9 14 l0 2 fun v12 => cal (fX4_become v11 v12 M9) fun _ M13 => some (.inl (1, l0, 0, M13)) else some (.inr ((-4), M9))
set_option maxRecDepth 100000 in
set_option maxHeartbeats 4000000 in
theorem sX5_waits_0 {x : SB} {F : ((Nat × Nat × Int32 × Mm) ⊕ Int32 × Mm) → Prop} (X : CX x cX5_waits RX5 4) (hL : x.2.2.2.1 = 2) (Hr : RTI x cX5_waits .int F Sum.inr) (HH : ∀ q, F (.inl q) → pX5_waits x q) {l0 : Nat} {M : Mm} (h_l0 : sh l0 = 15) : SIM x F (bX5_waits_0 l0 M) 0 [(0, rf x.2.1 l0)] [] M := by
  unfold bX5_waits_0
  refine r_aload_n X dX5_waits_0 rfl 0 rfl ?_
  refine r_getR X fl_X5_21 (by decide) h_l0 dX5_waits_1 (fun v8 h_v8 => ?_)
  refine r_callVI [] X mt_X5_199 (by decide) h_v8 (by decide) (okX4_isEmpty _ _ X.J h_v8) rfl (Nat.le_of_ble_eq_true rfl) dX5_waits_4 rfl (fun v10 M9 => ?_)
  refine r_if_eq 13 X dX5_waits_7 (by decide) ?_ ?_
  · refine r_aload_n X dX5_waits_13 rfl 0 rfl ?_
    refine r_getR X fl_X5_29 (by decide) h_l0 dX5_waits_14 (fun v11 h_v11 => ?_)
    refine r_aload_n X dX5_waits_17 rfl 0 rfl ?_
    refine r_getR X fl_X5_21 (by decide) h_l0 dX5_waits_18 (fun v12 h_v12 => ?_)
    refine r_callVV [rf x.2.1 v12] X mt_X5_116 (by decide) h_v11 (by decide) (okX4_become _ _ X.J h_v11 h_v12) rfl (Nat.le_of_ble_eq_true rfl) dX5_waits_21 rfl (fun _ M13 => ?_)
    refine r_iconst (v := 0) X dX5_waits_24 (by decide) ?_
    refine r_istore_n [(1, .int 0), (0, rf x.2.1 l0)] X dX5_waits_25 rfl (nlt hL (by decide)) rfl ?_
    exact r_hdr [(0, rf x.2.1 l0), (1, .int 0)] [1, 0] rfl (fun h => HH _ h h_l0)
  · refine r_bipush (v := (-4)) X dX5_waits_10 (by decide) ?_
    exact r_iret Hr rfl dX5_waits_12
set_option maxRecDepth 100000 in
noncomputable def gX5_waits (q : Nat × Nat × Int32 × Mm) : Option ((Nat × Nat × Int32 × Mm) ⊕ Int32 × Mm) := match q.1 with
  | 1 => bX5_waits_26 (q.2.1) (q.2.2.1) (q.2.2.2)
  | _ => none
set_option maxRecDepth 100000 in
noncomputable def fX5_waits (l0 : Nat) (M : Mm) : Option (Int32 × Mm) := fen gX5_waits (bX5_waits_0 l0 M)
set_option maxRecDepth 100000 in
set_option maxHeartbeats 4000000 in
theorem okX5_waits (l : Launch) (g : GX) (hJ : IJ g) {l0 : Nat} {M : Mm} (h_l0 : sh l0 = 15) : CT l g yX5_waits cX5_waits 2 (some .int) 4 [rf g l0] M (fX5_waits l0 M) (fun r => some (.int r)) := by
  refine ct_I rfl hJ (Nat.le_of_ble_eq_true rfl) (fun x r hg hL hl X hf Hr => ?_)
  subst hg
  have Hr2 : RTI x cX5_waits .int (Sum.elim (pX5_waits x) (fun q => q = r)) Sum.inr := fun v M h => Hr v M h
  have HP : ∀ q, fnl gX5_waits q = some r → pX5_waits x q := by
    intro q hq
    refine fnl_ind (pX5_waits x) (fun q hq => ?_) hq
    obtain ⟨n, l0, l1, M⟩ := q
    match n, hq with
    | 1, hq => exact fun h_l0 ls H locs hl hP hS => sX5_waits_26 X hL Hr2 (fun _ h => h) h_l0 hq ls H locs hl hP hS
    | 0, hq => exact trivial
    | n + 2, hq => exact trivial
  exact fun _ ls H locs hl hP hS => sX5_waits_0 X hL Hr2 (fun _ h => h) h_l0 (fen_w hf HP) ls H locs hl hP hS
/-! CrumbWood$Wood.flownFrom(I)I -/
set_option maxRecDepth 100000 in
def pX4_flownFrom (x : SB) (q : Nat × Nat × Int32 × Int32 × Int32 × Mm) : Prop := match q.1 with
  | 1 => sh q.2.1 = 14 → ∀ (ls : Array Slot) (H : Heap) (locs : List Loc), lv_has ls x.2.2.2.1 [(0, rf x.2.1 q.2.1), (1, .int q.2.2.1), (2, .int q.2.2.2.1), (3, .int q.2.2.2.2.1)] → PW x.2.1 (q.2.2.2.2.2) H → SH x H locs → SW x H locs 4 ls []
  | _ => True
set_option maxRecDepth 100000 in
noncomputable def bX4_flownFrom_31 (l0 : Nat) (l1 : Int32) (l2 : Int32) (l3 : Int32) (M : Mm) : Option ((Nat × Nat × Int32 × Int32 × Int32 × Mm) ⊕ Int32 × Mm) := some (.inl (1, l0, l1, l2, (l3 + 1), M))
set_option maxRecDepth 100000 in
set_option maxHeartbeats 4000000 in
theorem sX4_flownFrom_31 {x : SB} {F : ((Nat × Nat × Int32 × Int32 × Int32 × Mm) ⊕ Int32 × Mm) → Prop} (X : CX x cX4_flownFrom RX4 3) (hL : x.2.2.2.1 = 4) (Hr : RTI x cX4_flownFrom .int F Sum.inr) (HH : ∀ q, F (.inl q) → pX4_flownFrom x q) {l0 : Nat} {l1 : Int32} {l2 : Int32} {l3 : Int32} {M : Mm} (h_l0 : sh l0 = 14) : SIM x F (bX4_flownFrom_31 l0 l1 l2 l3 M) 31 [(0, rf x.2.1 l0), (1, .int l1), (2, .int l2), (3, .int l3)] [] M := by
  unfold bX4_flownFrom_31
  refine r_iinc [(3, .int (l3 + 1)), (0, rf x.2.1 l0), (1, .int l1), (2, .int l2)] X dX4_flownFrom_31 3 rfl rfl (nlt hL (by decide)) rfl ?_
  refine r_goto 4 X dX4_flownFrom_34 (by decide) ?_
  exact r_hdr [(0, rf x.2.1 l0), (1, .int l1), (2, .int l2), (3, .int (l3 + 1))] [1, 2, 3, 0] rfl (fun h => HH _ h h_l0)
set_option maxRecDepth 100000 in
noncomputable def bX4_flownFrom_4 (l0 : Nat) (l1 : Int32) (l2 : Int32) (l3 : Int32) (M : Mm) : Option ((Nat × Nat × Int32 × Int32 × Int32 × Mm) ⊕ Int32 × Mm) := gfI M l0 0 fun v1 => if v1 ≤ l3 then some (.inr (l2, M)) else cal (fX4_flightFrom l0 l3 M) fun v3 M2 => if ((l1 >>> (v3 &&& 31)) &&& 1) = 1 then ltI (l2 ||| ((1 : Int32) <<< (l3 &&& 31))) fun v4 => bX4_flownFrom_31 l0 l1 v4 l3 M2 else bX4_flownFrom_31 l0 l1 l2 l3 M2
set_option maxRecDepth 100000 in
set_option maxHeartbeats 4000000 in
theorem sX4_flownFrom_4 {x : SB} {F : ((Nat × Nat × Int32 × Int32 × Int32 × Mm) ⊕ Int32 × Mm) → Prop} (X : CX x cX4_flownFrom RX4 3) (hL : x.2.2.2.1 = 4) (Hr : RTI x cX4_flownFrom .int F Sum.inr) (HH : ∀ q, F (.inl q) → pX4_flownFrom x q) {l0 : Nat} {l1 : Int32} {l2 : Int32} {l3 : Int32} {M : Mm} (h_l0 : sh l0 = 14) : SIM x F (bX4_flownFrom_4 l0 l1 l2 l3 M) 4 [(0, rf x.2.1 l0), (1, .int l1), (2, .int l2), (3, .int l3)] [] M := by
  unfold bX4_flownFrom_4
  refine r_iload_n X dX4_flownFrom_4 rfl 3 rfl ?_
  refine r_aload_n X dX4_flownFrom_5 rfl 0 rfl ?_
  refine r_getI X fl_X4_9 (by decide) h_l0 dX4_flownFrom_6 (fun v1 => ?_)
  refine r_icmp_ge 37 X dX4_flownFrom_9 (by decide) ?_ ?_
  · refine r_iload_n X dX4_flownFrom_37 rfl 2 rfl ?_
    exact r_iret Hr rfl dX4_flownFrom_38
  · refine r_iload_n X dX4_flownFrom_12 rfl 1 rfl ?_
    refine r_aload_n X dX4_flownFrom_13 rfl 0 rfl ?_
    refine r_iload_n X dX4_flownFrom_14 rfl 3 rfl ?_
    refine r_callVI [.int l3] X mt_X4_79 (by decide) h_l0 (by decide) (okX4_flightFrom _ _ X.J h_l0) rfl (Nat.le_of_ble_eq_true rfl) dX4_flownFrom_15 rfl (fun v3 M2 => ?_)
    refine r_ishr X dX4_flownFrom_18 ?_
    refine r_iconst (v := 1) X dX4_flownFrom_19 (by decide) ?_
    refine r_iand X dX4_flownFrom_20 ?_
    refine r_iconst (v := 1) X dX4_flownFrom_21 (by decide) ?_
    refine r_icmp_ne 31 X dX4_flownFrom_22 (by decide) ?_ ?_
    · refine r_iload_n X dX4_flownFrom_25 rfl 2 rfl ?_
      refine r_iconst (v := 1) X dX4_flownFrom_26 (by decide) ?_
      refine r_iload_n X dX4_flownFrom_27 rfl 3 rfl ?_
      refine r_ishl X dX4_flownFrom_28 ?_
      refine r_ior X dX4_flownFrom_29 ?_
      refine r_letI (fun v4 => ?_)
      refine r_istore_n [(2, .int v4), (0, rf x.2.1 l0), (1, .int l1), (3, .int l3)] X dX4_flownFrom_30 rfl (nlt hL (by decide)) rfl ?_
      exact r_to [(0, rf x.2.1 l0), (1, .int l1), (2, .int v4), (3, .int l3)] [1, 2, 0, 3] rfl (sX4_flownFrom_31 X hL Hr HH h_l0)
    · exact r_to [(0, rf x.2.1 l0), (1, .int l1), (2, .int l2), (3, .int l3)] [0, 1, 2, 3] rfl (sX4_flownFrom_31 X hL Hr HH h_l0)
set_option maxRecDepth 100000 in
noncomputable def bX4_flownFrom_0 (l0 : Nat) (l1 : Int32) (M : Mm) : Option ((Nat × Nat × Int32 × Int32 × Int32 × Mm) ⊕ Int32 × Mm) := some (.inl (1, l0, l1, 0, 0, M))
set_option maxRecDepth 100000 in
set_option maxHeartbeats 4000000 in
theorem sX4_flownFrom_0 {x : SB} {F : ((Nat × Nat × Int32 × Int32 × Int32 × Mm) ⊕ Int32 × Mm) → Prop} (X : CX x cX4_flownFrom RX4 3) (hL : x.2.2.2.1 = 4) (Hr : RTI x cX4_flownFrom .int F Sum.inr) (HH : ∀ q, F (.inl q) → pX4_flownFrom x q) {l0 : Nat} {l1 : Int32} {M : Mm} (h_l0 : sh l0 = 14) : SIM x F (bX4_flownFrom_0 l0 l1 M) 0 [(0, rf x.2.1 l0), (1, .int l1)] [] M := by
  unfold bX4_flownFrom_0
  refine r_iconst (v := 0) X dX4_flownFrom_0 (by decide) ?_
  refine r_istore_n [(2, .int 0), (0, rf x.2.1 l0), (1, .int l1)] X dX4_flownFrom_1 rfl (nlt hL (by decide)) rfl ?_
  refine r_iconst (v := 0) X dX4_flownFrom_2 (by decide) ?_
  refine r_istore_n [(3, .int 0), (2, .int 0), (0, rf x.2.1 l0), (1, .int l1)] X dX4_flownFrom_3 rfl (nlt hL (by decide)) rfl ?_
  exact r_hdr [(0, rf x.2.1 l0), (1, .int l1), (2, .int 0), (3, .int 0)] [2, 3, 1, 0] rfl (fun h => HH _ h h_l0)
set_option maxRecDepth 100000 in
noncomputable def gX4_flownFrom (q : Nat × Nat × Int32 × Int32 × Int32 × Mm) : Option ((Nat × Nat × Int32 × Int32 × Int32 × Mm) ⊕ Int32 × Mm) := match q.1 with
  | 1 => bX4_flownFrom_4 (q.2.1) (q.2.2.1) (q.2.2.2.1) (q.2.2.2.2.1) (q.2.2.2.2.2)
  | _ => none
set_option maxRecDepth 100000 in
noncomputable def fX4_flownFrom (l0 : Nat) (l1 : Int32) (M : Mm) : Option (Int32 × Mm) := fen gX4_flownFrom (bX4_flownFrom_0 l0 l1 M)
set_option maxRecDepth 100000 in
set_option maxHeartbeats 4000000 in
theorem okX4_flownFrom (l : Launch) (g : GX) (hJ : IJ g) {l0 : Nat} {l1 : Int32} {M : Mm} (h_l0 : sh l0 = 14) : CT l g yX4_flownFrom cX4_flownFrom 4 (some .int) 3 [rf g l0, .int l1] M (fX4_flownFrom l0 l1 M) (fun r => some (.int r)) := by
  refine ct_I rfl hJ (Nat.le_of_ble_eq_true rfl) (fun x r hg hL hl X hf Hr => ?_)
  subst hg
  have Hr2 : RTI x cX4_flownFrom .int (Sum.elim (pX4_flownFrom x) (fun q => q = r)) Sum.inr := fun v M h => Hr v M h
  have HP : ∀ q, fnl gX4_flownFrom q = some r → pX4_flownFrom x q := by
    intro q hq
    refine fnl_ind (pX4_flownFrom x) (fun q hq => ?_) hq
    obtain ⟨n, l0, l1, l2, l3, M⟩ := q
    match n, hq with
    | 1, hq => exact fun h_l0 ls H locs hl hP hS => sX4_flownFrom_4 X hL Hr2 (fun _ h => h) h_l0 hq ls H locs hl hP hS
    | 0, hq => exact trivial
    | n + 2, hq => exact trivial
  exact fun _ ls H locs hl hP hS => sX4_flownFrom_0 X hL Hr2 (fun _ h => h) h_l0 (fen_w hf HP) ls H locs hl hP hS
/-! CrumbWood.was(II)I -/
set_option maxRecDepth 100000 in
def pX5_was (x : SB) (q : Nat × Nat × Int32 × Int32 × Int32 × Mm) : Prop := match q.1 with
  | 1 => sh q.2.1 = 15 → ∀ (ls : Array Slot) (H : Heap) (locs : List Loc), lv_has ls x.2.2.2.1 [(0, rf x.2.1 q.2.1), (2, .int q.2.2.1), (3, .int q.2.2.2.1), (4, .int q.2.2.2.2.1)] → PW x.2.1 (q.2.2.2.2.2) H → SH x H locs → SW x H locs 40 ls []
  | _ => True
set_option maxRecDepth 100000 in
noncomputable def bX5_was_40 (l0 : Nat) (l2 : Int32) (l3 : Int32) (l4 : Int32) (M : Mm) : Option ((Nat × Nat × Int32 × Int32 × Int32 × Mm) ⊕ Int32 × Mm) := if l2 ≤ l4 then some (.inr (l3, M)) else gfR M 14 l0 2 fun v1 => cal (fX4_flownFrom v1 l3 M) fun v3 M2 => some (.inl (1, l0, l2, v3, (l4 + 1), M2))
set_option maxRecDepth 100000 in
set_option maxHeartbeats 4000000 in
theorem sX5_was_40 {x : SB} {F : ((Nat × Nat × Int32 × Int32 × Int32 × Mm) ⊕ Int32 × Mm) → Prop} (X : CX x cX5_was RX5 4) (hL : x.2.2.2.1 = 5) (Hr : RTI x cX5_was .int F Sum.inr) (HH : ∀ q, F (.inl q) → pX5_was x q) {l0 : Nat} {l2 : Int32} {l3 : Int32} {l4 : Int32} {M : Mm} (h_l0 : sh l0 = 15) : SIM x F (bX5_was_40 l0 l2 l3 l4 M) 40 [(0, rf x.2.1 l0), (2, .int l2), (3, .int l3), (4, .int l4)] [] M := by
  unfold bX5_was_40
  refine r_iload X dX5_was_40 3 rfl ?_
  refine r_iload_n X dX5_was_42 rfl 1 rfl ?_
  refine r_icmp_ge 61 X dX5_was_43 (by decide) ?_ ?_
  · refine r_iload_n X dX5_was_61 rfl 2 rfl ?_
    exact r_iret Hr rfl dX5_was_62
  · refine r_aload_n X dX5_was_46 rfl 0 rfl ?_
    refine r_getR X fl_X5_21 (by decide) h_l0 dX5_was_47 (fun v1 h_v1 => ?_)
    refine r_iload_n X dX5_was_50 rfl 2 rfl ?_
    refine r_callVI [.int l3] X mt_X5_261 (by decide) h_v1 (by decide) (okX4_flownFrom _ _ X.J h_v1) rfl (Nat.le_of_ble_eq_true rfl) dX5_was_51 rfl (fun v3 M2 => ?_)
    refine r_istore_n [(3, .int v3), (0, rf x.2.1 l0), (2, .int l2), (4, .int l4)] X dX5_was_54 rfl (nlt hL (by decide)) rfl ?_
    refine r_iinc [(4, .int (l4 + 1)), (3, .int v3), (0, rf x.2.1 l0), (2, .int l2)] X dX5_was_55 3 rfl rfl (nlt hL (by decide)) rfl ?_
    refine r_goto 40 X dX5_was_58 (by decide) ?_
    exact r_hdr [(0, rf x.2.1 l0), (2, .int l2), (3, .int v3), (4, .int (l4 + 1))] [2, 3, 1, 0] rfl (fun h => HH _ h h_l0)
set_option maxRecDepth 100000 in
noncomputable def bX5_was_23  (M : Mm) : Option ((Nat × Nat × Int32 × Int32 × Int32 × Mm) ⊕ Int32 × Mm) := some (.inr ((-1), M))
set_option maxRecDepth 100000 in
set_option maxHeartbeats 4000000 in
theorem sX5_was_23 {x : SB} {F : ((Nat × Nat × Int32 × Int32 × Int32 × Mm) ⊕ Int32 × Mm) → Prop} (X : CX x cX5_was RX5 4) (hL : x.2.2.2.1 = 5) (Hr : RTI x cX5_was .int F Sum.inr) (HH : ∀ q, F (.inl q) → pX5_was x q)  {M : Mm}  : SIM x F (bX5_was_23  M) 23 [] [] M := by
  unfold bX5_was_23
  refine r_iconst (v := (-1)) X dX5_was_23 (by decide) ?_
  exact r_iret Hr rfl dX5_was_24
set_option maxRecDepth 100000 in
noncomputable def bX5_was_0 (l0 : Nat) (l1 : Int32) (l2 : Int32) (M : Mm) : Option ((Nat × Nat × Int32 × Int32 × Int32 × Mm) ⊕ Int32 × Mm) := gfR M 14 l0 2 fun v4 => gfI M v4 1 fun v5 => cal (fX5_isBelow l1 v5 M) fun v7 M6 => if v7 = 0 then bX5_was_23 M6 else cal (fX5_isUpTo l2 40 M6) fun v9 M8 => if v9 = 0 then bX5_was_23 M8 else gfR M8 14 l0 2 fun v10 => gfR M8 0 v10 8 fun v11 => ldI M8 v11 l1 fun v12 => ltI ((1 : Int32) <<< (v12 &&& 31)) fun v13 => some (.inl (1, l0, l2, v13, 0, M8))
set_option maxRecDepth 100000 in
set_option maxHeartbeats 4000000 in
theorem sX5_was_0 {x : SB} {F : ((Nat × Nat × Int32 × Int32 × Int32 × Mm) ⊕ Int32 × Mm) → Prop} (X : CX x cX5_was RX5 4) (hL : x.2.2.2.1 = 5) (Hr : RTI x cX5_was .int F Sum.inr) (HH : ∀ q, F (.inl q) → pX5_was x q) {l0 : Nat} {l1 : Int32} {l2 : Int32} {M : Mm} (h_l0 : sh l0 = 15) : SIM x F (bX5_was_0 l0 l1 l2 M) 0 [(0, rf x.2.1 l0), (1, .int l1), (2, .int l2)] [] M := by
  unfold bX5_was_0
  refine r_iload_n X dX5_was_0 rfl 1 rfl ?_
  refine r_aload_n X dX5_was_1 rfl 0 rfl ?_
  refine r_getR X fl_X5_21 (by decide) h_l0 dX5_was_2 (fun v4 h_v4 => ?_)
  refine r_getI X fl_X5_168 (by decide) h_v4 dX5_was_5 (fun v5 => ?_)
  refine r_callSI [.int l1, .int v5] X mt_X5_74 (by decide) (okX5_isBelow _ _ X.J) rfl (Nat.le_of_ble_eq_true rfl) dX5_was_8 rfl (fun v7 M6 => ?_)
  refine r_if_eq 23 X dX5_was_11 (by decide) ?_ ?_
  · exact r_to [] [] rfl (sX5_was_23 X hL Hr HH)
  · refine r_iload_n X dX5_was_14 rfl 2 rfl ?_
    refine r_bipush (v := 40) X dX5_was_15 (by decide) ?_
    refine r_callSI [.int l2, .int 40] X mt_X5_196 (by decide) (okX5_isUpTo _ _ X.J) rfl (Nat.le_of_ble_eq_true rfl) dX5_was_17 rfl (fun v9 M8 => ?_)
    refine r_if_ne 25 X dX5_was_20 (by decide) ?_ ?_
    · exact r_to [] [] rfl (sX5_was_23 X hL Hr HH)
    · refine r_iconst (v := 1) X dX5_was_25 (by decide) ?_
      refine r_aload_n X dX5_was_26 rfl 0 rfl ?_
      refine r_getR X fl_X5_21 (by decide) h_l0 dX5_was_27 (fun v10 h_v10 => ?_)
      refine r_getR X fl_X5_171 (by decide) h_v10 dX5_was_30 (fun v11 h_v11 => ?_)
      refine r_iload_n X dX5_was_33 rfl 1 rfl ?_
      refine r_iald X h_v11 dX5_was_34 (fun v12 => ?_)
      refine r_ishl X dX5_was_35 ?_
      refine r_letI (fun v13 => ?_)
      refine r_istore_n [(3, .int v13), (0, rf x.2.1 l0), (1, .int l1), (2, .int l2)] X dX5_was_36 rfl (nlt hL (by decide)) rfl ?_
      refine r_iconst (v := 0) X dX5_was_37 (by decide) ?_
      refine r_istore [(4, .int 0), (3, .int v13), (0, rf x.2.1 l0), (1, .int l1), (2, .int l2)] X dX5_was_38 (nlt hL (by decide)) rfl ?_
      exact r_hdr [(0, rf x.2.1 l0), (2, .int l2), (3, .int v13), (4, .int 0)] [2, 4, 1, 0] rfl (fun h => HH _ h h_l0)
set_option maxRecDepth 100000 in
noncomputable def gX5_was (q : Nat × Nat × Int32 × Int32 × Int32 × Mm) : Option ((Nat × Nat × Int32 × Int32 × Int32 × Mm) ⊕ Int32 × Mm) := match q.1 with
  | 1 => bX5_was_40 (q.2.1) (q.2.2.1) (q.2.2.2.1) (q.2.2.2.2.1) (q.2.2.2.2.2)
  | _ => none
set_option maxRecDepth 100000 in
noncomputable def fX5_was (l0 : Nat) (l1 : Int32) (l2 : Int32) (M : Mm) : Option (Int32 × Mm) := fen gX5_was (bX5_was_0 l0 l1 l2 M)
set_option maxRecDepth 100000 in
set_option maxHeartbeats 4000000 in
theorem okX5_was (l : Launch) (g : GX) (hJ : IJ g) {l0 : Nat} {l1 : Int32} {l2 : Int32} {M : Mm} (h_l0 : sh l0 = 15) : CT l g yX5_was cX5_was 5 (some .int) 4 [rf g l0, .int l1, .int l2] M (fX5_was l0 l1 l2 M) (fun r => some (.int r)) := by
  refine ct_I rfl hJ (Nat.le_of_ble_eq_true rfl) (fun x r hg hL hl X hf Hr => ?_)
  subst hg
  have Hr2 : RTI x cX5_was .int (Sum.elim (pX5_was x) (fun q => q = r)) Sum.inr := fun v M h => Hr v M h
  have HP : ∀ q, fnl gX5_was q = some r → pX5_was x q := by
    intro q hq
    refine fnl_ind (pX5_was x) (fun q hq => ?_) hq
    obtain ⟨n, l0, l2, l3, l4, M⟩ := q
    match n, hq with
    | 1, hq => exact fun h_l0 ls H locs hl hP hS => sX5_was_40 X hL Hr2 (fun _ h => h) h_l0 hq ls H locs hl hP hS
    | 0, hq => exact trivial
    | n + 2, hq => exact trivial
  exact fun _ ls H locs hl hP hS => sX5_was_0 X hL Hr2 (fun _ h => h) h_l0 (fen_w hf HP) ls H locs hl hP hS
/-! CrumbWood.ways(I)I -/
set_option maxRecDepth 100000 in
noncomputable def fX5_ways (l0 : Nat) (l1 : Int32) (M : Mm) : Option (Int32 × Mm) := cal (fX5_isUpTo l1 8 M) fun v2 M1 => if v2 = 0 then some (((-1), M1)) else gfR M1 14 l0 2 fun v3 => cal (fX4_isEmpty v3 M1) fun v5 M4 => if v5 = 0 then gfR M4 13 l0 7 fun v6 => gfR M4 14 l0 2 fun v7 => gfR M4 14 l0 2 fun v8 => cal (fX4_marked v8 M4) fun v10 M9 => cal (fX3_numberOf v6 v7 l1 v10 M9) fun v12 M11 => gfR M11 13 l0 7 fun v13 => gfI M11 v13 2 fun v14 => pfI M11 l0 10 v14 fun M15 => some ((v12, M15)) else some (((-4), M4))
set_option maxRecDepth 100000 in
set_option maxHeartbeats 4000000 in
theorem sX5_ways_0 {x : SB} {F : (Int32 × Mm) → Prop} (X : CX x cX5_ways RX5 3) (hL : x.2.2.2.1 = 3) (Hr : RTI x cX5_ways .int F (fun q => q)) {l0 : Nat} {l1 : Int32} {M : Mm} (h_l0 : sh l0 = 15) : SIM x F (fX5_ways l0 l1 M) 0 [(0, rf x.2.1 l0), (1, .int l1)] [] M := by
  unfold fX5_ways
  refine r_iload_n X dX5_ways_0 rfl 1 rfl ?_
  refine r_bipush (v := 8) X dX5_ways_1 (by decide) ?_
  refine r_callSI [.int l1, .int 8] X mt_X5_196 (by decide) (okX5_isUpTo _ _ X.J) rfl (Nat.le_of_ble_eq_true rfl) dX5_ways_3 rfl (fun v2 M1 => ?_)
  refine r_if_ne 11 X dX5_ways_6 (by decide) ?_ ?_
  · refine r_iconst (v := (-1)) X dX5_ways_9 (by decide) ?_
    exact r_iret Hr rfl dX5_ways_10
  · refine r_aload_n X dX5_ways_11 rfl 0 rfl ?_
    refine r_getR X fl_X5_21 (by decide) h_l0 dX5_ways_12 (fun v3 h_v3 => ?_)
    refine r_callVI [] X mt_X5_199 (by decide) h_v3 (by decide) (okX4_isEmpty _ _ X.J h_v3) rfl (Nat.le_of_ble_eq_true rfl) dX5_ways_15 rfl (fun v5 M4 => ?_)
    refine r_if_eq 24 X dX5_ways_18 (by decide) ?_ ?_
    · refine r_aload_n X dX5_ways_24 rfl 0 rfl ?_
      refine r_getR X fl_X5_49 (by decide) h_l0 dX5_ways_25 (fun v6 h_v6 => ?_)
      refine r_aload_n X dX5_ways_28 rfl 0 rfl ?_
      refine r_getR X fl_X5_21 (by decide) h_l0 dX5_ways_29 (fun v7 h_v7 => ?_)
      refine r_iload_n X dX5_ways_32 rfl 1 rfl ?_
      refine r_aload_n X dX5_ways_33 rfl 0 rfl ?_
      refine r_getR X fl_X5_21 (by decide) h_l0 dX5_ways_34 (fun v8 h_v8 => ?_)
      refine r_callVI [] X mt_X5_252 (by decide) h_v8 (by decide) (okX4_marked _ _ X.J h_v8) rfl (Nat.le_of_ble_eq_true rfl) dX5_ways_37 rfl (fun v10 M9 => ?_)
      refine r_callVI [rf x.2.1 v7, .int l1, .int v10] X mt_X5_228 (by decide) h_v6 (by decide) (okX3_numberOf _ _ X.J h_v6 h_v7) rfl (Nat.le_of_ble_eq_true rfl) dX5_ways_40 rfl (fun v12 M11 => ?_)
      refine r_istore_n [(2, .int v12), (0, rf x.2.1 l0), (1, .int l1)] X dX5_ways_43 rfl (nlt hL (by decide)) rfl ?_
      refine r_aload_n X dX5_ways_44 rfl 1 rfl ?_
      refine r_aload_n X dX5_ways_45 rfl 1 rfl ?_
      refine r_getR X fl_X5_49 (by decide) h_l0 dX5_ways_46 (fun v13 h_v13 => ?_)
      refine r_getI X fl_X5_255 (by decide) h_v13 dX5_ways_49 (fun v14 => ?_)
      refine r_putI X fl_X5_61 (by decide) h_l0 (fun _ => rfl) (fun _ => rfl) dX5_ways_52 (fun M15 => ?_)
      refine r_iload_n X dX5_ways_55 rfl 0 rfl ?_
      exact r_iret Hr rfl dX5_ways_56
    · refine r_bipush (v := (-4)) X dX5_ways_21 (by decide) ?_
      exact r_iret Hr rfl dX5_ways_23
set_option maxRecDepth 100000 in
set_option maxHeartbeats 4000000 in
theorem okX5_ways (l : Launch) (g : GX) (hJ : IJ g) {l0 : Nat} {l1 : Int32} {M : Mm} (h_l0 : sh l0 = 15) : CT l g yX5_ways cX5_ways 3 (some .int) 3 [rf g l0, .int l1] M (fX5_ways l0 l1 M) (fun r => some (.int r)) := by
  refine ct_I rfl hJ (Nat.le_of_ble_eq_true rfl) (fun x r hg hL hl X hf Hr => ?_)
  subst hg
  exact fun _ ls H locs hl hP hS => sX5_ways_0 X hL Hr h_l0 ⟨_, hf, rfl⟩ ls H locs hl hP hS
/-! CrumbWood.wood(I)I -/
set_option maxRecDepth 100000 in
def pX5_wood (x : SB) (q : Nat × Nat × Int32 × Mm) : Prop := match q.1 with
  | 1 => sh q.2.1 = 15 → ∀ (ls : Array Slot) (H : Heap) (locs : List Loc), lv_has ls x.2.2.2.1 [(0, rf x.2.1 q.2.1), (2, .int q.2.2.1)] → PW x.2.1 (q.2.2.2) H → SH x H locs → SW x H locs 66 ls []
  | _ => True
set_option maxRecDepth 100000 in
noncomputable def bX5_wood_66 (l0 : Nat) (l2 : Int32) (M : Mm) : Option ((Nat × Nat × Int32 × Mm) ⊕ Int32 × Mm) := if 3 ≤ l2 then gfR M 14 l0 2 fun v1 => gfI M v1 0 fun v2 => some (.inr (v2, M)) else gfR M 4 l0 3 fun v3 => ldR M 14 v3 l2 fun v4 => pfI M v4 0 0 fun M5 => some (.inl (1, l0, (l2 + 1), M5))
set_option maxRecDepth 100000 in
set_option maxHeartbeats 4000000 in
theorem sX5_wood_66 {x : SB} {F : ((Nat × Nat × Int32 × Mm) ⊕ Int32 × Mm) → Prop} (X : CX x cX5_wood RX5 5) (hL : x.2.2.2.1 = 3) (Hr : RTI x cX5_wood .int F Sum.inr) (HH : ∀ q, F (.inl q) → pX5_wood x q) {l0 : Nat} {l2 : Int32} {M : Mm} (h_l0 : sh l0 = 15) : SIM x F (bX5_wood_66 l0 l2 M) 66 [(0, rf x.2.1 l0), (2, .int l2)] [] M := by
  unfold bX5_wood_66
  refine r_iload_n X dX5_wood_66 rfl 1 rfl ?_
  refine r_iconst (v := 3) X dX5_wood_67 (by decide) ?_
  refine r_icmp_ge 87 X dX5_wood_68 (by decide) ?_ ?_
  · refine r_aload_n X dX5_wood_87 rfl 0 rfl ?_
    refine r_getR X fl_X5_21 (by decide) h_l0 dX5_wood_88 (fun v1 h_v1 => ?_)
    refine r_getI X fl_X5_120 (by decide) h_v1 dX5_wood_91 (fun v2 => ?_)
    exact r_iret Hr rfl dX5_wood_94
  · refine r_aload_n X dX5_wood_71 rfl 0 rfl ?_
    refine r_getR X fl_X5_25 (by decide) h_l0 dX5_wood_72 (fun v3 h_v3 => ?_)
    refine r_iload_n X dX5_wood_75 rfl 1 rfl ?_
    refine r_aldW X h_v3 dX5_wood_76 (fun v4 h_v4 => ?_)
    refine r_iconst (v := 0) X dX5_wood_77 (by decide) ?_
    refine r_putI X fl_X5_120 (by decide) h_v4 (fun _ => rfl) (fun _ => rfl) dX5_wood_78 (fun M5 => ?_)
    refine r_iinc [(2, .int (l2 + 1)), (0, rf x.2.1 l0)] X dX5_wood_81 1 rfl rfl (nlt hL (by decide)) rfl ?_
    refine r_goto 66 X dX5_wood_84 (by decide) ?_
    exact r_hdr [(0, rf x.2.1 l0), (2, .int (l2 + 1))] [1, 0] rfl (fun h => HH _ h h_l0)
set_option maxRecDepth 100000 in
noncomputable def bX5_wood_0 (l0 : Nat) (l1 : Int32) (M : Mm) : Option ((Nat × Nat × Int32 × Mm) ⊕ Int32 × Mm) := cal (fX5_isBelow l1 4 M) fun v7 M6 => if v7 = 0 then some (.inr ((-1), M6)) else gfR M6 3 l0 1 fun v8 => ldR M6 12 v8 l1 fun v9 => cal (fX2_isMissing v9 M6) fun v11 M10 => if v11 = 0 then gfR M10 10 l0 5 fun v12 => gfR M10 3 l0 1 fun v13 => ldR M10 12 v13 l1 fun v14 => gfR M10 14 l0 4 fun v15 => cal (fX0_read v12 v14 v15 M10) fun v17 M16 => if v17 = (-9) then gfR M16 14 l0 2 fun v18 => gfR M16 14 l0 4 fun v19 => cal (fX4_become v18 v19 M16) fun _ M20 => some (.inl (1, l0, 0, M20)) else some (.inr ((-4), M16)) else cal (fX5_refuse l0 1 M10) fun v22 M21 => some (.inr (v22, M21))
set_option maxRecDepth 100000 in
set_option maxHeartbeats 4000000 in
theorem sX5_wood_0 {x : SB} {F : ((Nat × Nat × Int32 × Mm) ⊕ Int32 × Mm) → Prop} (X : CX x cX5_wood RX5 5) (hL : x.2.2.2.1 = 3) (Hr : RTI x cX5_wood .int F Sum.inr) (HH : ∀ q, F (.inl q) → pX5_wood x q) {l0 : Nat} {l1 : Int32} {M : Mm} (h_l0 : sh l0 = 15) : SIM x F (bX5_wood_0 l0 l1 M) 0 [(0, rf x.2.1 l0), (1, .int l1)] [] M := by
  unfold bX5_wood_0
  refine r_iload_n X dX5_wood_0 rfl 1 rfl ?_
  refine r_iconst (v := 4) X dX5_wood_1 (by decide) ?_
  refine r_callSI [.int l1, .int 4] X mt_X5_74 (by decide) (okX5_isBelow _ _ X.J) rfl (Nat.le_of_ble_eq_true rfl) dX5_wood_2 rfl (fun v7 M6 => ?_)
  refine r_if_ne 10 X dX5_wood_5 (by decide) ?_ ?_
  · refine r_iconst (v := (-1)) X dX5_wood_8 (by decide) ?_
    exact r_iret Hr rfl dX5_wood_9
  · refine r_aload_n X dX5_wood_10 rfl 0 rfl ?_
    refine r_getR X fl_X5_15 (by decide) h_l0 dX5_wood_11 (fun v8 h_v8 => ?_)
    refine r_iload_n X dX5_wood_14 rfl 1 rfl ?_
    refine r_aldS X h_v8 dX5_wood_15 (fun v9 h_v9 => ?_)
    refine r_callVI [] X mt_X5_92 (by decide) h_v9 (by decide) (okX2_isMissing _ _ X.J h_v9) rfl (Nat.le_of_ble_eq_true rfl) dX5_wood_16 rfl (fun v11 M10 => ?_)
    refine r_if_eq 28 X dX5_wood_19 (by decide) ?_ ?_
    · refine r_aload_n X dX5_wood_28 rfl 0 rfl ?_
      refine r_getR X fl_X5_35 (by decide) h_l0 dX5_wood_29 (fun v12 h_v12 => ?_)
      refine r_aload_n X dX5_wood_32 rfl 0 rfl ?_
      refine r_getR X fl_X5_15 (by decide) h_l0 dX5_wood_33 (fun v13 h_v13 => ?_)
      refine r_iload_n X dX5_wood_36 rfl 1 rfl ?_
      refine r_aldS X h_v13 dX5_wood_37 (fun v14 h_v14 => ?_)
      refine r_aload_n X dX5_wood_38 rfl 0 rfl ?_
      refine r_getR X fl_X5_29 (by decide) h_l0 dX5_wood_39 (fun v15 h_v15 => ?_)
      refine r_callVI [rf x.2.1 v14, rf x.2.1 v15] X mt_X5_112 (by decide) h_v12 (by decide) (okX0_read _ _ X.J h_v12 h_v14 h_v15) rfl (Nat.le_of_ble_eq_true rfl) dX5_wood_42 rfl (fun v17 M16 => ?_)
      refine r_bipush (v := (-9)) X dX5_wood_45 (by decide) ?_
      refine r_icmp_eq 53 X dX5_wood_47 (by decide) ?_ ?_
      · refine r_aload_n X dX5_wood_53 rfl 0 rfl ?_
        refine r_getR X fl_X5_21 (by decide) h_l0 dX5_wood_54 (fun v18 h_v18 => ?_)
        refine r_aload_n X dX5_wood_57 rfl 0 rfl ?_
        refine r_getR X fl_X5_29 (by decide) h_l0 dX5_wood_58 (fun v19 h_v19 => ?_)
        refine r_callVV [rf x.2.1 v19] X mt_X5_116 (by decide) h_v18 (by decide) (okX4_become _ _ X.J h_v18 h_v19) rfl (Nat.le_of_ble_eq_true rfl) dX5_wood_61 rfl (fun _ M20 => ?_)
        refine r_iconst (v := 0) X dX5_wood_64 (by decide) ?_
        refine r_istore_n [(2, .int 0), (0, rf x.2.1 l0), (1, .int l1)] X dX5_wood_65 rfl (nlt hL (by decide)) rfl ?_
        exact r_hdr [(0, rf x.2.1 l0), (2, .int 0)] [1, 0] rfl (fun h => HH _ h h_l0)
      · refine r_bipush (v := (-4)) X dX5_wood_50 (by decide) ?_
        exact r_iret Hr rfl dX5_wood_52
    · refine r_aload_n X dX5_wood_22 rfl 0 rfl ?_
      refine r_iconst (v := 1) X dX5_wood_23 (by decide) ?_
      refine r_callVI [.int 1] X mt_X5_78 (by decide) h_l0 (by decide) (okX5_refuse _ _ X.J h_l0) rfl (Nat.le_of_ble_eq_true rfl) dX5_wood_24 rfl (fun v22 M21 => ?_)
      exact r_iret Hr rfl dX5_wood_27
set_option maxRecDepth 100000 in
noncomputable def gX5_wood (q : Nat × Nat × Int32 × Mm) : Option ((Nat × Nat × Int32 × Mm) ⊕ Int32 × Mm) := match q.1 with
  | 1 => bX5_wood_66 (q.2.1) (q.2.2.1) (q.2.2.2)
  | _ => none
set_option maxRecDepth 100000 in
noncomputable def fX5_wood (l0 : Nat) (l1 : Int32) (M : Mm) : Option (Int32 × Mm) := fen gX5_wood (bX5_wood_0 l0 l1 M)
set_option maxRecDepth 100000 in
set_option maxHeartbeats 4000000 in
theorem okX5_wood (l : Launch) (g : GX) (hJ : IJ g) {l0 : Nat} {l1 : Int32} {M : Mm} (h_l0 : sh l0 = 15) : CT l g yX5_wood cX5_wood 3 (some .int) 5 [rf g l0, .int l1] M (fX5_wood l0 l1 M) (fun r => some (.int r)) := by
  refine ct_I rfl hJ (Nat.le_of_ble_eq_true rfl) (fun x r hg hL hl X hf Hr => ?_)
  subst hg
  have Hr2 : RTI x cX5_wood .int (Sum.elim (pX5_wood x) (fun q => q = r)) Sum.inr := fun v M h => Hr v M h
  have HP : ∀ q, fnl gX5_wood q = some r → pX5_wood x q := by
    intro q hq
    refine fnl_ind (pX5_wood x) (fun q hq => ?_) hq
    obtain ⟨n, l0, l2, M⟩ := q
    match n, hq with
    | 1, hq => exact fun h_l0 ls H locs hl hP hS => sX5_wood_66 X hL Hr2 (fun _ h => h) h_l0 hq ls H locs hl hP hS
    | 0, hq => exact trivial
    | n + 2, hq => exact trivial
  exact fun _ ls H locs hl hP hS => sX5_wood_0 X hL Hr2 (fun _ h => h) h_l0 (fen_w hf HP) ls H locs hl hP hS
/-! CrumbWood.wrong()I -/
set_option maxRecDepth 100000 in
def pX5_wrong (x : SB) (q : Nat × Nat × Int32 × Int32 × Mm) : Prop := match q.1 with
  | 1 => sh q.2.1 = 15 → ∀ (ls : Array Slot) (H : Heap) (locs : List Loc), lv_has ls x.2.2.2.1 [(0, rf x.2.1 q.2.1), (1, .int q.2.2.1), (2, .int q.2.2.2.1)] → PW x.2.1 (q.2.2.2.2) H → SH x H locs → SW x H locs 45 ls []
  | _ => True
set_option maxRecDepth 100000 in
noncomputable def bX5_wrong_45 (l0 : Nat) (l1 : Int32) (l2 : Int32) (M : Mm) : Option ((Nat × Nat × Int32 × Int32 × Mm) ⊕ Int32 × Mm) := if l1 ≤ l2 then some (.inr ((-9), M)) else gfR M 11 l0 6 fun v1 => gfR M 0 v1 7 fun v2 => ldI M v2 (l2 + 1) fun v3 => gfR M 14 l0 2 fun v4 => gfR M 0 v4 10 fun v5 => gfR M 14 l0 2 fun v6 => gfI M v6 2 fun v7 => ldI M v5 ((v7 - l2) - 1) fun v8 => if v3 = v8 then some (.inl (1, l0, l1, (l2 + 1), M)) else some (.inr (l2, M))
set_option maxRecDepth 100000 in
set_option maxHeartbeats 4000000 in
theorem sX5_wrong_45 {x : SB} {F : ((Nat × Nat × Int32 × Int32 × Mm) ⊕ Int32 × Mm) → Prop} (X : CX x cX5_wrong RX5 4) (hL : x.2.2.2.1 = 3) (Hr : RTI x cX5_wrong .int F Sum.inr) (HH : ∀ q, F (.inl q) → pX5_wrong x q) {l0 : Nat} {l1 : Int32} {l2 : Int32} {M : Mm} (h_l0 : sh l0 = 15) : SIM x F (bX5_wrong_45 l0 l1 l2 M) 45 [(0, rf x.2.1 l0), (1, .int l1), (2, .int l2)] [] M := by
  unfold bX5_wrong_45
  refine r_iload_n X dX5_wrong_45 rfl 2 rfl ?_
  refine r_iload_n X dX5_wrong_46 rfl 1 rfl ?_
  refine r_icmp_ge 91 X dX5_wrong_47 (by decide) ?_ ?_
  · refine r_bipush (v := (-9)) X dX5_wrong_91 (by decide) ?_
    exact r_iret Hr rfl dX5_wrong_93
  · refine r_aload_n X dX5_wrong_50 rfl 0 rfl ?_
    refine r_getR X fl_X5_42 (by decide) h_l0 dX5_wrong_51 (fun v1 h_v1 => ?_)
    refine r_getR X fl_X5_217 (by decide) h_v1 dX5_wrong_54 (fun v2 h_v2 => ?_)
    refine r_iload_n X dX5_wrong_57 rfl 2 rfl ?_
    refine r_iconst (v := 1) X dX5_wrong_58 (by decide) ?_
    refine r_iadd X dX5_wrong_59 ?_
    refine r_iald X h_v2 dX5_wrong_60 (fun v3 => ?_)
    refine r_aload_n X dX5_wrong_61 rfl 0 rfl ?_
    refine r_getR X fl_X5_21 (by decide) h_l0 dX5_wrong_62 (fun v4 h_v4 => ?_)
    refine r_getR X fl_X5_205 (by decide) h_v4 dX5_wrong_65 (fun v5 h_v5 => ?_)
    refine r_aload_n X dX5_wrong_68 rfl 0 rfl ?_
    refine r_getR X fl_X5_21 (by decide) h_l0 dX5_wrong_69 (fun v6 h_v6 => ?_)
    refine r_getI X fl_X5_184 (by decide) h_v6 dX5_wrong_72 (fun v7 => ?_)
    refine r_iload_n X dX5_wrong_75 rfl 2 rfl ?_
    refine r_isub X dX5_wrong_76 ?_
    refine r_iconst (v := 1) X dX5_wrong_77 (by decide) ?_
    refine r_isub X dX5_wrong_78 ?_
    refine r_iald X h_v5 dX5_wrong_79 (fun v8 => ?_)
    refine r_icmp_eq 85 X dX5_wrong_80 (by decide) ?_ ?_
    · refine r_iinc [(2, .int (l2 + 1)), (0, rf x.2.1 l0), (1, .int l1)] X dX5_wrong_85 2 rfl rfl (nlt hL (by decide)) rfl ?_
      refine r_goto 45 X dX5_wrong_88 (by decide) ?_
      exact r_hdr [(0, rf x.2.1 l0), (1, .int l1), (2, .int (l2 + 1))] [1, 2, 0] rfl (fun h => HH _ h h_l0)
    · refine r_iload_n X dX5_wrong_83 rfl 2 rfl ?_
      exact r_iret Hr rfl dX5_wrong_84
set_option maxRecDepth 100000 in
noncomputable def bX5_wrong_0 (l0 : Nat) (M : Mm) : Option ((Nat × Nat × Int32 × Int32 × Mm) ⊕ Int32 × Mm) := gfR M 14 l0 2 fun v9 => cal (fX4_isEmpty v9 M) fun v11 M10 => if v11 = 0 then gfR M10 11 l0 6 fun v12 => gfR M10 14 l0 2 fun v13 => cal (fX1_findsHome v12 v13 M10) fun v15 M14 => gfR M14 11 l0 6 fun v16 => gfI M14 v16 8 fun v17 => gfR M14 14 l0 2 fun v18 => gfI M14 v18 2 fun v19 => ltI (if v19 < v17 then v19 else v17) fun v20 => some (.inl (1, l0, v20, 0, M14)) else some (.inr ((-4), M10))
set_option maxRecDepth 100000 in
set_option maxHeartbeats 4000000 in
theorem sX5_wrong_0 {x : SB} {F : ((Nat × Nat × Int32 × Int32 × Mm) ⊕ Int32 × Mm) → Prop} (X : CX x cX5_wrong RX5 4) (hL : x.2.2.2.1 = 3) (Hr : RTI x cX5_wrong .int F Sum.inr) (HH : ∀ q, F (.inl q) → pX5_wrong x q) {l0 : Nat} {M : Mm} (h_l0 : sh l0 = 15) : SIM x F (bX5_wrong_0 l0 M) 0 [(0, rf x.2.1 l0)] [] M := by
  unfold bX5_wrong_0
  refine r_aload_n X dX5_wrong_0 rfl 0 rfl ?_
  refine r_getR X fl_X5_21 (by decide) h_l0 dX5_wrong_1 (fun v9 h_v9 => ?_)
  refine r_callVI [] X mt_X5_199 (by decide) h_v9 (by decide) (okX4_isEmpty _ _ X.J h_v9) rfl (Nat.le_of_ble_eq_true rfl) dX5_wrong_4 rfl (fun v11 M10 => ?_)
  refine r_if_eq 13 X dX5_wrong_7 (by decide) ?_ ?_
  · refine r_aload_n X dX5_wrong_13 rfl 0 rfl ?_
    refine r_getR X fl_X5_42 (by decide) h_l0 dX5_wrong_14 (fun v12 h_v12 => ?_)
    refine r_aload_n X dX5_wrong_17 rfl 0 rfl ?_
    refine r_getR X fl_X5_21 (by decide) h_l0 dX5_wrong_18 (fun v13 h_v13 => ?_)
    refine r_callVI [rf x.2.1 v13] X mt_X5_212 (by decide) h_v12 (by decide) (okX1_findsHome _ _ X.J h_v12 h_v13) rfl (Nat.le_of_ble_eq_true rfl) dX5_wrong_21 rfl (fun v15 M14 => ?_)
    refine r_pop X dX5_wrong_24 rfl ?_
    refine r_aload_n X dX5_wrong_25 rfl 0 rfl ?_
    refine r_getR X fl_X5_42 (by decide) h_l0 dX5_wrong_26 (fun v16 h_v16 => ?_)
    refine r_getI X fl_X5_216 (by decide) h_v16 dX5_wrong_29 (fun v17 => ?_)
    refine r_aload_n X dX5_wrong_32 rfl 0 rfl ?_
    refine r_getR X fl_X5_21 (by decide) h_l0 dX5_wrong_33 (fun v18 h_v18 => ?_)
    refine r_getI X fl_X5_184 (by decide) h_v18 dX5_wrong_36 (fun v19 => ?_)
    refine r_min X k_585 k_293 k_67 k_294 (by decide) (Nat.le_of_ble_eq_true rfl) dX5_wrong_39 ?_
    refine r_letI (fun v20 => ?_)
    refine r_istore_n [(1, .int v20), (0, rf x.2.1 l0)] X dX5_wrong_42 rfl (nlt hL (by decide)) rfl ?_
    refine r_iconst (v := 0) X dX5_wrong_43 (by decide) ?_
    refine r_istore_n [(2, .int 0), (1, .int v20), (0, rf x.2.1 l0)] X dX5_wrong_44 rfl (nlt hL (by decide)) rfl ?_
    exact r_hdr [(0, rf x.2.1 l0), (1, .int v20), (2, .int 0)] [2, 1, 0] rfl (fun h => HH _ h h_l0)
  · refine r_bipush (v := (-4)) X dX5_wrong_10 (by decide) ?_
    exact r_iret Hr rfl dX5_wrong_12
set_option maxRecDepth 100000 in
noncomputable def gX5_wrong (q : Nat × Nat × Int32 × Int32 × Mm) : Option ((Nat × Nat × Int32 × Int32 × Mm) ⊕ Int32 × Mm) := match q.1 with
  | 1 => bX5_wrong_45 (q.2.1) (q.2.2.1) (q.2.2.2.1) (q.2.2.2.2)
  | _ => none
set_option maxRecDepth 100000 in
noncomputable def fX5_wrong (l0 : Nat) (M : Mm) : Option (Int32 × Mm) := fen gX5_wrong (bX5_wrong_0 l0 M)
set_option maxRecDepth 100000 in
set_option maxHeartbeats 4000000 in
theorem okX5_wrong (l : Launch) (g : GX) (hJ : IJ g) {l0 : Nat} {M : Mm} (h_l0 : sh l0 = 15) : CT l g yX5_wrong cX5_wrong 3 (some .int) 4 [rf g l0] M (fX5_wrong l0 M) (fun r => some (.int r)) := by
  refine ct_I rfl hJ (Nat.le_of_ble_eq_true rfl) (fun x r hg hL hl X hf Hr => ?_)
  subst hg
  have Hr2 : RTI x cX5_wrong .int (Sum.elim (pX5_wrong x) (fun q => q = r)) Sum.inr := fun v M h => Hr v M h
  have HP : ∀ q, fnl gX5_wrong q = some r → pX5_wrong x q := by
    intro q hq
    refine fnl_ind (pX5_wrong x) (fun q hq => ?_) hq
    obtain ⟨n, l0, l1, l2, M⟩ := q
    match n, hq with
    | 1, hq => exact fun h_l0 ls H locs hl hP hS => sX5_wrong_45 X hL Hr2 (fun _ h => h) h_l0 hq ls H locs hl hP hS
    | 0, hq => exact trivial
    | n + 2, hq => exact trivial
  exact fun _ ls H locs hl hP hS => sX5_wrong_0 X hL Hr2 (fun _ h => h) h_l0 (fen_w hf HP) ls H locs hl hP hS
/-! CrumbWoodModel.asked()I -/
set_option maxRecDepth 100000 in
noncomputable def fX6_asked (l0 : Nat) (M : Mm) : Option (Int32 × Mm) := gfI M l0 2 fun v1 => some ((v1, M))
set_option maxRecDepth 100000 in
set_option maxHeartbeats 4000000 in
theorem sX6_asked_0 {x : SB} {F : (Int32 × Mm) → Prop} (X : CX x cX6_asked RX6 0) (hL : x.2.2.2.1 = 1) (Hr : RTI x cX6_asked .int F (fun q => q)) {l0 : Nat} {M : Mm} (h_l0 : sh l0 = 16) : SIM x F (fX6_asked l0 M) 0 [(0, rf x.2.1 l0)] [] M := by
  unfold fX6_asked
  refine r_aload_n X dX6_asked_0 rfl 0 rfl ?_
  refine r_getI X fl_X6_96 (by decide) h_l0 dX6_asked_1 (fun v1 => ?_)
  exact r_iret Hr rfl dX6_asked_4
set_option maxRecDepth 100000 in
set_option maxHeartbeats 4000000 in
theorem okX6_asked (l : Launch) (g : GX) (hJ : IJ g) {l0 : Nat} {M : Mm} (h_l0 : sh l0 = 16) : CT l g yX6_asked cX6_asked 1 (some .int) 0 [rf g l0] M (fX6_asked l0 M) (fun r => some (.int r)) := by
  refine ct_I rfl hJ (Nat.le_of_ble_eq_true rfl) (fun x r hg hL hl X hf Hr => ?_)
  subst hg
  exact fun _ ls H locs hl hP hS => sX6_asked_0 X hL Hr h_l0 ⟨_, hf, rfl⟩ ls H locs hl hP hS
/-! CrumbWoodModel.set(IIII)V -/
set_option maxRecDepth 100000 in
noncomputable def fX6_set (l0 : Nat) (l1 : Int32) (l2 : Int32) (l3 : Int32) (l4 : Int32) (M : Mm) : Option (Unit × Mm) := gfR M 0 l0 24 fun v1 => stI M v1 ((((39 : Int32) * l1) + l2) + l3) l4 fun M2 => some (((), M2))
set_option maxRecDepth 100000 in
set_option maxHeartbeats 4000000 in
theorem sX6_set_0 {x : SB} {F : (Unit × Mm) → Prop} (X : CX x cX6_set RX6 0) (hL : x.2.2.2.1 = 5) (Hr : RTV x cX6_set F (fun q => q)) {l0 : Nat} {l1 : Int32} {l2 : Int32} {l3 : Int32} {l4 : Int32} {M : Mm} (h_l0 : sh l0 = 16) : SIM x F (fX6_set l0 l1 l2 l3 l4 M) 0 [(0, rf x.2.1 l0), (1, .int l1), (2, .int l2), (3, .int l3), (4, .int l4)] [] M := by
  unfold fX6_set
  refine r_aload_n X dX6_set_0 rfl 0 rfl ?_
  refine r_getR X fl_X6_51 (by decide) h_l0 dX6_set_1 (fun v1 h_v1 => ?_)
  refine r_bipush (v := 39) X dX6_set_4 (by decide) ?_
  refine r_iload_n X dX6_set_6 rfl 1 rfl ?_
  refine r_imul X dX6_set_7 ?_
  refine r_iload_n X dX6_set_8 rfl 2 rfl ?_
  refine r_iadd X dX6_set_9 ?_
  refine r_iload_n X dX6_set_10 rfl 3 rfl ?_
  refine r_iadd X dX6_set_11 ?_
  refine r_iload X dX6_set_12 4 rfl ?_
  refine r_iast X h_v1 dX6_set_14 (fun M2 => ?_)
  exact r_vret Hr dX6_set_15
set_option maxRecDepth 100000 in
set_option maxHeartbeats 4000000 in
theorem okX6_set (l : Launch) (g : GX) (hJ : IJ g) {l0 : Nat} {l1 : Int32} {l2 : Int32} {l3 : Int32} {l4 : Int32} {M : Mm} (h_l0 : sh l0 = 16) : CT l g yX6_set cX6_set 5 none 0 [rf g l0, .int l1, .int l2, .int l3, .int l4] M (fX6_set l0 l1 l2 l3 l4 M) (fun _ => none) := by
  refine ct_V rfl hJ (Nat.le_of_ble_eq_true rfl) (fun x r hg hL hl X hf Hr => ?_)
  subst hg
  exact fun _ ls H locs hl hP hS => sX6_set_0 X hL Hr h_l0 ⟨_, hf, rfl⟩ ls H locs hl hP hS
/-! CrumbWoodModel.v(III)I -/
set_option maxRecDepth 100000 in
noncomputable def fX6_v (l0 : Nat) (l1 : Int32) (l2 : Int32) (l3 : Int32) (M : Mm) : Option (Int32 × Mm) := gfR M 0 l0 24 fun v1 => ldI M v1 ((((39 : Int32) * l1) + l2) + l3) fun v2 => some ((v2, M))
set_option maxRecDepth 100000 in
set_option maxHeartbeats 4000000 in
theorem sX6_v_0 {x : SB} {F : (Int32 × Mm) → Prop} (X : CX x cX6_v RX6 0) (hL : x.2.2.2.1 = 4) (Hr : RTI x cX6_v .int F (fun q => q)) {l0 : Nat} {l1 : Int32} {l2 : Int32} {l3 : Int32} {M : Mm} (h_l0 : sh l0 = 16) : SIM x F (fX6_v l0 l1 l2 l3 M) 0 [(0, rf x.2.1 l0), (1, .int l1), (2, .int l2), (3, .int l3)] [] M := by
  unfold fX6_v
  refine r_aload_n X dX6_v_0 rfl 0 rfl ?_
  refine r_getR X fl_X6_51 (by decide) h_l0 dX6_v_1 (fun v1 h_v1 => ?_)
  refine r_bipush (v := 39) X dX6_v_4 (by decide) ?_
  refine r_iload_n X dX6_v_6 rfl 1 rfl ?_
  refine r_imul X dX6_v_7 ?_
  refine r_iload_n X dX6_v_8 rfl 2 rfl ?_
  refine r_iadd X dX6_v_9 ?_
  refine r_iload_n X dX6_v_10 rfl 3 rfl ?_
  refine r_iadd X dX6_v_11 ?_
  refine r_iald X h_v1 dX6_v_12 (fun v2 => ?_)
  exact r_iret Hr rfl dX6_v_13
set_option maxRecDepth 100000 in
set_option maxHeartbeats 4000000 in
theorem okX6_v (l : Launch) (g : GX) (hJ : IJ g) {l0 : Nat} {l1 : Int32} {l2 : Int32} {l3 : Int32} {M : Mm} (h_l0 : sh l0 = 16) : CT l g yX6_v cX6_v 4 (some .int) 0 [rf g l0, .int l1, .int l2, .int l3] M (fX6_v l0 l1 l2 l3 M) (fun r => some (.int r)) := by
  refine ct_I rfl hJ (Nat.le_of_ble_eq_true rfl) (fun x r hg hL hl X hf Hr => ?_)
  subst hg
  exact fun _ ls H locs hl hP hS => sX6_v_0 X hL Hr h_l0 ⟨_, hf, rfl⟩ ls H locs hl hP hS
/-! CrumbWoodModel.copyTo(II)V -/
set_option maxRecDepth 100000 in
def pX6_copyTo (x : SB) (q : Nat × Nat × Int32 × Int32 × Int32 × Mm) : Prop := match q.1 with
  | 1 => sh q.2.1 = 16 → ∀ (ls : Array Slot) (H : Heap) (locs : List Loc), lv_has ls x.2.2.2.1 [(0, rf x.2.1 q.2.1), (1, .int q.2.2.1), (2, .int q.2.2.2.1), (3, .int q.2.2.2.2.1)] → PW x.2.1 (q.2.2.2.2.2) H → SH x H locs → SW x H locs 2 ls []
  | _ => True
set_option maxRecDepth 100000 in
noncomputable def bX6_copyTo_2 (l0 : Nat) (l1 : Int32) (l2 : Int32) (l3 : Int32) (M : Mm) : Option ((Nat × Nat × Int32 × Int32 × Int32 × Mm) ⊕ Unit × Mm) := if 39 ≤ l3 then some (.inr ((), M)) else cal (fX6_v l0 l1 l3 0 M) fun v2 M1 => cal (fX6_set l0 l2 l3 0 v2 M1) fun _ M3 => some (.inl (1, l0, l1, l2, (l3 + 1), M3))
set_option maxRecDepth 100000 in
set_option maxHeartbeats 4000000 in
theorem sX6_copyTo_2 {x : SB} {F : ((Nat × Nat × Int32 × Int32 × Int32 × Mm) ⊕ Unit × Mm) → Prop} (X : CX x cX6_copyTo RX6 1) (hL : x.2.2.2.1 = 4) (Hr : RTV x cX6_copyTo F Sum.inr) (HH : ∀ q, F (.inl q) → pX6_copyTo x q) {l0 : Nat} {l1 : Int32} {l2 : Int32} {l3 : Int32} {M : Mm} (h_l0 : sh l0 = 16) : SIM x F (bX6_copyTo_2 l0 l1 l2 l3 M) 2 [(0, rf x.2.1 l0), (1, .int l1), (2, .int l2), (3, .int l3)] [] M := by
  unfold bX6_copyTo_2
  refine r_iload_n X dX6_copyTo_2 rfl 3 rfl ?_
  refine r_bipush (v := 39) X dX6_copyTo_3 (by decide) ?_
  refine r_icmp_ge 28 X dX6_copyTo_5 (by decide) ?_ ?_
  · exact r_vret Hr dX6_copyTo_28
  · refine r_aload_n X dX6_copyTo_8 rfl 0 rfl ?_
    refine r_iload_n X dX6_copyTo_9 rfl 2 rfl ?_
    refine r_iload_n X dX6_copyTo_10 rfl 3 rfl ?_
    refine r_iconst (v := 0) X dX6_copyTo_11 (by decide) ?_
    refine r_aload_n X dX6_copyTo_12 rfl 0 rfl ?_
    refine r_iload_n X dX6_copyTo_13 rfl 1 rfl ?_
    refine r_iload_n X dX6_copyTo_14 rfl 3 rfl ?_
    refine r_iconst (v := 0) X dX6_copyTo_15 (by decide) ?_
    refine r_callVI [.int l1, .int l3, .int 0] X mt_X6_180 (by decide) h_l0 (by decide) (okX6_v _ _ X.J h_l0) rfl (Nat.le_of_ble_eq_true rfl) dX6_copyTo_16 rfl (fun v2 M1 => ?_)
    refine r_callVV [.int l2, .int l3, .int 0, .int v2] X mt_X6_173 (by decide) h_l0 (by decide) (okX6_set _ _ X.J h_l0) rfl (Nat.le_of_ble_eq_true rfl) dX6_copyTo_19 rfl (fun _ M3 => ?_)
    refine r_iinc [(3, .int (l3 + 1)), (0, rf x.2.1 l0), (1, .int l1), (2, .int l2)] X dX6_copyTo_22 3 rfl rfl (nlt hL (by decide)) rfl ?_
    refine r_goto 2 X dX6_copyTo_25 (by decide) ?_
    exact r_hdr [(0, rf x.2.1 l0), (1, .int l1), (2, .int l2), (3, .int (l3 + 1))] [1, 2, 3, 0] rfl (fun h => HH _ h h_l0)
set_option maxRecDepth 100000 in
noncomputable def bX6_copyTo_0 (l0 : Nat) (l1 : Int32) (l2 : Int32) (M : Mm) : Option ((Nat × Nat × Int32 × Int32 × Int32 × Mm) ⊕ Unit × Mm) := some (.inl (1, l0, l1, l2, 0, M))
set_option maxRecDepth 100000 in
set_option maxHeartbeats 4000000 in
theorem sX6_copyTo_0 {x : SB} {F : ((Nat × Nat × Int32 × Int32 × Int32 × Mm) ⊕ Unit × Mm) → Prop} (X : CX x cX6_copyTo RX6 1) (hL : x.2.2.2.1 = 4) (Hr : RTV x cX6_copyTo F Sum.inr) (HH : ∀ q, F (.inl q) → pX6_copyTo x q) {l0 : Nat} {l1 : Int32} {l2 : Int32} {M : Mm} (h_l0 : sh l0 = 16) : SIM x F (bX6_copyTo_0 l0 l1 l2 M) 0 [(0, rf x.2.1 l0), (1, .int l1), (2, .int l2)] [] M := by
  unfold bX6_copyTo_0
  refine r_iconst (v := 0) X dX6_copyTo_0 (by decide) ?_
  refine r_istore_n [(3, .int 0), (0, rf x.2.1 l0), (1, .int l1), (2, .int l2)] X dX6_copyTo_1 rfl (nlt hL (by decide)) rfl ?_
  exact r_hdr [(0, rf x.2.1 l0), (1, .int l1), (2, .int l2), (3, .int 0)] [1, 2, 3, 0] rfl (fun h => HH _ h h_l0)
set_option maxRecDepth 100000 in
noncomputable def gX6_copyTo (q : Nat × Nat × Int32 × Int32 × Int32 × Mm) : Option ((Nat × Nat × Int32 × Int32 × Int32 × Mm) ⊕ Unit × Mm) := match q.1 with
  | 1 => bX6_copyTo_2 (q.2.1) (q.2.2.1) (q.2.2.2.1) (q.2.2.2.2.1) (q.2.2.2.2.2)
  | _ => none
set_option maxRecDepth 100000 in
noncomputable def fX6_copyTo (l0 : Nat) (l1 : Int32) (l2 : Int32) (M : Mm) : Option (Unit × Mm) := fen gX6_copyTo (bX6_copyTo_0 l0 l1 l2 M)
set_option maxRecDepth 100000 in
set_option maxHeartbeats 4000000 in
theorem okX6_copyTo (l : Launch) (g : GX) (hJ : IJ g) {l0 : Nat} {l1 : Int32} {l2 : Int32} {M : Mm} (h_l0 : sh l0 = 16) : CT l g yX6_copyTo cX6_copyTo 4 none 1 [rf g l0, .int l1, .int l2] M (fX6_copyTo l0 l1 l2 M) (fun _ => none) := by
  refine ct_V rfl hJ (Nat.le_of_ble_eq_true rfl) (fun x r hg hL hl X hf Hr => ?_)
  subst hg
  have Hr2 : RTV x cX6_copyTo (Sum.elim (pX6_copyTo x) (fun q => q = r)) Sum.inr := fun M h => Hr M h
  have HP : ∀ q, fnl gX6_copyTo q = some r → pX6_copyTo x q := by
    intro q hq
    refine fnl_ind (pX6_copyTo x) (fun q hq => ?_) hq
    obtain ⟨n, l0, l1, l2, l3, M⟩ := q
    match n, hq with
    | 1, hq => exact fun h_l0 ls H locs hl hP hS => sX6_copyTo_2 X hL Hr2 (fun _ h => h) h_l0 hq ls H locs hl hP hS
    | 0, hq => exact trivial
    | n + 2, hq => exact trivial
  exact fun _ ls H locs hl hP hS => sX6_copyTo_0 X hL Hr2 (fun _ h => h) h_l0 (fen_w hf HP) ls H locs hl hP hS
/-! CrumbWoodModel.marks(III)I -/
set_option maxRecDepth 100000 in
noncomputable def fX6_marks (l0 : Nat) (l1 : Int32) (l2 : Int32) (l3 : Int32) (M : Mm) : Option (Int32 × Mm) := cal (fX6_v l0 l1 ((8 : Int32) * l2) l3 M) fun v2 M1 => some ((v2, M1))
set_option maxRecDepth 100000 in
set_option maxHeartbeats 4000000 in
theorem sX6_marks_0 {x : SB} {F : (Int32 × Mm) → Prop} (X : CX x cX6_marks RX6 1) (hL : x.2.2.2.1 = 4) (Hr : RTI x cX6_marks .int F (fun q => q)) {l0 : Nat} {l1 : Int32} {l2 : Int32} {l3 : Int32} {M : Mm} (h_l0 : sh l0 = 16) : SIM x F (fX6_marks l0 l1 l2 l3 M) 0 [(0, rf x.2.1 l0), (1, .int l1), (2, .int l2), (3, .int l3)] [] M := by
  unfold fX6_marks
  refine r_aload_n X dX6_marks_0 rfl 0 rfl ?_
  refine r_iload_n X dX6_marks_1 rfl 1 rfl ?_
  refine r_bipush (v := 8) X dX6_marks_2 (by decide) ?_
  refine r_iload_n X dX6_marks_4 rfl 2 rfl ?_
  refine r_imul X dX6_marks_5 ?_
  refine r_iload_n X dX6_marks_6 rfl 3 rfl ?_
  refine r_callVI [.int l1, .int ((8 : Int32) * l2), .int l3] X mt_X6_180 (by decide) h_l0 (by decide) (okX6_v _ _ X.J h_l0) rfl (Nat.le_of_ble_eq_true rfl) dX6_marks_7 rfl (fun v2 M1 => ?_)
  exact r_iret Hr rfl dX6_marks_10
set_option maxRecDepth 100000 in
set_option maxHeartbeats 4000000 in
theorem okX6_marks (l : Launch) (g : GX) (hJ : IJ g) {l0 : Nat} {l1 : Int32} {l2 : Int32} {l3 : Int32} {M : Mm} (h_l0 : sh l0 = 16) : CT l g yX6_marks cX6_marks 4 (some .int) 1 [rf g l0, .int l1, .int l2, .int l3] M (fX6_marks l0 l1 l2 l3 M) (fun r => some (.int r)) := by
  refine ct_I rfl hJ (Nat.le_of_ble_eq_true rfl) (fun x r hg hL hl X hf Hr => ?_)
  subst hg
  exact fun _ ls H locs hl hP hS => sX6_marks_0 X hL Hr h_l0 ⟨_, hf, rfl⟩ ls H locs hl hP hS
/-! CrumbWoodModel.setMarks(IIII)V -/
set_option maxRecDepth 100000 in
noncomputable def fX6_setMarks (l0 : Nat) (l1 : Int32) (l2 : Int32) (l3 : Int32) (l4 : Int32) (M : Mm) : Option (Unit × Mm) := cal (fX6_set l0 l1 ((8 : Int32) * l2) l3 l4 M) fun _ M1 => some (((), M1))
set_option maxRecDepth 100000 in
set_option maxHeartbeats 4000000 in
theorem sX6_setMarks_0 {x : SB} {F : (Unit × Mm) → Prop} (X : CX x cX6_setMarks RX6 1) (hL : x.2.2.2.1 = 5) (Hr : RTV x cX6_setMarks F (fun q => q)) {l0 : Nat} {l1 : Int32} {l2 : Int32} {l3 : Int32} {l4 : Int32} {M : Mm} (h_l0 : sh l0 = 16) : SIM x F (fX6_setMarks l0 l1 l2 l3 l4 M) 0 [(0, rf x.2.1 l0), (1, .int l1), (2, .int l2), (3, .int l3), (4, .int l4)] [] M := by
  unfold fX6_setMarks
  refine r_aload_n X dX6_setMarks_0 rfl 0 rfl ?_
  refine r_iload_n X dX6_setMarks_1 rfl 1 rfl ?_
  refine r_bipush (v := 8) X dX6_setMarks_2 (by decide) ?_
  refine r_iload_n X dX6_setMarks_4 rfl 2 rfl ?_
  refine r_imul X dX6_setMarks_5 ?_
  refine r_iload_n X dX6_setMarks_6 rfl 3 rfl ?_
  refine r_iload X dX6_setMarks_7 4 rfl ?_
  refine r_callVV [.int l1, .int ((8 : Int32) * l2), .int l3, .int l4] X mt_X6_173 (by decide) h_l0 (by decide) (okX6_set _ _ X.J h_l0) rfl (Nat.le_of_ble_eq_true rfl) dX6_setMarks_9 rfl (fun _ M1 => ?_)
  exact r_vret Hr dX6_setMarks_12
set_option maxRecDepth 100000 in
set_option maxHeartbeats 4000000 in
theorem okX6_setMarks (l : Launch) (g : GX) (hJ : IJ g) {l0 : Nat} {l1 : Int32} {l2 : Int32} {l3 : Int32} {l4 : Int32} {M : Mm} (h_l0 : sh l0 = 16) : CT l g yX6_setMarks cX6_setMarks 5 none 1 [rf g l0, .int l1, .int l2, .int l3, .int l4] M (fX6_setMarks l0 l1 l2 l3 l4 M) (fun _ => none) := by
  refine ct_V rfl hJ (Nat.le_of_ble_eq_true rfl) (fun x r hg hL hl X hf Hr => ?_)
  subst hg
  exact fun _ ls H locs hl hP hS => sX6_setMarks_0 X hL Hr h_l0 ⟨_, hf, rfl⟩ ls H locs hl hP hS
/-! CrumbWoodModel.drops(III)V -/
set_option maxRecDepth 100000 in
noncomputable def bX6_drops_35 (l0 : Nat) (l1 : Int32) (l2 : Int32) (l3 : Int32) (M : Mm) : Option (Unit × Mm) := cal (fX6_marks l0 l1 l2 l3 M) fun v2 M1 => cal (fX6_setMarks l0 l1 l2 l3 (v2 + 1) M1) fun _ M3 => some (((), M3))
set_option maxRecDepth 100000 in
set_option maxHeartbeats 4000000 in
theorem sX6_drops_35 {x : SB} {F : (Unit × Mm) → Prop} (X : CX x cX6_drops RX6 2) (hL : x.2.2.2.1 = 4) (Hr : RTV x cX6_drops F (fun q => q)) {l0 : Nat} {l1 : Int32} {l2 : Int32} {l3 : Int32} {M : Mm} (h_l0 : sh l0 = 16) : SIM x F (bX6_drops_35 l0 l1 l2 l3 M) 35 [(0, rf x.2.1 l0), (1, .int l1), (2, .int l2), (3, .int l3)] [] M := by
  unfold bX6_drops_35
  refine r_aload_n X dX6_drops_35 rfl 0 rfl ?_
  refine r_iload_n X dX6_drops_36 rfl 1 rfl ?_
  refine r_iload_n X dX6_drops_37 rfl 2 rfl ?_
  refine r_iload_n X dX6_drops_38 rfl 3 rfl ?_
  refine r_aload_n X dX6_drops_39 rfl 0 rfl ?_
  refine r_iload_n X dX6_drops_40 rfl 1 rfl ?_
  refine r_iload_n X dX6_drops_41 rfl 2 rfl ?_
  refine r_iload_n X dX6_drops_42 rfl 3 rfl ?_
  refine r_callVI [.int l1, .int l2, .int l3] X mt_X6_184 (by decide) h_l0 (by decide) (okX6_marks _ _ X.J h_l0) rfl (Nat.le_of_ble_eq_true rfl) dX6_drops_43 rfl (fun v2 M1 => ?_)
  refine r_iconst (v := 1) X dX6_drops_46 (by decide) ?_
  refine r_iadd X dX6_drops_47 ?_
  refine r_callVV [.int l1, .int l2, .int l3, .int (v2 + 1)] X mt_X6_187 (by decide) h_l0 (by decide) (okX6_setMarks _ _ X.J h_l0) rfl (Nat.le_of_ble_eq_true rfl) dX6_drops_48 rfl (fun _ M3 => ?_)
  exact r_vret Hr dX6_drops_51
set_option maxRecDepth 100000 in
noncomputable def fX6_drops (l0 : Nat) (l1 : Int32) (l2 : Int32) (l3 : Int32) (M : Mm) : Option (Unit × Mm) := if l2 = 0 then gfR M 0 l0 12 fun v4 => ldI M v4 l3 fun v5 => if v5 = 3 then cal (fX6_v l0 l1 24 l3 M) fun v7 M6 => cal (fX6_set l0 l1 24 l3 (v7 + 1) M6) fun _ M8 => some (((), M8)) else bX6_drops_35 l0 l1 l2 l3 M else bX6_drops_35 l0 l1 l2 l3 M
set_option maxRecDepth 100000 in
set_option maxHeartbeats 4000000 in
theorem sX6_drops_0 {x : SB} {F : (Unit × Mm) → Prop} (X : CX x cX6_drops RX6 2) (hL : x.2.2.2.1 = 4) (Hr : RTV x cX6_drops F (fun q => q)) {l0 : Nat} {l1 : Int32} {l2 : Int32} {l3 : Int32} {M : Mm} (h_l0 : sh l0 = 16) : SIM x F (fX6_drops l0 l1 l2 l3 M) 0 [(0, rf x.2.1 l0), (1, .int l1), (2, .int l2), (3, .int l3)] [] M := by
  unfold fX6_drops
  refine r_iload_n X dX6_drops_0 rfl 2 rfl ?_
  refine r_if_ne 35 X dX6_drops_1 (by decide) ?_ ?_
  · refine r_aload_n X dX6_drops_4 rfl 0 rfl ?_
    refine r_getR X fl_X6_33 (by decide) h_l0 dX6_drops_5 (fun v4 h_v4 => ?_)
    refine r_iload_n X dX6_drops_8 rfl 3 rfl ?_
    refine r_iald X h_v4 dX6_drops_9 (fun v5 => ?_)
    refine r_iconst (v := 3) X dX6_drops_10 (by decide) ?_
    refine r_icmp_ne 35 X dX6_drops_11 (by decide) ?_ ?_
    · refine r_aload_n X dX6_drops_14 rfl 0 rfl ?_
      refine r_iload_n X dX6_drops_15 rfl 1 rfl ?_
      refine r_bipush (v := 24) X dX6_drops_16 (by decide) ?_
      refine r_iload_n X dX6_drops_18 rfl 3 rfl ?_
      refine r_aload_n X dX6_drops_19 rfl 0 rfl ?_
      refine r_iload_n X dX6_drops_20 rfl 1 rfl ?_
      refine r_bipush (v := 24) X dX6_drops_21 (by decide) ?_
      refine r_iload_n X dX6_drops_23 rfl 3 rfl ?_
      refine r_callVI [.int l1, .int 24, .int l3] X mt_X6_180 (by decide) h_l0 (by decide) (okX6_v _ _ X.J h_l0) rfl (Nat.le_of_ble_eq_true rfl) dX6_drops_24 rfl (fun v7 M6 => ?_)
      refine r_iconst (v := 1) X dX6_drops_27 (by decide) ?_
      refine r_iadd X dX6_drops_28 ?_
      refine r_callVV [.int l1, .int 24, .int l3, .int (v7 + 1)] X mt_X6_173 (by decide) h_l0 (by decide) (okX6_set _ _ X.J h_l0) rfl (Nat.le_of_ble_eq_true rfl) dX6_drops_29 rfl (fun _ M8 => ?_)
      refine r_goto 51 X dX6_drops_32 (by decide) ?_
      exact r_vret Hr dX6_drops_51
    · exact r_to [(0, rf x.2.1 l0), (1, .int l1), (2, .int l2), (3, .int l3)] [0, 1, 2, 3] rfl (sX6_drops_35 X hL Hr h_l0)
  · exact r_to [(0, rf x.2.1 l0), (1, .int l1), (2, .int l2), (3, .int l3)] [0, 1, 2, 3] rfl (sX6_drops_35 X hL Hr h_l0)
set_option maxRecDepth 100000 in
set_option maxHeartbeats 4000000 in
theorem okX6_drops (l : Launch) (g : GX) (hJ : IJ g) {l0 : Nat} {l1 : Int32} {l2 : Int32} {l3 : Int32} {M : Mm} (h_l0 : sh l0 = 16) : CT l g yX6_drops cX6_drops 4 none 2 [rf g l0, .int l1, .int l2, .int l3] M (fX6_drops l0 l1 l2 l3 M) (fun _ => none) := by
  refine ct_V rfl hJ (Nat.le_of_ble_eq_true rfl) (fun x r hg hL hl X hf Hr => ?_)
  subst hg
  exact fun _ ls H locs hl hP hS => sX6_drops_0 X hL Hr h_l0 ⟨_, hf, rfl⟩ ls H locs hl hP hS
/-! CrumbWoodModel.has(II)Z -/
set_option maxRecDepth 100000 in
noncomputable def fX6_has (l0 : Int32) (l1 : Int32) (M : Mm) : Option (Int32 × Mm) := if ((l0 >>> (l1 &&& 31)) &&& 1) = 1 then some ((1, M)) else some ((0, M))
set_option maxRecDepth 100000 in
set_option maxHeartbeats 4000000 in
theorem sX6_has_0 {x : SB} {F : (Int32 × Mm) → Prop} (X : CX x cX6_has RX6 0) (hL : x.2.2.2.1 = 2) (Hr : RTI x cX6_has .boolean F (fun q => q)) {l0 : Int32} {l1 : Int32} {M : Mm}  : SIM x F (fX6_has l0 l1 M) 0 [(0, .int l0), (1, .int l1)] [] M := by
  unfold fX6_has
  refine r_iload_n X dX6_has_0 rfl 0 rfl ?_
  refine r_iload_n X dX6_has_1 rfl 1 rfl ?_
  refine r_ishr X dX6_has_2 ?_
  refine r_iconst (v := 1) X dX6_has_3 (by decide) ?_
  refine r_iand X dX6_has_4 ?_
  refine r_iconst (v := 1) X dX6_has_5 (by decide) ?_
  refine r_icmp_ne 13 X dX6_has_6 (by decide) ?_ ?_
  · refine r_iconst (v := 1) X dX6_has_9 (by decide) ?_
    refine r_goto 14 X dX6_has_10 (by decide) ?_
    exact r_iret Hr rfl dX6_has_14
  · refine r_iconst (v := 0) X dX6_has_13 (by decide) ?_
    exact r_iret Hr rfl dX6_has_14
set_option maxRecDepth 100000 in
set_option maxHeartbeats 4000000 in
theorem okX6_has (l : Launch) (g : GX) (hJ : IJ g) {l0 : Int32} {l1 : Int32} {M : Mm}  : CT l g yX6_has cX6_has 2 (some .boolean) 0 [.int l0, .int l1] M (fX6_has l0 l1 M) (fun r => some (.int r)) := by
  refine ct_I rfl hJ (Nat.le_of_ble_eq_true rfl) (fun x r hg hL hl X hf Hr => ?_)
  subst hg
  exact fun _ ls H locs hl hP hS => sX6_has_0 X hL Hr ⟨_, hf, rfl⟩ ls H locs hl hP hS
/-! CrumbWoodModel.seen(II)I -/
set_option maxRecDepth 100000 in
noncomputable def bX6_seen_84 (l3 : Int32) (M : Mm) : Option (Int32 × Mm) := some ((l3, M))
set_option maxRecDepth 100000 in
set_option maxHeartbeats 4000000 in
theorem sX6_seen_84 {x : SB} {F : (Int32 × Mm) → Prop} (X : CX x cX6_seen RX6 2) (hL : x.2.2.2.1 = 4) (Hr : RTI x cX6_seen .int F (fun q => q)) {l3 : Int32} {M : Mm}  : SIM x F (bX6_seen_84 l3 M) 84 [(3, .int l3)] [] M := by
  unfold bX6_seen_84
  refine r_iload_n X dX6_seen_84 rfl 0 rfl ?_
  exact r_iret Hr rfl dX6_seen_85
set_option maxRecDepth 100000 in
noncomputable def bX6_seen_82 (s0 : Int32) (s1 : Int32) (M : Mm) : Option (Int32 × Mm) := ltI (s1 ||| s0) fun v1 => bX6_seen_84 v1 M
set_option maxRecDepth 100000 in
set_option maxHeartbeats 4000000 in
theorem sX6_seen_82 {x : SB} {F : (Int32 × Mm) → Prop} (X : CX x cX6_seen RX6 2) (hL : x.2.2.2.1 = 4) (Hr : RTI x cX6_seen .int F (fun q => q)) {s0 : Int32} {s1 : Int32} {M : Mm}  : SIM x F (bX6_seen_82 s0 s1 M) 82 [] [.int s0, .int s1] M := by
  unfold bX6_seen_82
  refine r_ior X dX6_seen_82 ?_
  refine r_letI (fun v1 => ?_)
  refine r_istore_n [(3, .int v1)] X dX6_seen_83 rfl (nlt hL (by decide)) rfl ?_
  exact r_to [(3, .int v1)] [0] rfl (sX6_seen_84 X hL Hr)
set_option maxRecDepth 100000 in
noncomputable def bX6_seen_77 (s0 : Int32) (M : Mm) : Option (Int32 × Mm) := bX6_seen_82 4 s0 M
set_option maxRecDepth 100000 in
set_option maxHeartbeats 4000000 in
theorem sX6_seen_77 {x : SB} {F : (Int32 × Mm) → Prop} (X : CX x cX6_seen RX6 2) (hL : x.2.2.2.1 = 4) (Hr : RTI x cX6_seen .int F (fun q => q)) {s0 : Int32} {M : Mm}  : SIM x F (bX6_seen_77 s0 M) 77 [] [.int s0] M := by
  unfold bX6_seen_77
  refine r_iconst (v := 4) X dX6_seen_77 (by decide) ?_
  refine r_goto 82 X dX6_seen_78 (by decide) ?_
  exact r_to [] [] rfl (sX6_seen_82 X hL Hr)
set_option maxRecDepth 100000 in
noncomputable def bX6_seen_54 (l0 : Nat) (l1 : Int32) (l2 : Int32) (s0 : Int32) (s1 : Int32) (M : Mm) : Option (Int32 × Mm) := ltI (s1 ||| s0) fun v2 => cal (fX6_marks l0 l1 2 l2 M) fun v4 M3 => if 0 < v4 then bX6_seen_77 v2 M3 else gfR M3 0 l0 12 fun v5 => ldI M3 v5 l2 fun v6 => if v6 = 4 then bX6_seen_77 v2 M3 else bX6_seen_82 0 v2 M3
set_option maxRecDepth 100000 in
set_option maxHeartbeats 4000000 in
theorem sX6_seen_54 {x : SB} {F : (Int32 × Mm) → Prop} (X : CX x cX6_seen RX6 2) (hL : x.2.2.2.1 = 4) (Hr : RTI x cX6_seen .int F (fun q => q)) {l0 : Nat} {l1 : Int32} {l2 : Int32} {s0 : Int32} {s1 : Int32} {M : Mm} (h_l0 : sh l0 = 16) : SIM x F (bX6_seen_54 l0 l1 l2 s0 s1 M) 54 [(0, rf x.2.1 l0), (1, .int l1), (2, .int l2)] [.int s0, .int s1] M := by
  unfold bX6_seen_54
  refine r_ior X dX6_seen_54 ?_
  refine r_letI (fun v2 => ?_)
  refine r_istore_n [(3, .int v2), (0, rf x.2.1 l0), (1, .int l1), (2, .int l2)] X dX6_seen_55 rfl (nlt hL (by decide)) rfl ?_
  refine r_iload_n X dX6_seen_56 rfl 0 rfl ?_
  refine r_aload_n X dX6_seen_57 rfl 1 rfl ?_
  refine r_iload_n X dX6_seen_58 rfl 2 rfl ?_
  refine r_iconst (v := 2) X dX6_seen_59 (by decide) ?_
  refine r_iload_n X dX6_seen_60 rfl 3 rfl ?_
  refine r_callVI [.int l1, .int 2, .int l2] X mt_X6_184 (by decide) h_l0 (by decide) (okX6_marks _ _ X.J h_l0) rfl (Nat.le_of_ble_eq_true rfl) dX6_seen_61 rfl (fun v4 M3 => ?_)
  refine r_if_gt 77 X dX6_seen_64 (by decide) ?_ ?_
  · exact r_to [] [] rfl (sX6_seen_77 X hL Hr)
  · refine r_aload_n X dX6_seen_67 rfl 1 rfl ?_
    refine r_getR X fl_X6_33 (by decide) h_l0 dX6_seen_68 (fun v5 h_v5 => ?_)
    refine r_iload_n X dX6_seen_71 rfl 3 rfl ?_
    refine r_iald X h_v5 dX6_seen_72 (fun v6 => ?_)
    refine r_iconst (v := 4) X dX6_seen_73 (by decide) ?_
    refine r_icmp_ne 81 X dX6_seen_74 (by decide) ?_ ?_
    · exact r_to [] [] rfl (sX6_seen_77 X hL Hr)
    · refine r_iconst (v := 0) X dX6_seen_81 (by decide) ?_
      exact r_to [] [] rfl (sX6_seen_82 X hL Hr)
set_option maxRecDepth 100000 in
noncomputable def bX6_seen_27 (l0 : Nat) (l1 : Int32) (l2 : Int32) (s0 : Int32) (M : Mm) : Option (Int32 × Mm) := gfR M 0 l0 12 fun v7 => ldI M v7 l2 fun v8 => if v8 = 2 then bX6_seen_84 s0 M else cal (fX6_marks l0 l1 0 l2 M) fun v10 M9 => if v10 ≤ 0 then bX6_seen_54 l0 l1 l2 0 s0 M9 else bX6_seen_54 l0 l1 l2 1 s0 M9
set_option maxRecDepth 100000 in
set_option maxHeartbeats 4000000 in
theorem sX6_seen_27 {x : SB} {F : (Int32 × Mm) → Prop} (X : CX x cX6_seen RX6 2) (hL : x.2.2.2.1 = 4) (Hr : RTI x cX6_seen .int F (fun q => q)) {l0 : Nat} {l1 : Int32} {l2 : Int32} {s0 : Int32} {M : Mm} (h_l0 : sh l0 = 16) : SIM x F (bX6_seen_27 l0 l1 l2 s0 M) 27 [(0, rf x.2.1 l0), (1, .int l1), (2, .int l2)] [.int s0] M := by
  unfold bX6_seen_27
  refine r_istore_n [(3, .int s0), (0, rf x.2.1 l0), (1, .int l1), (2, .int l2)] X dX6_seen_27 rfl (nlt hL (by decide)) rfl ?_
  refine r_aload_n X dX6_seen_28 rfl 1 rfl ?_
  refine r_getR X fl_X6_33 (by decide) h_l0 dX6_seen_29 (fun v7 h_v7 => ?_)
  refine r_iload_n X dX6_seen_32 rfl 3 rfl ?_
  refine r_iald X h_v7 dX6_seen_33 (fun v8 => ?_)
  refine r_iconst (v := 2) X dX6_seen_34 (by decide) ?_
  refine r_icmp_eq 84 X dX6_seen_35 (by decide) ?_ ?_
  · exact r_to [(3, .int s0)] [0] rfl (sX6_seen_84 X hL Hr)
  · refine r_iload_n X dX6_seen_38 rfl 0 rfl ?_
    refine r_aload_n X dX6_seen_39 rfl 1 rfl ?_
    refine r_iload_n X dX6_seen_40 rfl 2 rfl ?_
    refine r_iconst (v := 0) X dX6_seen_41 (by decide) ?_
    refine r_iload_n X dX6_seen_42 rfl 3 rfl ?_
    refine r_callVI [.int l1, .int 0, .int l2] X mt_X6_184 (by decide) h_l0 (by decide) (okX6_marks _ _ X.J h_l0) rfl (Nat.le_of_ble_eq_true rfl) dX6_seen_43 rfl (fun v10 M9 => ?_)
    refine r_if_le 53 X dX6_seen_46 (by decide) ?_ ?_
    · refine r_iconst (v := 0) X dX6_seen_53 (by decide) ?_
      exact r_to [(0, rf x.2.1 l0), (1, .int l1), (2, .int l2)] [1, 2, 3] rfl (sX6_seen_54 X hL Hr h_l0)
    · refine r_iconst (v := 1) X dX6_seen_49 (by decide) ?_
      refine r_goto 54 X dX6_seen_50 (by decide) ?_
      exact r_to [(0, rf x.2.1 l0), (1, .int l1), (2, .int l2)] [1, 2, 3] rfl (sX6_seen_54 X hL Hr h_l0)
set_option maxRecDepth 100000 in
noncomputable def fX6_seen (l0 : Nat) (l1 : Int32) (l2 : Int32) (M : Mm) : Option (Int32 × Mm) := gfR M 0 l0 12 fun v11 => ldI M v11 l2 fun v12 => if v12 = 5 then some ((0, M)) else cal (fX6_marks l0 l1 1 l2 M) fun v14 M13 => if v14 ≤ 0 then bX6_seen_27 l0 l1 l2 0 M13 else bX6_seen_27 l0 l1 l2 2 M13
set_option maxRecDepth 100000 in
set_option maxHeartbeats 4000000 in
theorem sX6_seen_0 {x : SB} {F : (Int32 × Mm) → Prop} (X : CX x cX6_seen RX6 2) (hL : x.2.2.2.1 = 4) (Hr : RTI x cX6_seen .int F (fun q => q)) {l0 : Nat} {l1 : Int32} {l2 : Int32} {M : Mm} (h_l0 : sh l0 = 16) : SIM x F (fX6_seen l0 l1 l2 M) 0 [(0, rf x.2.1 l0), (1, .int l1), (2, .int l2)] [] M := by
  unfold fX6_seen
  refine r_aload_n X dX6_seen_0 rfl 0 rfl ?_
  refine r_getR X fl_X6_33 (by decide) h_l0 dX6_seen_1 (fun v11 h_v11 => ?_)
  refine r_iload_n X dX6_seen_4 rfl 2 rfl ?_
  refine r_iald X h_v11 dX6_seen_5 (fun v12 => ?_)
  refine r_iconst (v := 5) X dX6_seen_6 (by decide) ?_
  refine r_icmp_ne 12 X dX6_seen_7 (by decide) ?_ ?_
  · refine r_iconst (v := 0) X dX6_seen_10 (by decide) ?_
    exact r_iret Hr rfl dX6_seen_11
  · refine r_aload_n X dX6_seen_12 rfl 0 rfl ?_
    refine r_iload_n X dX6_seen_13 rfl 1 rfl ?_
    refine r_iconst (v := 1) X dX6_seen_14 (by decide) ?_
    refine r_iload_n X dX6_seen_15 rfl 2 rfl ?_
    refine r_callVI [.int l1, .int 1, .int l2] X mt_X6_184 (by decide) h_l0 (by decide) (okX6_marks _ _ X.J h_l0) rfl (Nat.le_of_ble_eq_true rfl) dX6_seen_16 rfl (fun v14 M13 => ?_)
    refine r_if_le 26 X dX6_seen_19 (by decide) ?_ ?_
    · refine r_iconst (v := 0) X dX6_seen_26 (by decide) ?_
      exact r_to [(0, rf x.2.1 l0), (1, .int l1), (2, .int l2)] [0, 1, 2] rfl (sX6_seen_27 X hL Hr h_l0)
    · refine r_iconst (v := 2) X dX6_seen_22 (by decide) ?_
      refine r_goto 27 X dX6_seen_23 (by decide) ?_
      exact r_to [(0, rf x.2.1 l0), (1, .int l1), (2, .int l2)] [0, 1, 2] rfl (sX6_seen_27 X hL Hr h_l0)
set_option maxRecDepth 100000 in
set_option maxHeartbeats 4000000 in
theorem okX6_seen (l : Launch) (g : GX) (hJ : IJ g) {l0 : Nat} {l1 : Int32} {l2 : Int32} {M : Mm} (h_l0 : sh l0 = 16) : CT l g yX6_seen cX6_seen 4 (some .int) 2 [rf g l0, .int l1, .int l2] M (fX6_seen l0 l1 l2 M) (fun r => some (.int r)) := by
  refine ct_I rfl hJ (Nat.le_of_ble_eq_true rfl) (fun x r hg hL hl X hf Hr => ?_)
  subst hg
  exact fun _ ls H locs hl hP hS => sX6_seen_0 X hL Hr h_l0 ⟨_, hf, rfl⟩ ls H locs hl hP hS

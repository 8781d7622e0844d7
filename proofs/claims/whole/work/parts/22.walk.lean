/-! CrumbWood$Reader.skipBlanks()V -/
set_option maxRecDepth 100000 in
def pX0_skipBlanks (x : SB) (q : Nat × Nat × Int32 × Mm) : Prop := match q.1 with
  | 1 => sh q.2.1 = 10 → ∀ (ls : Array Slot) (H : Heap) (locs : List Loc), lv_has ls x.2.2.2.1 [(0, rf x.2.1 q.2.1), (1, .int q.2.2.1)] → PW x.2.1 (q.2.2.2) H → SH x H locs → SW x H locs 2 ls []
  | _ => True
set_option maxRecDepth 100000 in
noncomputable def bX0_skipBlanks_2 (l0 : Nat) (l1 : Int32) (M : Mm) : Option ((Nat × Nat × Int32 × Mm) ⊕ Unit × Mm) := gfI M l0 1 fun v1 => if v1 ≤ l1 then some (.inr ((), M)) else gfI M l0 2 fun v2 => gfI M l0 1 fun v3 => if v3 ≤ v2 then some (.inr ((), M)) else gfR M 0 l0 0 fun v4 => gfI M l0 2 fun v5 => ldI M v4 v5 fun v6 => if v6 = 32 then gfI M l0 2 fun v7 => pfI M l0 2 (v7 + 1) fun M8 => some (.inl (1, l0, (l1 + 1), M8)) else some (.inr ((), M))
set_option maxRecDepth 100000 in
set_option maxHeartbeats 4000000 in
theorem sX0_skipBlanks_2 {x : SB} {F : ((Nat × Nat × Int32 × Mm) ⊕ Unit × Mm) → Prop} (X : CX x cX0_skipBlanks RX0 0) (hL : x.2.2.2.1 = 2) (Hr : RTV x cX0_skipBlanks F Sum.inr) (HH : ∀ q, F (.inl q) → pX0_skipBlanks x q) {l0 : Nat} {l1 : Int32} {M : Mm} (h_l0 : sh l0 = 10) : SIM x F (bX0_skipBlanks_2 l0 l1 M) 2 [(0, rf x.2.1 l0), (1, .int l1)] [] M := by
  unfold bX0_skipBlanks_2
  refine r_iload_n X dX0_skipBlanks_2 rfl 1 rfl ?_
  refine r_aload_n X dX0_skipBlanks_3 rfl 0 rfl ?_
  refine r_getI X fl_X0_15 (by decide) h_l0 dX0_skipBlanks_4 (fun v1 => ?_)
  refine r_icmp_ge 51 X dX0_skipBlanks_7 (by decide) ?_ ?_
  · exact r_vret Hr dX0_skipBlanks_51
  · refine r_aload_n X dX0_skipBlanks_10 rfl 0 rfl ?_
    refine r_getI X fl_X0_19 (by decide) h_l0 dX0_skipBlanks_11 (fun v2 => ?_)
    refine r_aload_n X dX0_skipBlanks_14 rfl 0 rfl ?_
    refine r_getI X fl_X0_15 (by decide) h_l0 dX0_skipBlanks_15 (fun v3 => ?_)
    refine r_icmp_ge 51 X dX0_skipBlanks_18 (by decide) ?_ ?_
    · exact r_vret Hr dX0_skipBlanks_51
    · refine r_aload_n X dX0_skipBlanks_21 rfl 0 rfl ?_
      refine r_getR X fl_X0_9 (by decide) h_l0 dX0_skipBlanks_22 (fun v4 h_v4 => ?_)
      refine r_aload_n X dX0_skipBlanks_25 rfl 0 rfl ?_
      refine r_getI X fl_X0_19 (by decide) h_l0 dX0_skipBlanks_26 (fun v5 => ?_)
      refine r_iald X h_v4 dX0_skipBlanks_29 (fun v6 => ?_)
      refine r_bipush (v := 32) X dX0_skipBlanks_30 (by decide) ?_
      refine r_icmp_ne 51 X dX0_skipBlanks_32 (by decide) ?_ ?_
      · refine r_aload_n X dX0_skipBlanks_35 rfl 0 rfl ?_
        refine r_dup X dX0_skipBlanks_36 rfl ?_
        refine r_getI X fl_X0_19 (by decide) h_l0 dX0_skipBlanks_37 (fun v7 => ?_)
        refine r_iconst (v := 1) X dX0_skipBlanks_40 (by decide) ?_
        refine r_iadd X dX0_skipBlanks_41 ?_
        refine r_putI X fl_X0_19 (by decide) h_l0 (fun _ => rfl) (fun _ => rfl) dX0_skipBlanks_42 (fun M8 => ?_)
        refine r_iinc [(1, .int (l1 + 1)), (0, rf x.2.1 l0)] X dX0_skipBlanks_45 1 rfl rfl (nlt hL (by decide)) rfl ?_
        refine r_goto 2 X dX0_skipBlanks_48 (by decide) ?_
        exact r_hdr [(0, rf x.2.1 l0), (1, .int (l1 + 1))] [1, 0] rfl (fun h => HH _ h h_l0)
      · exact r_vret Hr dX0_skipBlanks_51
set_option maxRecDepth 100000 in
noncomputable def bX0_skipBlanks_0 (l0 : Nat) (M : Mm) : Option ((Nat × Nat × Int32 × Mm) ⊕ Unit × Mm) := some (.inl (1, l0, 0, M))
set_option maxRecDepth 100000 in
set_option maxHeartbeats 4000000 in
theorem sX0_skipBlanks_0 {x : SB} {F : ((Nat × Nat × Int32 × Mm) ⊕ Unit × Mm) → Prop} (X : CX x cX0_skipBlanks RX0 0) (hL : x.2.2.2.1 = 2) (Hr : RTV x cX0_skipBlanks F Sum.inr) (HH : ∀ q, F (.inl q) → pX0_skipBlanks x q) {l0 : Nat} {M : Mm} (h_l0 : sh l0 = 10) : SIM x F (bX0_skipBlanks_0 l0 M) 0 [(0, rf x.2.1 l0)] [] M := by
  unfold bX0_skipBlanks_0
  refine r_iconst (v := 0) X dX0_skipBlanks_0 (by decide) ?_
  refine r_istore_n [(1, .int 0), (0, rf x.2.1 l0)] X dX0_skipBlanks_1 rfl (nlt hL (by decide)) rfl ?_
  exact r_hdr [(0, rf x.2.1 l0), (1, .int 0)] [1, 0] rfl (fun h => HH _ h h_l0)
set_option maxRecDepth 100000 in
noncomputable def gX0_skipBlanks (q : Nat × Nat × Int32 × Mm) : Option ((Nat × Nat × Int32 × Mm) ⊕ Unit × Mm) := match q.1 with
  | 1 => bX0_skipBlanks_2 (q.2.1) (q.2.2.1) (q.2.2.2)
  | _ => none
set_option maxRecDepth 100000 in
noncomputable def fX0_skipBlanks (l0 : Nat) (M : Mm) : Option (Unit × Mm) := fen gX0_skipBlanks (bX0_skipBlanks_0 l0 M)
set_option maxRecDepth 100000 in
set_option maxHeartbeats 4000000 in
theorem okX0_skipBlanks (l : Launch) (g : GX) (hJ : IJ g) {l0 : Nat} {M : Mm} (h_l0 : sh l0 = 10) : CT l g yX0_skipBlanks cX0_skipBlanks 2 none 0 [rf g l0] M (fX0_skipBlanks l0 M) (fun _ => none) := by
  refine ct_V rfl hJ (Nat.le_of_ble_eq_true rfl) (fun x r hg hL hl X hf Hr => ?_)
  subst hg
  have Hr2 : RTV x cX0_skipBlanks (Sum.elim (pX0_skipBlanks x) (fun q => q = r)) Sum.inr := fun M h => Hr M h
  have HP : ∀ q, fnl gX0_skipBlanks q = some r → pX0_skipBlanks x q := by
    intro q hq
    refine fnl_ind (pX0_skipBlanks x) (fun q hq => ?_) hq
    obtain ⟨n, l0, l1, M⟩ := q
    match n, hq with
    | 1, hq => exact fun h_l0 ls H locs hl hP hS => sX0_skipBlanks_2 X hL Hr2 (fun _ h => h) h_l0 hq ls H locs hl hP hS
    | 0, hq => exact trivial
    | n + 2, hq => exact trivial
  exact fun _ ls H locs hl hP hS => sX0_skipBlanks_0 X hL Hr2 (fun _ h => h) h_l0 (fen_w hf HP) ls H locs hl hP hS
/-! CrumbWood$Wood.clear()V -/
set_option maxRecDepth 100000 in
def pX4_clear (x : SB) (q : Nat × Nat × Int32 × Mm) : Prop := match q.1 with
  | 1 => sh q.2.1 = 14 → ∀ (ls : Array Slot) (H : Heap) (locs : List Loc), lv_has ls x.2.2.2.1 [(0, rf x.2.1 q.2.1), (1, .int q.2.2.1)] → PW x.2.1 (q.2.2.2) H → SH x H locs → SW x H locs 24 ls []
  | 2 => sh q.2.1 = 14 → ∀ (ls : Array Slot) (H : Heap) (locs : List Loc), lv_has ls x.2.2.2.1 [(0, rf x.2.1 q.2.1), (1, .int q.2.2.1)] → PW x.2.1 (q.2.2.2) H → SH x H locs → SW x H locs 45 ls []
  | _ => True
set_option maxRecDepth 100000 in
noncomputable def bX4_clear_45 (l0 : Nat) (l1 : Int32) (M : Mm) : Option ((Nat × Nat × Int32 × Mm) ⊕ Unit × Mm) := if 3 ≤ l1 then some (.inr ((), M)) else gfR M 0 l0 9 fun v1 => stI M v1 l1 0 fun M2 => some (.inl (2, l0, (l1 + 1), M2))
set_option maxRecDepth 100000 in
set_option maxHeartbeats 4000000 in
theorem sX4_clear_45 {x : SB} {F : ((Nat × Nat × Int32 × Mm) ⊕ Unit × Mm) → Prop} (X : CX x cX4_clear RX4 0) (hL : x.2.2.2.1 = 2) (Hr : RTV x cX4_clear F Sum.inr) (HH : ∀ q, F (.inl q) → pX4_clear x q) {l0 : Nat} {l1 : Int32} {M : Mm} (h_l0 : sh l0 = 14) : SIM x F (bX4_clear_45 l0 l1 M) 45 [(0, rf x.2.1 l0), (1, .int l1)] [] M := by
  unfold bX4_clear_45
  refine r_iload_n X dX4_clear_45 rfl 1 rfl ?_
  refine r_iconst (v := 3) X dX4_clear_46 (by decide) ?_
  refine r_icmp_ge 63 X dX4_clear_47 (by decide) ?_ ?_
  · exact r_vret Hr dX4_clear_63
  · refine r_aload_n X dX4_clear_50 rfl 0 rfl ?_
    refine r_getR X fl_X4_42 (by decide) h_l0 dX4_clear_51 (fun v1 h_v1 => ?_)
    refine r_iload_n X dX4_clear_54 rfl 1 rfl ?_
    refine r_iconst (v := 0) X dX4_clear_55 (by decide) ?_
    refine r_iast X h_v1 dX4_clear_56 (fun M2 => ?_)
    refine r_iinc [(1, .int (l1 + 1)), (0, rf x.2.1 l0)] X dX4_clear_57 1 rfl rfl (nlt hL (by decide)) rfl ?_
    refine r_goto 45 X dX4_clear_60 (by decide) ?_
    exact r_hdr [(0, rf x.2.1 l0), (1, .int (l1 + 1))] [1, 0] rfl (fun h => HH _ h h_l0)
set_option maxRecDepth 100000 in
noncomputable def bX4_clear_24 (l0 : Nat) (l1 : Int32) (M : Mm) : Option ((Nat × Nat × Int32 × Mm) ⊕ Unit × Mm) := if 6 ≤ l1 then some (.inl (2, l0, 0, M)) else gfR M 0 l0 4 fun v3 => stI M v3 l1 0 fun M4 => some (.inl (1, l0, (l1 + 1), M4))
set_option maxRecDepth 100000 in
set_option maxHeartbeats 4000000 in
theorem sX4_clear_24 {x : SB} {F : ((Nat × Nat × Int32 × Mm) ⊕ Unit × Mm) → Prop} (X : CX x cX4_clear RX4 0) (hL : x.2.2.2.1 = 2) (Hr : RTV x cX4_clear F Sum.inr) (HH : ∀ q, F (.inl q) → pX4_clear x q) {l0 : Nat} {l1 : Int32} {M : Mm} (h_l0 : sh l0 = 14) : SIM x F (bX4_clear_24 l0 l1 M) 24 [(0, rf x.2.1 l0), (1, .int l1)] [] M := by
  unfold bX4_clear_24
  refine r_iload_n X dX4_clear_24 rfl 1 rfl ?_
  refine r_bipush (v := 6) X dX4_clear_25 (by decide) ?_
  refine r_icmp_ge 43 X dX4_clear_27 (by decide) ?_ ?_
  · refine r_iconst (v := 0) X dX4_clear_43 (by decide) ?_
    refine r_istore_n [(1, .int 0), (0, rf x.2.1 l0)] X dX4_clear_44 rfl (nlt hL (by decide)) rfl ?_
    exact r_hdr [(0, rf x.2.1 l0), (1, .int 0)] [1, 0] rfl (fun h => HH _ h h_l0)
  · refine r_aload_n X dX4_clear_30 rfl 0 rfl ?_
    refine r_getR X fl_X4_25 (by decide) h_l0 dX4_clear_31 (fun v3 h_v3 => ?_)
    refine r_iload_n X dX4_clear_34 rfl 1 rfl ?_
    refine r_iconst (v := 0) X dX4_clear_35 (by decide) ?_
    refine r_iast X h_v3 dX4_clear_36 (fun M4 => ?_)
    refine r_iinc [(1, .int (l1 + 1)), (0, rf x.2.1 l0)] X dX4_clear_37 1 rfl rfl (nlt hL (by decide)) rfl ?_
    refine r_goto 24 X dX4_clear_40 (by decide) ?_
    exact r_hdr [(0, rf x.2.1 l0), (1, .int (l1 + 1))] [1, 0] rfl (fun h => HH _ h h_l0)
set_option maxRecDepth 100000 in
noncomputable def bX4_clear_0 (l0 : Nat) (M : Mm) : Option ((Nat × Nat × Int32 × Mm) ⊕ Unit × Mm) := pfI M l0 0 0 fun M5 => pfI M5 l0 1 0 fun M6 => pfI M6 l0 2 0 fun M7 => gfR M7 0 l0 10 fun v8 => stI M7 v8 0 0 fun M9 => some (.inl (1, l0, 0, M9))
set_option maxRecDepth 100000 in
set_option maxHeartbeats 4000000 in
theorem sX4_clear_0 {x : SB} {F : ((Nat × Nat × Int32 × Mm) ⊕ Unit × Mm) → Prop} (X : CX x cX4_clear RX4 0) (hL : x.2.2.2.1 = 2) (Hr : RTV x cX4_clear F Sum.inr) (HH : ∀ q, F (.inl q) → pX4_clear x q) {l0 : Nat} {M : Mm} (h_l0 : sh l0 = 14) : SIM x F (bX4_clear_0 l0 M) 0 [(0, rf x.2.1 l0)] [] M := by
  unfold bX4_clear_0
  refine r_aload_n X dX4_clear_0 rfl 0 rfl ?_
  refine r_iconst (v := 0) X dX4_clear_1 (by decide) ?_
  refine r_putI X fl_X4_9 (by decide) h_l0 (fun _ => rfl) (fun _ => rfl) dX4_clear_2 (fun M5 => ?_)
  refine r_aload_n X dX4_clear_5 rfl 0 rfl ?_
  refine r_iconst (v := 0) X dX4_clear_6 (by decide) ?_
  refine r_putI X fl_X4_15 (by decide) h_l0 (fun _ => rfl) (fun _ => rfl) dX4_clear_7 (fun M6 => ?_)
  refine r_aload_n X dX4_clear_10 rfl 0 rfl ?_
  refine r_iconst (v := 0) X dX4_clear_11 (by decide) ?_
  refine r_putI X fl_X4_18 (by decide) h_l0 (fun _ => rfl) (fun _ => rfl) dX4_clear_12 (fun M7 => ?_)
  refine r_aload_n X dX4_clear_15 rfl 0 rfl ?_
  refine r_getR X fl_X4_45 (by decide) h_l0 dX4_clear_16 (fun v8 h_v8 => ?_)
  refine r_iconst (v := 0) X dX4_clear_19 (by decide) ?_
  refine r_iconst (v := 0) X dX4_clear_20 (by decide) ?_
  refine r_iast X h_v8 dX4_clear_21 (fun M9 => ?_)
  refine r_iconst (v := 0) X dX4_clear_22 (by decide) ?_
  refine r_istore_n [(1, .int 0), (0, rf x.2.1 l0)] X dX4_clear_23 rfl (nlt hL (by decide)) rfl ?_
  exact r_hdr [(0, rf x.2.1 l0), (1, .int 0)] [1, 0] rfl (fun h => HH _ h h_l0)
set_option maxRecDepth 100000 in
noncomputable def gX4_clear (q : Nat × Nat × Int32 × Mm) : Option ((Nat × Nat × Int32 × Mm) ⊕ Unit × Mm) := match q.1 with
  | 1 => bX4_clear_24 (q.2.1) (q.2.2.1) (q.2.2.2)
  | 2 => bX4_clear_45 (q.2.1) (q.2.2.1) (q.2.2.2)
  | _ => none
set_option maxRecDepth 100000 in
noncomputable def fX4_clear (l0 : Nat) (M : Mm) : Option (Unit × Mm) := fen gX4_clear (bX4_clear_0 l0 M)
set_option maxRecDepth 100000 in
set_option maxHeartbeats 4000000 in
theorem okX4_clear (l : Launch) (g : GX) (hJ : IJ g) {l0 : Nat} {M : Mm} (h_l0 : sh l0 = 14) : CT l g yX4_clear cX4_clear 2 none 0 [rf g l0] M (fX4_clear l0 M) (fun _ => none) := by
  refine ct_V rfl hJ (Nat.le_of_ble_eq_true rfl) (fun x r hg hL hl X hf Hr => ?_)
  subst hg
  have Hr2 : RTV x cX4_clear (Sum.elim (pX4_clear x) (fun q => q = r)) Sum.inr := fun M h => Hr M h
  have HP : ∀ q, fnl gX4_clear q = some r → pX4_clear x q := by
    intro q hq
    refine fnl_ind (pX4_clear x) (fun q hq => ?_) hq
    obtain ⟨n, l0, l1, M⟩ := q
    match n, hq with
    | 1, hq => exact fun h_l0 ls H locs hl hP hS => sX4_clear_24 X hL Hr2 (fun _ h => h) h_l0 hq ls H locs hl hP hS
    | 2, hq => exact fun h_l0 ls H locs hl hP hS => sX4_clear_45 X hL Hr2 (fun _ h => h) h_l0 hq ls H locs hl hP hS
    | 0, hq => exact trivial
    | n + 3, hq => exact trivial
  exact fun _ ls H locs hl hP hS => sX4_clear_0 X hL Hr2 (fun _ h => h) h_l0 (fen_w hf HP) ls H locs hl hP hS
/-! CrumbWood$Reader.read(LCrumbWood$Strip;LCrumbWood$Wood;)I -/
set_option maxRecDepth 100000 in
def pX0_read (x : SB) (q : Nat × Nat × Nat × Int32 × Mm) : Prop := match q.1 with
  | 1 => sh q.2.1 = 10 → sh q.2.2.1 = 14 → ∀ (ls : Array Slot) (H : Heap) (locs : List Loc), lv_has ls x.2.2.2.1 [(0, rf x.2.1 q.2.1), (2, rf x.2.1 q.2.2.1), (3, .int q.2.2.2.1)] → PW x.2.1 (q.2.2.2.2) H → SH x H locs → SW x H locs 37 ls []
  | _ => True
set_option maxRecDepth 100000 in
noncomputable def bX0_read_37 (l0 : Nat) (l2 : Nat) (l3 : Int32) (M : Mm) : Option ((Nat × Nat × Nat × Int32 × Mm) ⊕ Int32 × Mm) := gfI M l0 1 fun v1 => if v1 < l3 then gfI M l0 1 fun v2 => some (.inr (v2, M)) else cal (fX0_skipBlanks l0 M) fun _ M3 => gfI M3 l0 2 fun v4 => gfI M3 l0 1 fun v5 => if v4 < v5 then cal (fX0_readItem l0 l2 M3) fun v7 M6 => if v7 = 0 then gfI M6 l0 2 fun v8 => some (.inr (v8, M6)) else some (.inl (1, l0, l2, (l3 + 1), M6)) else gfI M3 l0 3 fun v9 => if v9 = 3 then some (.inr ((-9), M3)) else gfI M3 l0 1 fun v10 => some (.inr (v10, M3))
set_option maxRecDepth 100000 in
set_option maxHeartbeats 4000000 in
theorem sX0_read_37 {x : SB} {F : ((Nat × Nat × Nat × Int32 × Mm) ⊕ Int32 × Mm) → Prop} (X : CX x cX0_read RX0 4) (hL : x.2.2.2.1 = 4) (Hr : RTI x cX0_read .int F Sum.inr) (HH : ∀ q, F (.inl q) → pX0_read x q) {l0 : Nat} {l2 : Nat} {l3 : Int32} {M : Mm} (h_l0 : sh l0 = 10) (h_l2 : sh l2 = 14) : SIM x F (bX0_read_37 l0 l2 l3 M) 37 [(0, rf x.2.1 l0), (2, rf x.2.1 l2), (3, .int l3)] [] M := by
  unfold bX0_read_37
  refine r_iload_n X dX0_read_37 rfl 2 rfl ?_
  refine r_aload_n X dX0_read_38 rfl 0 rfl ?_
  refine r_getI X fl_X0_15 (by decide) h_l0 dX0_read_39 (fun v1 => ?_)
  refine r_icmp_gt 97 X dX0_read_42 (by decide) ?_ ?_
  · refine r_aload_n X dX0_read_97 rfl 0 rfl ?_
    refine r_getI X fl_X0_15 (by decide) h_l0 dX0_read_98 (fun v2 => ?_)
    exact r_iret Hr rfl dX0_read_101
  · refine r_aload_n X dX0_read_45 rfl 0 rfl ?_
    refine r_callVV [] X mt_X0_39 (by decide) h_l0 (by decide) (okX0_skipBlanks _ _ X.J h_l0) rfl (Nat.le_of_ble_eq_true rfl) dX0_read_46 rfl (fun _ M3 => ?_)
    refine r_aload_n X dX0_read_49 rfl 0 rfl ?_
    refine r_getI X fl_X0_19 (by decide) h_l0 dX0_read_50 (fun v4 => ?_)
    refine r_aload_n X dX0_read_53 rfl 0 rfl ?_
    refine r_getI X fl_X0_15 (by decide) h_l0 dX0_read_54 (fun v5 => ?_)
    refine r_icmp_lt 78 X dX0_read_57 (by decide) ?_ ?_
    · refine r_aload_n X dX0_read_78 rfl 0 rfl ?_
      refine r_aload_n X dX0_read_79 rfl 1 rfl ?_
      refine r_callVI [rf x.2.1 l2] X mt_X0_42 (by decide) h_l0 (by decide) (okX0_readItem _ _ X.J h_l0 h_l2) rfl (Nat.le_of_ble_eq_true rfl) dX0_read_80 rfl (fun v7 M6 => ?_)
      refine r_if_ne 91 X dX0_read_83 (by decide) ?_ ?_
      · refine r_aload_n X dX0_read_86 rfl 0 rfl ?_
        refine r_getI X fl_X0_19 (by decide) h_l0 dX0_read_87 (fun v8 => ?_)
        exact r_iret Hr rfl dX0_read_90
      · refine r_iinc [(3, .int (l3 + 1)), (0, rf x.2.1 l0), (2, rf x.2.1 l2)] X dX0_read_91 2 rfl rfl (nlt hL (by decide)) rfl ?_
        refine r_goto 37 X dX0_read_94 (by decide) ?_
        exact r_hdr [(0, rf x.2.1 l0), (2, rf x.2.1 l2), (3, .int (l3 + 1))] [1, 2, 0] rfl (fun h => HH _ h h_l0 h_l2)
    · refine r_aload_n X dX0_read_60 rfl 0 rfl ?_
      refine r_getI X fl_X0_22 (by decide) h_l0 dX0_read_61 (fun v9 => ?_)
      refine r_iconst (v := 3) X dX0_read_64 (by decide) ?_
      refine r_icmp_ne 73 X dX0_read_65 (by decide) ?_ ?_
      · refine r_bipush (v := (-9)) X dX0_read_68 (by decide) ?_
        refine r_goto 77 X dX0_read_70 (by decide) ?_
        exact r_iret Hr rfl dX0_read_77
      · refine r_aload_n X dX0_read_73 rfl 0 rfl ?_
        refine r_getI X fl_X0_15 (by decide) h_l0 dX0_read_74 (fun v10 => ?_)
        exact r_iret Hr rfl dX0_read_77
set_option maxRecDepth 100000 in
noncomputable def bX0_read_0 (l0 : Nat) (l1 : Nat) (l2 : Nat) (M : Mm) : Option ((Nat × Nat × Nat × Int32 × Mm) ⊕ Int32 × Mm) := gfR M 0 l1 0 fun v11 => pfR M l0 0 v11 fun M12 => gfI M12 l1 1 fun v13 => pfI M12 l0 1 v13 fun M14 => pfI M14 l0 2 0 fun M15 => pfI M15 l0 3 0 fun M16 => pfI M16 l0 4 0 fun M17 => cal (fX4_clear l2 M17) fun _ M18 => some (.inl (1, l0, l2, 0, M18))
set_option maxRecDepth 100000 in
set_option maxHeartbeats 4000000 in
theorem sX0_read_0 {x : SB} {F : ((Nat × Nat × Nat × Int32 × Mm) ⊕ Int32 × Mm) → Prop} (X : CX x cX0_read RX0 4) (hL : x.2.2.2.1 = 4) (Hr : RTI x cX0_read .int F Sum.inr) (HH : ∀ q, F (.inl q) → pX0_read x q) {l0 : Nat} {l1 : Nat} {l2 : Nat} {M : Mm} (h_l0 : sh l0 = 10) (h_l1 : sh l1 = 12) (h_l2 : sh l2 = 14) : SIM x F (bX0_read_0 l0 l1 l2 M) 0 [(0, rf x.2.1 l0), (1, rf x.2.1 l1), (2, rf x.2.1 l2)] [] M := by
  unfold bX0_read_0
  refine r_aload_n X dX0_read_0 rfl 0 rfl ?_
  refine r_aload_n X dX0_read_1 rfl 1 rfl ?_
  refine r_getR X fl_X0_28 (by decide) h_l1 dX0_read_2 (fun v11 h_v11 => ?_)
  refine r_putR X fl_X0_9 (by decide) h_l0 (fun _ => rfl) (fun _ => rfl) dX0_read_5 (fun M12 => ?_)
  refine r_aload_n X dX0_read_8 rfl 0 rfl ?_
  refine r_aload_n X dX0_read_9 rfl 1 rfl ?_
  refine r_getI X fl_X0_33 (by decide) h_l1 dX0_read_10 (fun v13 => ?_)
  refine r_putI X fl_X0_15 (by decide) h_l0 (fun _ => rfl) (fun _ => rfl) dX0_read_13 (fun M14 => ?_)
  refine r_aload_n X dX0_read_16 rfl 0 rfl ?_
  refine r_iconst (v := 0) X dX0_read_17 (by decide) ?_
  refine r_putI X fl_X0_19 (by decide) h_l0 (fun _ => rfl) (fun _ => rfl) dX0_read_18 (fun M15 => ?_)
  refine r_aload_n X dX0_read_21 rfl 0 rfl ?_
  refine r_iconst (v := 0) X dX0_read_22 (by decide) ?_
  refine r_putI X fl_X0_22 (by decide) h_l0 (fun _ => rfl) (fun _ => rfl) dX0_read_23 (fun M16 => ?_)
  refine r_aload_n X dX0_read_26 rfl 0 rfl ?_
  refine r_iconst (v := 0) X dX0_read_27 (by decide) ?_
  refine r_putI X fl_X0_25 (by decide) h_l0 (fun _ => rfl) (fun _ => rfl) dX0_read_28 (fun M17 => ?_)
  refine r_aload_n X dX0_read_31 rfl 2 rfl ?_
  refine r_callVV [] X mt_X0_34 (by decide) h_l2 (by decide) (okX4_clear _ _ X.J h_l2) rfl (Nat.le_of_ble_eq_true rfl) dX0_read_32 rfl (fun _ M18 => ?_)
  refine r_iconst (v := 0) X dX0_read_35 (by decide) ?_
  refine r_istore_n [(3, .int 0), (0, rf x.2.1 l0), (1, rf x.2.1 l1), (2, rf x.2.1 l2)] X dX0_read_36 rfl (nlt hL (by decide)) rfl ?_
  exact r_hdr [(0, rf x.2.1 l0), (2, rf x.2.1 l2), (3, .int 0)] [1, 3, 0] rfl (fun h => HH _ h h_l0 h_l2)
set_option maxRecDepth 100000 in
noncomputable def gX0_read (q : Nat × Nat × Nat × Int32 × Mm) : Option ((Nat × Nat × Nat × Int32 × Mm) ⊕ Int32 × Mm) := match q.1 with
  | 1 => bX0_read_37 (q.2.1) (q.2.2.1) (q.2.2.2.1) (q.2.2.2.2)
  | _ => none
set_option maxRecDepth 100000 in
noncomputable def fX0_read (l0 : Nat) (l1 : Nat) (l2 : Nat) (M : Mm) : Option (Int32 × Mm) := fen gX0_read (bX0_read_0 l0 l1 l2 M)
set_option maxRecDepth 100000 in
set_option maxHeartbeats 4000000 in
theorem okX0_read (l : Launch) (g : GX) (hJ : IJ g) {l0 : Nat} {l1 : Nat} {l2 : Nat} {M : Mm} (h_l0 : sh l0 = 10) (h_l1 : sh l1 = 12) (h_l2 : sh l2 = 14) : CT l g yX0_read cX0_read 4 (some .int) 4 [rf g l0, rf g l1, rf g l2] M (fX0_read l0 l1 l2 M) (fun r => some (.int r)) := by
  refine ct_I rfl hJ (Nat.le_of_ble_eq_true rfl) (fun x r hg hL hl X hf Hr => ?_)
  subst hg
  have Hr2 : RTI x cX0_read .int (Sum.elim (pX0_read x) (fun q => q = r)) Sum.inr := fun v M h => Hr v M h
  have HP : ∀ q, fnl gX0_read q = some r → pX0_read x q := by
    intro q hq
    refine fnl_ind (pX0_read x) (fun q hq => ?_) hq
    obtain ⟨n, l0, l2, l3, M⟩ := q
    match n, hq with
    | 1, hq => exact fun h_l0 h_l2 ls H locs hl hP hS => sX0_read_37 X hL Hr2 (fun _ h => h) h_l0 h_l2 hq ls H locs hl hP hS
    | 0, hq => exact trivial
    | n + 2, hq => exact trivial
  exact fun _ ls H locs hl hP hS => sX0_read_0 X hL Hr2 (fun _ h => h) h_l0 h_l1 h_l2 (fen_w hf HP) ls H locs hl hP hS
/-! CrumbWood.fault(I)I -/
set_option maxRecDepth 100000 in
noncomputable def fX5_fault (l0 : Nat) (l1 : Int32) (M : Mm) : Option (Int32 × Mm) := cal (fX5_isBelow l1 4 M) fun v2 M1 => if v2 = 0 then some (((-1), M1)) else gfR M1 3 l0 1 fun v3 => ldR M1 12 v3 l1 fun v4 => cal (fX2_isMissing v4 M1) fun v6 M5 => if v6 = 0 then gfR M5 10 l0 5 fun v7 => gfR M5 3 l0 1 fun v8 => ldR M5 12 v8 l1 fun v9 => gfR M5 14 l0 4 fun v10 => cal (fX0_read v7 v9 v10 M5) fun v12 M11 => some ((v12, M11)) else cal (fX5_refuse l0 1 M5) fun v14 M13 => some ((v14, M13))
set_option maxRecDepth 100000 in
set_option maxHeartbeats 4000000 in
theorem sX5_fault_0 {x : SB} {F : (Int32 × Mm) → Prop} (X : CX x cX5_fault RX5 5) (hL : x.2.2.2.1 = 2) (Hr : RTI x cX5_fault .int F (fun q => q)) {l0 : Nat} {l1 : Int32} {M : Mm} (h_l0 : sh l0 = 15) : SIM x F (fX5_fault l0 l1 M) 0 [(0, rf x.2.1 l0), (1, .int l1)] [] M := by
  unfold fX5_fault
  refine r_iload_n X dX5_fault_0 rfl 1 rfl ?_
  refine r_iconst (v := 4) X dX5_fault_1 (by decide) ?_
  refine r_callSI [.int l1, .int 4] X mt_X5_74 (by decide) (okX5_isBelow _ _ X.J) rfl (Nat.le_of_ble_eq_true rfl) dX5_fault_2 rfl (fun v2 M1 => ?_)
  refine r_if_ne 10 X dX5_fault_5 (by decide) ?_ ?_
  · refine r_iconst (v := (-1)) X dX5_fault_8 (by decide) ?_
    exact r_iret Hr rfl dX5_fault_9
  · refine r_aload_n X dX5_fault_10 rfl 0 rfl ?_
    refine r_getR X fl_X5_15 (by decide) h_l0 dX5_fault_11 (fun v3 h_v3 => ?_)
    refine r_iload_n X dX5_fault_14 rfl 1 rfl ?_
    refine r_aldS X h_v3 dX5_fault_15 (fun v4 h_v4 => ?_)
    refine r_callVI [] X mt_X5_92 (by decide) h_v4 (by decide) (okX2_isMissing _ _ X.J h_v4) rfl (Nat.le_of_ble_eq_true rfl) dX5_fault_16 rfl (fun v6 M5 => ?_)
    refine r_if_eq 28 X dX5_fault_19 (by decide) ?_ ?_
    · refine r_aload_n X dX5_fault_28 rfl 0 rfl ?_
      refine r_getR X fl_X5_35 (by decide) h_l0 dX5_fault_29 (fun v7 h_v7 => ?_)
      refine r_aload_n X dX5_fault_32 rfl 0 rfl ?_
      refine r_getR X fl_X5_15 (by decide) h_l0 dX5_fault_33 (fun v8 h_v8 => ?_)
      refine r_iload_n X dX5_fault_36 rfl 1 rfl ?_
      refine r_aldS X h_v8 dX5_fault_37 (fun v9 h_v9 => ?_)
      refine r_aload_n X dX5_fault_38 rfl 0 rfl ?_
      refine r_getR X fl_X5_29 (by decide) h_l0 dX5_fault_39 (fun v10 h_v10 => ?_)
      refine r_callVI [rf x.2.1 v9, rf x.2.1 v10] X mt_X5_112 (by decide) h_v7 (by decide) (okX0_read _ _ X.J h_v7 h_v9 h_v10) rfl (Nat.le_of_ble_eq_true rfl) dX5_fault_42 rfl (fun v12 M11 => ?_)
      exact r_iret Hr rfl dX5_fault_45
    · refine r_aload_n X dX5_fault_22 rfl 0 rfl ?_
      refine r_iconst (v := 1) X dX5_fault_23 (by decide) ?_
      refine r_callVI [.int 1] X mt_X5_78 (by decide) h_l0 (by decide) (okX5_refuse _ _ X.J h_l0) rfl (Nat.le_of_ble_eq_true rfl) dX5_fault_24 rfl (fun v14 M13 => ?_)
      exact r_iret Hr rfl dX5_fault_27
set_option maxRecDepth 100000 in
set_option maxHeartbeats 4000000 in
theorem okX5_fault (l : Launch) (g : GX) (hJ : IJ g) {l0 : Nat} {l1 : Int32} {M : Mm} (h_l0 : sh l0 = 15) : CT l g yX5_fault cX5_fault 2 (some .int) 5 [rf g l0, .int l1] M (fX5_fault l0 l1 M) (fun r => some (.int r)) := by
  refine ct_I rfl hJ (Nat.le_of_ble_eq_true rfl) (fun x r hg hL hl X hf Hr => ?_)
  subst hg
  exact fun _ ls H locs hl hP hS => sX5_fault_0 X hL Hr h_l0 ⟨_, hf, rfl⟩ ls H locs hl hP hS
/-! CrumbWood.isUpTo(II)Z -/
set_option maxRecDepth 100000 in
noncomputable def bX5_isUpTo_13  (M : Mm) : Option (Int32 × Mm) := some ((0, M))
set_option maxRecDepth 100000 in
set_option maxHeartbeats 4000000 in
theorem sX5_isUpTo_13 {x : SB} {F : (Int32 × Mm) → Prop} (X : CX x cX5_isUpTo RX5 0) (hL : x.2.2.2.1 = 2) (Hr : RTI x cX5_isUpTo .boolean F (fun q => q))  {M : Mm}  : SIM x F (bX5_isUpTo_13  M) 13 [] [] M := by
  unfold bX5_isUpTo_13
  refine r_iconst (v := 0) X dX5_isUpTo_13 (by decide) ?_
  exact r_iret Hr rfl dX5_isUpTo_14
set_option maxRecDepth 100000 in
noncomputable def fX5_isUpTo (l0 : Int32) (l1 : Int32) (M : Mm) : Option (Int32 × Mm) := if l0 < 0 then bX5_isUpTo_13 M else if l1 < l0 then bX5_isUpTo_13 M else some ((1, M))
set_option maxRecDepth 100000 in
set_option maxHeartbeats 4000000 in
theorem sX5_isUpTo_0 {x : SB} {F : (Int32 × Mm) → Prop} (X : CX x cX5_isUpTo RX5 0) (hL : x.2.2.2.1 = 2) (Hr : RTI x cX5_isUpTo .boolean F (fun q => q)) {l0 : Int32} {l1 : Int32} {M : Mm}  : SIM x F (fX5_isUpTo l0 l1 M) 0 [(0, .int l0), (1, .int l1)] [] M := by
  unfold fX5_isUpTo
  refine r_iload_n X dX5_isUpTo_0 rfl 0 rfl ?_
  refine r_if_lt 13 X dX5_isUpTo_1 (by decide) ?_ ?_
  · exact r_to [] [] rfl (sX5_isUpTo_13 X hL Hr)
  · refine r_iload_n X dX5_isUpTo_4 rfl 0 rfl ?_
    refine r_iload_n X dX5_isUpTo_5 rfl 1 rfl ?_
    refine r_icmp_gt 13 X dX5_isUpTo_6 (by decide) ?_ ?_
    · exact r_to [] [] rfl (sX5_isUpTo_13 X hL Hr)
    · refine r_iconst (v := 1) X dX5_isUpTo_9 (by decide) ?_
      refine r_goto 14 X dX5_isUpTo_10 (by decide) ?_
      exact r_iret Hr rfl dX5_isUpTo_14
set_option maxRecDepth 100000 in
set_option maxHeartbeats 4000000 in
theorem okX5_isUpTo (l : Launch) (g : GX) (hJ : IJ g) {l0 : Int32} {l1 : Int32} {M : Mm}  : CT l g yX5_isUpTo cX5_isUpTo 2 (some .boolean) 0 [.int l0, .int l1] M (fX5_isUpTo l0 l1 M) (fun r => some (.int r)) := by
  refine ct_I rfl hJ (Nat.le_of_ble_eq_true rfl) (fun x r hg hL hl X hf Hr => ?_)
  subst hg
  exact fun _ ls H locs hl hP hS => sX5_isUpTo_0 X hL Hr ⟨_, hf, rfl⟩ ls H locs hl hP hS
/-! CrumbWood$Sight.leadsHome(IIZ)Z -/
set_option maxRecDepth 100000 in
def pX1_leadsHome (x : SB) (q : Nat × Nat × Int32 × Int32 × Int32 × Int32 × Mm) : Prop := match q.1 with
  | 1 => sh q.2.1 = 11 → ∀ (ls : Array Slot) (H : Heap) (locs : List Loc), lv_has ls x.2.2.2.1 [(0, rf x.2.1 q.2.1), (1, .int q.2.2.1), (3, .int q.2.2.2.1), (4, .int q.2.2.2.2.1), (5, .int q.2.2.2.2.2.1)] → PW x.2.1 (q.2.2.2.2.2.2) H → SH x H locs → SW x H locs 30 ls []
  | _ => True
set_option maxRecDepth 100000 in
noncomputable def bX1_leadsHome_91  (M : Mm) : Option ((Nat × Nat × Int32 × Int32 × Int32 × Int32 × Mm) ⊕ Int32 × Mm) := some (.inr (1, M))
set_option maxRecDepth 100000 in
set_option maxHeartbeats 4000000 in
theorem sX1_leadsHome_91 {x : SB} {F : ((Nat × Nat × Int32 × Int32 × Int32 × Int32 × Mm) ⊕ Int32 × Mm) → Prop} (X : CX x cX1_leadsHome RX1 3) (hL : x.2.2.2.1 = 7) (Hr : RTI x cX1_leadsHome .boolean F Sum.inr) (HH : ∀ q, F (.inl q) → pX1_leadsHome x q)  {M : Mm}  : SIM x F (bX1_leadsHome_91  M) 91 [] [] M := by
  unfold bX1_leadsHome_91
  refine r_iconst (v := 1) X dX1_leadsHome_91 (by decide) ?_
  exact r_iret Hr rfl dX1_leadsHome_92
set_option maxRecDepth 100000 in
noncomputable def bX1_leadsHome_30 (l0 : Nat) (l1 : Int32) (l3 : Int32) (l4 : Int32) (l5 : Int32) (M : Mm) : Option ((Nat × Nat × Int32 × Int32 × Int32 × Int32 × Mm) ⊕ Int32 × Mm) := gfI M l0 1 fun v1 => if v1 ≤ l5 then bX1_leadsHome_91 M else if l3 = 0 then bX1_leadsHome_91 M else ltI (((1 : Int32) <<< (l5 &&& 31)) ^^^ (-1)) fun v2 => gfI M l0 6 fun v3 => gfI M l0 3 fun v4 => gfI M l0 4 fun v5 => cal (fX1_follow l0 l1 (l4 &&& v2) ((v3 &&& v2) ||| v4) (v5 &&& v2) M) fun v7 M6 => if v7 = 0 then some (.inr (0, M6)) else some (.inl (1, l0, l1, l3, l4, (l5 + 1), M6))
set_option maxRecDepth 100000 in
set_option maxHeartbeats 4000000 in
theorem sX1_leadsHome_30 {x : SB} {F : ((Nat × Nat × Int32 × Int32 × Int32 × Int32 × Mm) ⊕ Int32 × Mm) → Prop} (X : CX x cX1_leadsHome RX1 3) (hL : x.2.2.2.1 = 7) (Hr : RTI x cX1_leadsHome .boolean F Sum.inr) (HH : ∀ q, F (.inl q) → pX1_leadsHome x q) {l0 : Nat} {l1 : Int32} {l3 : Int32} {l4 : Int32} {l5 : Int32} {M : Mm} (h_l0 : sh l0 = 11) : SIM x F (bX1_leadsHome_30 l0 l1 l3 l4 l5 M) 30 [(0, rf x.2.1 l0), (1, .int l1), (3, .int l3), (4, .int l4), (5, .int l5)] [] M := by
  unfold bX1_leadsHome_30
  refine r_iload X dX1_leadsHome_30 4 rfl ?_
  refine r_aload_n X dX1_leadsHome_32 rfl 0 rfl ?_
  refine r_getI X fl_X1_15 (by decide) h_l0 dX1_leadsHome_33 (fun v1 => ?_)
  refine r_icmp_ge 91 X dX1_leadsHome_36 (by decide) ?_ ?_
  · exact r_to [] [] rfl (sX1_leadsHome_91 X hL Hr HH)
  · refine r_iload_n X dX1_leadsHome_39 rfl 2 rfl ?_
    refine r_if_eq 91 X dX1_leadsHome_40 (by decide) ?_ ?_
    · exact r_to [] [] rfl (sX1_leadsHome_91 X hL Hr HH)
    · refine r_iconst (v := 1) X dX1_leadsHome_43 (by decide) ?_
      refine r_iload X dX1_leadsHome_44 4 rfl ?_
      refine r_ishl X dX1_leadsHome_46 ?_
      refine r_iconst (v := (-1)) X dX1_leadsHome_47 (by decide) ?_
      refine r_ixor X dX1_leadsHome_48 ?_
      refine r_letI (fun v2 => ?_)
      refine r_istore [(6, .int v2), (0, rf x.2.1 l0), (1, .int l1), (3, .int l3), (4, .int l4), (5, .int l5)] X dX1_leadsHome_49 (nlt hL (by decide)) rfl ?_
      refine r_aload_n X dX1_leadsHome_51 rfl 1 rfl ?_
      refine r_iload_n X dX1_leadsHome_52 rfl 2 rfl ?_
      refine r_iload X dX1_leadsHome_53 4 rfl ?_
      refine r_iload X dX1_leadsHome_55 0 rfl ?_
      refine r_iand X dX1_leadsHome_57 ?_
      refine r_aload_n X dX1_leadsHome_58 rfl 1 rfl ?_
      refine r_getI X fl_X1_31 (by decide) h_l0 dX1_leadsHome_59 (fun v3 => ?_)
      refine r_iload X dX1_leadsHome_62 0 rfl ?_
      refine r_iand X dX1_leadsHome_64 ?_
      refine r_aload_n X dX1_leadsHome_65 rfl 1 rfl ?_
      refine r_getI X fl_X1_22 (by decide) h_l0 dX1_leadsHome_66 (fun v4 => ?_)
      refine r_ior X dX1_leadsHome_69 ?_
      refine r_aload_n X dX1_leadsHome_70 rfl 1 rfl ?_
      refine r_getI X fl_X1_25 (by decide) h_l0 dX1_leadsHome_71 (fun v5 => ?_)
      refine r_iload X dX1_leadsHome_74 0 rfl ?_
      refine r_iand X dX1_leadsHome_76 ?_
      refine r_callVI [.int l1, .int (l4 &&& v2), .int ((v3 &&& v2) ||| v4), .int (v5 &&& v2)] X mt_X1_59 (by decide) h_l0 (by decide) (okX1_follow _ _ X.J h_l0) rfl (Nat.le_of_ble_eq_true rfl) dX1_leadsHome_77 rfl (fun v7 M6 => ?_)
      refine r_if_ne 85 X dX1_leadsHome_80 (by decide) ?_ ?_
      · refine r_iconst (v := 0) X dX1_leadsHome_83 (by decide) ?_
        exact r_iret Hr rfl dX1_leadsHome_84
      · refine r_iinc [(5, .int (l5 + 1)), (6, .int v2), (0, rf x.2.1 l0), (1, .int l1), (3, .int l3), (4, .int l4)] X dX1_leadsHome_85 5 rfl rfl (nlt hL (by decide)) rfl ?_
        refine r_goto 30 X dX1_leadsHome_88 (by decide) ?_
        exact r_hdr [(0, rf x.2.1 l0), (1, .int l1), (3, .int l3), (4, .int l4), (5, .int (l5 + 1))] [2, 3, 4, 5, 0] rfl (fun h => HH _ h h_l0)
set_option maxRecDepth 100000 in
noncomputable def bX1_leadsHome_0 (l0 : Nat) (l1 : Int32) (l2 : Int32) (l3 : Int32) (M : Mm) : Option ((Nat × Nat × Int32 × Int32 × Int32 × Int32 × Mm) ⊕ Int32 × Mm) := cal (fX1_stonesWith l0 l2 M) fun v9 M8 => gfI M8 l0 6 fun v10 => gfI M8 l0 4 fun v11 => cal (fX1_follow l0 l1 v9 v10 v11 M8) fun v13 M12 => if v13 = 0 then some (.inr (0, M12)) else some (.inl (1, l0, l1, l3, v9, 0, M12))
set_option maxRecDepth 100000 in
set_option maxHeartbeats 4000000 in
theorem sX1_leadsHome_0 {x : SB} {F : ((Nat × Nat × Int32 × Int32 × Int32 × Int32 × Mm) ⊕ Int32 × Mm) → Prop} (X : CX x cX1_leadsHome RX1 3) (hL : x.2.2.2.1 = 7) (Hr : RTI x cX1_leadsHome .boolean F Sum.inr) (HH : ∀ q, F (.inl q) → pX1_leadsHome x q) {l0 : Nat} {l1 : Int32} {l2 : Int32} {l3 : Int32} {M : Mm} (h_l0 : sh l0 = 11) : SIM x F (bX1_leadsHome_0 l0 l1 l2 l3 M) 0 [(0, rf x.2.1 l0), (1, .int l1), (2, .int l2), (3, .int l3)] [] M := by
  unfold bX1_leadsHome_0
  refine r_aload_n X dX1_leadsHome_0 rfl 0 rfl ?_
  refine r_iload_n X dX1_leadsHome_1 rfl 2 rfl ?_
  refine r_callVI [.int l2] X mt_X1_66 (by decide) h_l0 (by decide) (okX1_stonesWith _ _ X.J h_l0) rfl (Nat.le_of_ble_eq_true rfl) dX1_leadsHome_2 rfl (fun v9 M8 => ?_)
  refine r_istore [(4, .int v9), (0, rf x.2.1 l0), (1, .int l1), (2, .int l2), (3, .int l3)] X dX1_leadsHome_5 (nlt hL (by decide)) rfl ?_
  refine r_aload_n X dX1_leadsHome_7 rfl 1 rfl ?_
  refine r_iload_n X dX1_leadsHome_8 rfl 2 rfl ?_
  refine r_iload X dX1_leadsHome_9 0 rfl ?_
  refine r_aload_n X dX1_leadsHome_11 rfl 1 rfl ?_
  refine r_getI X fl_X1_31 (by decide) h_l0 dX1_leadsHome_12 (fun v10 => ?_)
  refine r_aload_n X dX1_leadsHome_15 rfl 1 rfl ?_
  refine r_getI X fl_X1_25 (by decide) h_l0 dX1_leadsHome_16 (fun v11 => ?_)
  refine r_callVI [.int l1, .int v9, .int v10, .int v11] X mt_X1_59 (by decide) h_l0 (by decide) (okX1_follow _ _ X.J h_l0) rfl (Nat.le_of_ble_eq_true rfl) dX1_leadsHome_19 rfl (fun v13 M12 => ?_)
  refine r_if_ne 27 X dX1_leadsHome_22 (by decide) ?_ ?_
  · refine r_iconst (v := 0) X dX1_leadsHome_25 (by decide) ?_
    exact r_iret Hr rfl dX1_leadsHome_26
  · refine r_iconst (v := 0) X dX1_leadsHome_27 (by decide) ?_
    refine r_istore [(5, .int 0), (4, .int v9), (0, rf x.2.1 l0), (1, .int l1), (2, .int l2), (3, .int l3)] X dX1_leadsHome_28 (nlt hL (by decide)) rfl ?_
    exact r_hdr [(0, rf x.2.1 l0), (1, .int l1), (3, .int l3), (4, .int v9), (5, .int 0)] [2, 3, 5, 1, 0] rfl (fun h => HH _ h h_l0)
set_option maxRecDepth 100000 in
noncomputable def gX1_leadsHome (q : Nat × Nat × Int32 × Int32 × Int32 × Int32 × Mm) : Option ((Nat × Nat × Int32 × Int32 × Int32 × Int32 × Mm) ⊕ Int32 × Mm) := match q.1 with
  | 1 => bX1_leadsHome_30 (q.2.1) (q.2.2.1) (q.2.2.2.1) (q.2.2.2.2.1) (q.2.2.2.2.2.1) (q.2.2.2.2.2.2)
  | _ => none
set_option maxRecDepth 100000 in
noncomputable def fX1_leadsHome (l0 : Nat) (l1 : Int32) (l2 : Int32) (l3 : Int32) (M : Mm) : Option (Int32 × Mm) := fen gX1_leadsHome (bX1_leadsHome_0 l0 l1 l2 l3 M)
set_option maxRecDepth 100000 in
set_option maxHeartbeats 4000000 in
theorem okX1_leadsHome (l : Launch) (g : GX) (hJ : IJ g) {l0 : Nat} {l1 : Int32} {l2 : Int32} {l3 : Int32} {M : Mm} (h_l0 : sh l0 = 11) : CT l g yX1_leadsHome cX1_leadsHome 7 (some .boolean) 3 [rf g l0, .int l1, .int l2, .int l3] M (fX1_leadsHome l0 l1 l2 l3 M) (fun r => some (.int r)) := by
  refine ct_I rfl hJ (Nat.le_of_ble_eq_true rfl) (fun x r hg hL hl X hf Hr => ?_)
  subst hg
  have Hr2 : RTI x cX1_leadsHome .boolean (Sum.elim (pX1_leadsHome x) (fun q => q = r)) Sum.inr := fun v M h => Hr v M h
  have HP : ∀ q, fnl gX1_leadsHome q = some r → pX1_leadsHome x q := by
    intro q hq
    refine fnl_ind (pX1_leadsHome x) (fun q hq => ?_) hq
    obtain ⟨n, l0, l1, l3, l4, l5, M⟩ := q
    match n, hq with
    | 1, hq => exact fun h_l0 ls H locs hl hP hS => sX1_leadsHome_30 X hL Hr2 (fun _ h => h) h_l0 hq ls H locs hl hP hS
    | 0, hq => exact trivial
    | n + 2, hq => exact trivial
  exact fun _ ls H locs hl hP hS => sX1_leadsHome_0 X hL Hr2 (fun _ h => h) h_l0 (fen_w hf HP) ls H locs hl hP hS
/-! CrumbWood$Sight.fewestStones(IIZ)I -/
set_option maxRecDepth 100000 in
def pX1_fewestStones (x : SB) (q : Nat × Nat × Int32 × Int32 × Int32 × Int32 × Int32 × Int32 × Mm) : Prop := match q.1 with
  | 1 => sh q.2.1 = 11 → ∀ (ls : Array Slot) (H : Heap) (locs : List Loc), lv_has ls x.2.2.2.1 [(0, rf x.2.1 q.2.1), (1, .int q.2.2.1), (2, .int q.2.2.2.1), (3, .int q.2.2.2.2.1), (4, .int q.2.2.2.2.2.1), (5, .int q.2.2.2.2.2.2.1), (6, .int q.2.2.2.2.2.2.2.1)] → PW x.2.1 (q.2.2.2.2.2.2.2.2) H → SH x H locs → SW x H locs 11 ls []
  | _ => True
set_option maxRecDepth 100000 in
noncomputable def bX1_fewestStones_58 (l0 : Nat) (l1 : Int32) (l2 : Int32) (l3 : Int32) (l4 : Int32) (l5 : Int32) (l6 : Int32) (M : Mm) : Option ((Nat × Nat × Int32 × Int32 × Int32 × Int32 × Int32 × Int32 × Mm) ⊕ Int32 × Mm) := some (.inl (1, l0, l1, l2, l3, l4, l5, (l6 + 1), M))
set_option maxRecDepth 100000 in
set_option maxHeartbeats 4000000 in
theorem sX1_fewestStones_58 {x : SB} {F : ((Nat × Nat × Int32 × Int32 × Int32 × Int32 × Int32 × Int32 × Mm) ⊕ Int32 × Mm) → Prop} (X : CX x cX1_fewestStones RX1 4) (hL : x.2.2.2.1 = 7) (Hr : RTI x cX1_fewestStones .int F Sum.inr) (HH : ∀ q, F (.inl q) → pX1_fewestStones x q) {l0 : Nat} {l1 : Int32} {l2 : Int32} {l3 : Int32} {l4 : Int32} {l5 : Int32} {l6 : Int32} {M : Mm} (h_l0 : sh l0 = 11) : SIM x F (bX1_fewestStones_58 l0 l1 l2 l3 l4 l5 l6 M) 58 [(0, rf x.2.1 l0), (1, .int l1), (2, .int l2), (3, .int l3), (4, .int l4), (5, .int l5), (6, .int l6)] [] M := by
  unfold bX1_fewestStones_58
  refine r_iinc [(6, .int (l6 + 1)), (0, rf x.2.1 l0), (1, .int l1), (2, .int l2), (3, .int l3), (4, .int l4), (5, .int l5)] X dX1_fewestStones_58 6 rfl rfl (nlt hL (by decide)) rfl ?_
  refine r_goto 11 X dX1_fewestStones_61 (by decide) ?_
  exact r_hdr [(0, rf x.2.1 l0), (1, .int l1), (2, .int l2), (3, .int l3), (4, .int l4), (5, .int l5), (6, .int (l6 + 1))] [1, 2, 3, 4, 5, 6, 0] rfl (fun h => HH _ h h_l0)
set_option maxRecDepth 100000 in
noncomputable def bX1_fewestStones_11 (l0 : Nat) (l1 : Int32) (l2 : Int32) (l3 : Int32) (l4 : Int32) (l5 : Int32) (l6 : Int32) (M : Mm) : Option ((Nat × Nat × Int32 × Int32 × Int32 × Int32 × Int32 × Int32 × Mm) ⊕ Int32 × Mm) := if l2 < l6 then some (.inr (l4, M)) else if (l6 &&& (l2 ^^^ (-1))) = 0 then cal (fJ6_bitCount_0f7a4 l6 M) fun v2 M1 => if l5 ≤ v2 then bX1_fewestStones_58 l0 l1 l2 l3 l4 l5 l6 M1 else cal (fX1_leadsHome l0 l1 l6 l3 M1) fun v4 M3 => if v4 = 0 then bX1_fewestStones_58 l0 l1 l2 l3 l4 l5 l6 M3 else cal (fJ6_bitCount_0f7a4 l6 M3) fun v6 M5 => bX1_fewestStones_58 l0 l1 l2 l3 l6 v6 l6 M5 else bX1_fewestStones_58 l0 l1 l2 l3 l4 l5 l6 M
set_option maxRecDepth 100000 in
set_option maxHeartbeats 4000000 in
theorem sX1_fewestStones_11 {x : SB} {F : ((Nat × Nat × Int32 × Int32 × Int32 × Int32 × Int32 × Int32 × Mm) ⊕ Int32 × Mm) → Prop} (X : CX x cX1_fewestStones RX1 4) (hL : x.2.2.2.1 = 7) (Hr : RTI x cX1_fewestStones .int F Sum.inr) (HH : ∀ q, F (.inl q) → pX1_fewestStones x q) {l0 : Nat} {l1 : Int32} {l2 : Int32} {l3 : Int32} {l4 : Int32} {l5 : Int32} {l6 : Int32} {M : Mm} (h_l0 : sh l0 = 11) : SIM x F (bX1_fewestStones_11 l0 l1 l2 l3 l4 l5 l6 M) 11 [(0, rf x.2.1 l0), (1, .int l1), (2, .int l2), (3, .int l3), (4, .int l4), (5, .int l5), (6, .int l6)] [] M := by
  unfold bX1_fewestStones_11
  refine r_iload X dX1_fewestStones_11 6 rfl ?_
  refine r_iload_n X dX1_fewestStones_13 rfl 2 rfl ?_
  refine r_icmp_gt 64 X dX1_fewestStones_14 (by decide) ?_ ?_
  · refine r_iload X dX1_fewestStones_64 4 rfl ?_
    exact r_iret Hr rfl dX1_fewestStones_66
  · refine r_iload X dX1_fewestStones_17 6 rfl ?_
    refine r_iload_n X dX1_fewestStones_19 rfl 2 rfl ?_
    refine r_iconst (v := (-1)) X dX1_fewestStones_20 (by decide) ?_
    refine r_ixor X dX1_fewestStones_21 ?_
    refine r_iand X dX1_fewestStones_22 ?_
    refine r_if_ne 58 X dX1_fewestStones_23 (by decide) ?_ ?_
    · refine r_iload X dX1_fewestStones_26 6 rfl ?_
      refine r_callSI [.int l6] X mt_X1_69 (by decide) (okJ6_bitCount_0f7a4 _ _ X.J) rfl (Nat.le_of_ble_eq_true rfl) dX1_fewestStones_28 rfl (fun v2 M1 => ?_)
      refine r_iload X dX1_fewestStones_31 5 rfl ?_
      refine r_icmp_ge 58 X dX1_fewestStones_33 (by decide) ?_ ?_
      · exact r_to [(0, rf x.2.1 l0), (1, .int l1), (2, .int l2), (3, .int l3), (4, .int l4), (5, .int l5), (6, .int l6)] [0, 1, 2, 3, 4, 5, 6] rfl (sX1_fewestStones_58 X hL Hr HH h_l0)
      · refine r_aload_n X dX1_fewestStones_36 rfl 0 rfl ?_
        refine r_iload_n X dX1_fewestStones_37 rfl 1 rfl ?_
        refine r_iload X dX1_fewestStones_38 6 rfl ?_
        refine r_iload_n X dX1_fewestStones_40 rfl 3 rfl ?_
        refine r_callVI [.int l1, .int l6, .int l3] X mt_X1_74 (by decide) h_l0 (by decide) (okX1_leadsHome _ _ X.J h_l0) rfl (Nat.le_of_ble_eq_true rfl) dX1_fewestStones_41 rfl (fun v4 M3 => ?_)
        refine r_if_eq 58 X dX1_fewestStones_44 (by decide) ?_ ?_
        · exact r_to [(0, rf x.2.1 l0), (1, .int l1), (2, .int l2), (3, .int l3), (4, .int l4), (5, .int l5), (6, .int l6)] [0, 1, 2, 3, 4, 5, 6] rfl (sX1_fewestStones_58 X hL Hr HH h_l0)
        · refine r_iload X dX1_fewestStones_47 6 rfl ?_
          refine r_istore [(4, .int l6), (0, rf x.2.1 l0), (1, .int l1), (2, .int l2), (3, .int l3), (5, .int l5), (6, .int l6)] X dX1_fewestStones_49 (nlt hL (by decide)) rfl ?_
          refine r_iload X dX1_fewestStones_51 6 rfl ?_
          refine r_callSI [.int l6] X mt_X1_69 (by decide) (okJ6_bitCount_0f7a4 _ _ X.J) rfl (Nat.le_of_ble_eq_true rfl) dX1_fewestStones_53 rfl (fun v6 M5 => ?_)
          refine r_istore [(5, .int v6), (4, .int l6), (0, rf x.2.1 l0), (1, .int l1), (2, .int l2), (3, .int l3), (6, .int l6)] X dX1_fewestStones_56 (nlt hL (by decide)) rfl ?_
          exact r_to [(0, rf x.2.1 l0), (1, .int l1), (2, .int l2), (3, .int l3), (4, .int l6), (5, .int v6), (6, .int l6)] [2, 3, 4, 5, 1, 0, 6] rfl (sX1_fewestStones_58 X hL Hr HH h_l0)
    · exact r_to [(0, rf x.2.1 l0), (1, .int l1), (2, .int l2), (3, .int l3), (4, .int l4), (5, .int l5), (6, .int l6)] [0, 1, 2, 3, 4, 5, 6] rfl (sX1_fewestStones_58 X hL Hr HH h_l0)
set_option maxRecDepth 100000 in
noncomputable def bX1_fewestStones_0 (l0 : Nat) (l1 : Int32) (l2 : Int32) (l3 : Int32) (M : Mm) : Option ((Nat × Nat × Int32 × Int32 × Int32 × Int32 × Int32 × Int32 × Mm) ⊕ Int32 × Mm) := some (.inl (1, l0, l1, l2, l3, (-9), 9, 0, M))
set_option maxRecDepth 100000 in
set_option maxHeartbeats 4000000 in
theorem sX1_fewestStones_0 {x : SB} {F : ((Nat × Nat × Int32 × Int32 × Int32 × Int32 × Int32 × Int32 × Mm) ⊕ Int32 × Mm) → Prop} (X : CX x cX1_fewestStones RX1 4) (hL : x.2.2.2.1 = 7) (Hr : RTI x cX1_fewestStones .int F Sum.inr) (HH : ∀ q, F (.inl q) → pX1_fewestStones x q) {l0 : Nat} {l1 : Int32} {l2 : Int32} {l3 : Int32} {M : Mm} (h_l0 : sh l0 = 11) : SIM x F (bX1_fewestStones_0 l0 l1 l2 l3 M) 0 [(0, rf x.2.1 l0), (1, .int l1), (2, .int l2), (3, .int l3)] [] M := by
  unfold bX1_fewestStones_0
  refine r_bipush (v := (-9)) X dX1_fewestStones_0 (by decide) ?_
  refine r_istore [(4, .int (-9)), (0, rf x.2.1 l0), (1, .int l1), (2, .int l2), (3, .int l3)] X dX1_fewestStones_2 (nlt hL (by decide)) rfl ?_
  refine r_bipush (v := 9) X dX1_fewestStones_4 (by decide) ?_
  refine r_istore [(5, .int 9), (4, .int (-9)), (0, rf x.2.1 l0), (1, .int l1), (2, .int l2), (3, .int l3)] X dX1_fewestStones_6 (nlt hL (by decide)) rfl ?_
  refine r_iconst (v := 0) X dX1_fewestStones_8 (by decide) ?_
  refine r_istore [(6, .int 0), (5, .int 9), (4, .int (-9)), (0, rf x.2.1 l0), (1, .int l1), (2, .int l2), (3, .int l3)] X dX1_fewestStones_9 (nlt hL (by decide)) rfl ?_
  exact r_hdr [(0, rf x.2.1 l0), (1, .int l1), (2, .int l2), (3, .int l3), (4, .int (-9)), (5, .int 9), (6, .int 0)] [3, 4, 5, 6, 2, 1, 0] rfl (fun h => HH _ h h_l0)
set_option maxRecDepth 100000 in
noncomputable def gX1_fewestStones (q : Nat × Nat × Int32 × Int32 × Int32 × Int32 × Int32 × Int32 × Mm) : Option ((Nat × Nat × Int32 × Int32 × Int32 × Int32 × Int32 × Int32 × Mm) ⊕ Int32 × Mm) := match q.1 with
  | 1 => bX1_fewestStones_11 (q.2.1) (q.2.2.1) (q.2.2.2.1) (q.2.2.2.2.1) (q.2.2.2.2.2.1) (q.2.2.2.2.2.2.1) (q.2.2.2.2.2.2.2.1) (q.2.2.2.2.2.2.2.2)
  | _ => none
set_option maxRecDepth 100000 in
noncomputable def fX1_fewestStones (l0 : Nat) (l1 : Int32) (l2 : Int32) (l3 : Int32) (M : Mm) : Option (Int32 × Mm) := fen gX1_fewestStones (bX1_fewestStones_0 l0 l1 l2 l3 M)
set_option maxRecDepth 100000 in
set_option maxHeartbeats 4000000 in
theorem okX1_fewestStones (l : Launch) (g : GX) (hJ : IJ g) {l0 : Nat} {l1 : Int32} {l2 : Int32} {l3 : Int32} {M : Mm} (h_l0 : sh l0 = 11) : CT l g yX1_fewestStones cX1_fewestStones 7 (some .int) 4 [rf g l0, .int l1, .int l2, .int l3] M (fX1_fewestStones l0 l1 l2 l3 M) (fun r => some (.int r)) := by
  refine ct_I rfl hJ (Nat.le_of_ble_eq_true rfl) (fun x r hg hL hl X hf Hr => ?_)
  subst hg
  have Hr2 : RTI x cX1_fewestStones .int (Sum.elim (pX1_fewestStones x) (fun q => q = r)) Sum.inr := fun v M h => Hr v M h
  have HP : ∀ q, fnl gX1_fewestStones q = some r → pX1_fewestStones x q := by
    intro q hq
    refine fnl_ind (pX1_fewestStones x) (fun q hq => ?_) hq
    obtain ⟨n, l0, l1, l2, l3, l4, l5, l6, M⟩ := q
    match n, hq with
    | 1, hq => exact fun h_l0 ls H locs hl hP hS => sX1_fewestStones_11 X hL Hr2 (fun _ h => h) h_l0 hq ls H locs hl hP hS
    | 0, hq => exact trivial
    | n + 2, hq => exact trivial
  exact fun _ ls H locs hl hP hS => sX1_fewestStones_0 X hL Hr2 (fun _ h => h) h_l0 (fen_w hf HP) ls H locs hl hP hS
/-! CrumbWood$Wood.hasPlace(I)Z -/
set_option maxRecDepth 100000 in
noncomputable def fX4_hasPlace (l0 : Nat) (l1 : Int32) (M : Mm) : Option (Int32 × Mm) := gfI M l0 0 fun v1 => cal (fX5_isBelow l1 v1 M) fun v3 M2 => rz v3 (some ((v3, M2)))
set_option maxRecDepth 100000 in
set_option maxHeartbeats 4000000 in
theorem sX4_hasPlace_0 {x : SB} {F : (Int32 × Mm) → Prop} (X : CX x cX4_hasPlace RX4 1) (hL : x.2.2.2.1 = 2) (Hr : RTI x cX4_hasPlace .boolean F (fun q => q)) {l0 : Nat} {l1 : Int32} {M : Mm} (h_l0 : sh l0 = 14) : SIM x F (fX4_hasPlace l0 l1 M) 0 [(0, rf x.2.1 l0), (1, .int l1)] [] M := by
  unfold fX4_hasPlace
  refine r_iload_n X dX4_hasPlace_0 rfl 1 rfl ?_
  refine r_aload_n X dX4_hasPlace_1 rfl 0 rfl ?_
  refine r_getI X fl_X4_9 (by decide) h_l0 dX4_hasPlace_2 (fun v1 => ?_)
  refine r_callSI [.int l1, .int v1] X mt_X4_57 (by decide) (okX5_isBelow _ _ X.J) rfl (Nat.le_of_ble_eq_true rfl) dX4_hasPlace_5 rfl (fun v3 M2 => ?_)
  exact r_zret Hr dX4_hasPlace_8
set_option maxRecDepth 100000 in
set_option maxHeartbeats 4000000 in
theorem okX4_hasPlace (l : Launch) (g : GX) (hJ : IJ g) {l0 : Nat} {l1 : Int32} {M : Mm} (h_l0 : sh l0 = 14) : CT l g yX4_hasPlace cX4_hasPlace 2 (some .boolean) 1 [rf g l0, .int l1] M (fX4_hasPlace l0 l1 M) (fun r => some (.int r)) := by
  refine ct_I rfl hJ (Nat.le_of_ble_eq_true rfl) (fun x r hg hL hl X hf Hr => ?_)
  subst hg
  exact fun _ ls H locs hl hP hS => sX4_hasPlace_0 X hL Hr h_l0 ⟨_, hf, rfl⟩ ls H locs hl hP hS
/-! CrumbWood.plan(IIZ)I -/
set_option maxRecDepth 100000 in
def pX5_plan (x : SB) (q : Nat × Nat × Int32 × Int32 × Int32 × Int32 × Int32 × Int32 × Mm) : Prop := match q.1 with
  | 1 => sh q.2.1 = 15 → ∀ (ls : Array Slot) (H : Heap) (locs : List Loc), lv_has ls x.2.2.2.1 [(0, rf x.2.1 q.2.1), (1, .int q.2.2.1), (2, .int q.2.2.2.1), (3, .int q.2.2.2.2.1), (4, .int q.2.2.2.2.2.1), (5, .int q.2.2.2.2.2.2.1), (6, .int q.2.2.2.2.2.2.2.1)] → PW x.2.1 (q.2.2.2.2.2.2.2.2) H → SH x H locs → SW x H locs 89 ls []
  | _ => True
set_option maxRecDepth 100000 in
noncomputable def bX5_plan_143 (l0 : Nat) (M : Mm) : Option ((Nat × Nat × Int32 × Int32 × Int32 × Int32 × Int32 × Int32 × Mm) ⊕ Int32 × Mm) := cal (fX5_refuse l0 3 M) fun v2 M1 => some (.inr (v2, M1))
set_option maxRecDepth 100000 in
set_option maxHeartbeats 4000000 in
theorem sX5_plan_143 {x : SB} {F : ((Nat × Nat × Int32 × Int32 × Int32 × Int32 × Int32 × Int32 × Mm) ⊕ Int32 × Mm) → Prop} (X : CX x cX5_plan RX5 5) (hL : x.2.2.2.1 = 8) (Hr : RTI x cX5_plan .int F Sum.inr) (HH : ∀ q, F (.inl q) → pX5_plan x q) {l0 : Nat} {M : Mm} (h_l0 : sh l0 = 15) : SIM x F (bX5_plan_143 l0 M) 143 [(0, rf x.2.1 l0)] [] M := by
  unfold bX5_plan_143
  refine r_aload_n X dX5_plan_143 rfl 0 rfl ?_
  refine r_iconst (v := 3) X dX5_plan_144 (by decide) ?_
  refine r_callVI [.int 3] X mt_X5_78 (by decide) h_l0 (by decide) (okX5_refuse _ _ X.J h_l0) rfl (Nat.le_of_ble_eq_true rfl) dX5_plan_145 rfl (fun v2 M1 => ?_)
  exact r_iret Hr rfl dX5_plan_148
set_option maxRecDepth 100000 in
noncomputable def bX5_plan_89 (l0 : Nat) (l1 : Int32) (l2 : Int32) (l3 : Int32) (l4 : Int32) (l5 : Int32) (l6 : Int32) (M : Mm) : Option ((Nat × Nat × Int32 × Int32 × Int32 × Int32 × Int32 × Int32 × Mm) ⊕ Int32 × Mm) := gfR M 3 l0 0 fun v3 => ldR M 12 v3 l1 fun v4 => gfI M v4 1 fun v5 => if v5 ≤ l6 then gfR M 14 l0 4 fun v6 => gfR M 14 l0 2 fun v7 => cal (fX4_become v6 v7 M) fun _ M8 => gfR M8 14 l0 4 fun v9 => cal (fX4_passHours v9 l2 M8) fun v11 M10 => gfR M10 11 l0 6 fun v12 => gfR M10 14 l0 4 fun v13 => cal (fX1_look v12 v13 M10) fun _ M14 => gfR M14 11 l0 6 fun v15 => cal (fX1_fewestStones v15 l4 l5 l3 M14) fun v17 M16 => if v17 = (-9) then some (.inr ((-9), M16)) else pfI M16 l0 10 v17 fun M18 => cal (fJ6_bitCount_0f7a4 v17 M18) fun v20 M19 => some (.inr (v20, M19)) else gfR M 3 l0 0 fun v21 => ldR M 12 v21 l1 fun v22 => gfR M 0 v22 0 fun v23 => ldI M v23 l6 fun v24 => gfR M 14 l0 2 fun v25 => cal (fX4_hasPlace v25 v24 M) fun v27 M26 => if v27 = 0 then bX5_plan_143 l0 M26 else gfR M26 14 l0 2 fun v28 => cal (fX4_isBeside v28 l4 v24 M26) fun v30 M29 => if v30 = 0 then bX5_plan_143 l0 M29 else ltI (l5 ||| ((1 : Int32) <<< (v24 &&& 31))) fun v31 => some (.inl (1, l0, l1, l2, l3, v24, v31, (l6 + 1), M29))
set_option maxRecDepth 100000 in
set_option maxHeartbeats 4000000 in
theorem sX5_plan_89 {x : SB} {F : ((Nat × Nat × Int32 × Int32 × Int32 × Int32 × Int32 × Int32 × Mm) ⊕ Int32 × Mm) → Prop} (X : CX x cX5_plan RX5 5) (hL : x.2.2.2.1 = 8) (Hr : RTI x cX5_plan .int F Sum.inr) (HH : ∀ q, F (.inl q) → pX5_plan x q) {l0 : Nat} {l1 : Int32} {l2 : Int32} {l3 : Int32} {l4 : Int32} {l5 : Int32} {l6 : Int32} {M : Mm} (h_l0 : sh l0 = 15) : SIM x F (bX5_plan_89 l0 l1 l2 l3 l4 l5 l6 M) 89 [(0, rf x.2.1 l0), (1, .int l1), (2, .int l2), (3, .int l3), (4, .int l4), (5, .int l5), (6, .int l6)] [] M := by
  unfold bX5_plan_89
  refine r_iload X dX5_plan_89 6 rfl ?_
  refine r_aload_n X dX5_plan_91 rfl 0 rfl ?_
  refine r_getR X fl_X5_11 (by decide) h_l0 dX5_plan_92 (fun v3 h_v3 => ?_)
  refine r_iload_n X dX5_plan_95 rfl 1 rfl ?_
  refine r_aldS X h_v3 dX5_plan_96 (fun v4 h_v4 => ?_)
  refine r_getI X fl_X5_96 (by decide) h_v4 dX5_plan_97 (fun v5 => ?_)
  refine r_icmp_ge 168 X dX5_plan_100 (by decide) ?_ ?_
  · refine r_aload_n X dX5_plan_168 rfl 0 rfl ?_
    refine r_getR X fl_X5_29 (by decide) h_l0 dX5_plan_169 (fun v6 h_v6 => ?_)
    refine r_aload_n X dX5_plan_172 rfl 0 rfl ?_
    refine r_getR X fl_X5_21 (by decide) h_l0 dX5_plan_173 (fun v7 h_v7 => ?_)
    refine r_callVV [rf x.2.1 v7] X mt_X5_116 (by decide) h_v6 (by decide) (okX4_become _ _ X.J h_v6 h_v7) rfl (Nat.le_of_ble_eq_true rfl) dX5_plan_176 rfl (fun _ M8 => ?_)
    refine r_aload_n X dX5_plan_179 rfl 0 rfl ?_
    refine r_getR X fl_X5_29 (by decide) h_l0 dX5_plan_180 (fun v9 h_v9 => ?_)
    refine r_iload_n X dX5_plan_183 rfl 2 rfl ?_
    refine r_callVI [.int l2] X mt_X5_202 (by decide) h_v9 (by decide) (okX4_passHours _ _ X.J h_v9) rfl (Nat.le_of_ble_eq_true rfl) dX5_plan_184 rfl (fun v11 M10 => ?_)
    refine r_pop X dX5_plan_187 rfl ?_
    refine r_aload_n X dX5_plan_188 rfl 0 rfl ?_
    refine r_getR X fl_X5_42 (by decide) h_l0 dX5_plan_189 (fun v12 h_v12 => ?_)
    refine r_aload_n X dX5_plan_192 rfl 0 rfl ?_
    refine r_getR X fl_X5_29 (by decide) h_l0 dX5_plan_193 (fun v13 h_v13 => ?_)
    refine r_callVV [rf x.2.1 v13] X mt_X5_240 (by decide) h_v12 (by decide) (okX1_look _ _ X.J h_v12 h_v13) rfl (Nat.le_of_ble_eq_true rfl) dX5_plan_196 rfl (fun _ M14 => ?_)
    refine r_aload_n X dX5_plan_199 rfl 0 rfl ?_
    refine r_getR X fl_X5_42 (by decide) h_l0 dX5_plan_200 (fun v15 h_v15 => ?_)
    refine r_iload X dX5_plan_203 4 rfl ?_
    refine r_iload X dX5_plan_205 5 rfl ?_
    refine r_iload_n X dX5_plan_207 rfl 3 rfl ?_
    refine r_callVI [.int l4, .int l5, .int l3] X mt_X5_304 (by decide) h_v15 (by decide) (okX1_fewestStones _ _ X.J h_v15) rfl (Nat.le_of_ble_eq_true rfl) dX5_plan_208 rfl (fun v17 M16 => ?_)
    refine r_istore [(6, .int v17), (0, rf x.2.1 l0), (1, .int l1), (2, .int l2), (3, .int l3), (4, .int l4), (5, .int l5)] X dX5_plan_211 (nlt hL (by decide)) rfl ?_
    refine r_iload X dX5_plan_213 0 rfl ?_
    refine r_bipush (v := (-9)) X dX5_plan_215 (by decide) ?_
    refine r_icmp_ne 223 X dX5_plan_217 (by decide) ?_ ?_
    · refine r_bipush (v := (-9)) X dX5_plan_220 (by decide) ?_
      exact r_iret Hr rfl dX5_plan_222
    · refine r_aload_n X dX5_plan_223 rfl 1 rfl ?_
      refine r_iload X dX5_plan_224 0 rfl ?_
      refine r_putI X fl_X5_61 (by decide) h_l0 (fun _ => rfl) (fun _ => rfl) dX5_plan_226 (fun M18 => ?_)
      refine r_iload X dX5_plan_229 0 rfl ?_
      refine r_callSI [.int v17] X mt_X5_156 (by decide) (okJ6_bitCount_0f7a4 _ _ X.J) rfl (Nat.le_of_ble_eq_true rfl) dX5_plan_231 rfl (fun v20 M19 => ?_)
      exact r_iret Hr rfl dX5_plan_234
  · refine r_aload_n X dX5_plan_103 rfl 0 rfl ?_
    refine r_getR X fl_X5_11 (by decide) h_l0 dX5_plan_104 (fun v21 h_v21 => ?_)
    refine r_iload_n X dX5_plan_107 rfl 1 rfl ?_
    refine r_aldS X h_v21 dX5_plan_108 (fun v22 h_v22 => ?_)
    refine r_getR X fl_X5_89 (by decide) h_v22 dX5_plan_109 (fun v23 h_v23 => ?_)
    refine r_iload X dX5_plan_112 6 rfl ?_
    refine r_iald X h_v23 dX5_plan_114 (fun v24 => ?_)
    refine r_istore [(7, .int v24), (0, rf x.2.1 l0), (1, .int l1), (2, .int l2), (3, .int l3), (4, .int l4), (5, .int l5), (6, .int l6)] X dX5_plan_115 (nlt hL (by decide)) rfl ?_
    refine r_aload_n X dX5_plan_117 rfl 1 rfl ?_
    refine r_getR X fl_X5_21 (by decide) h_l0 dX5_plan_118 (fun v25 h_v25 => ?_)
    refine r_iload X dX5_plan_121 0 rfl ?_
    refine r_callVI [.int v24] X mt_X5_123 (by decide) h_v25 (by decide) (okX4_hasPlace _ _ X.J h_v25) rfl (Nat.le_of_ble_eq_true rfl) dX5_plan_123 rfl (fun v27 M26 => ?_)
    refine r_if_eq 143 X dX5_plan_126 (by decide) ?_ ?_
    · exact r_to [(0, rf x.2.1 l0)] [1] rfl (sX5_plan_143 X hL Hr HH h_l0)
    · refine r_aload_n X dX5_plan_129 rfl 1 rfl ?_
      refine r_getR X fl_X5_21 (by decide) h_l0 dX5_plan_130 (fun v28 h_v28 => ?_)
      refine r_iload X dX5_plan_133 5 rfl ?_
      refine r_iload X dX5_plan_135 0 rfl ?_
      refine r_callVI [.int l4, .int v24] X mt_X5_161 (by decide) h_v28 (by decide) (okX4_isBeside _ _ X.J h_v28) rfl (Nat.le_of_ble_eq_true rfl) dX5_plan_137 rfl (fun v30 M29 => ?_)
      refine r_if_ne 149 X dX5_plan_140 (by decide) ?_ ?_
      · exact r_to [(0, rf x.2.1 l0)] [1] rfl (sX5_plan_143 X hL Hr HH h_l0)
      · refine r_iload X dX5_plan_149 0 rfl ?_
        refine r_istore [(4, .int v24), (7, .int v24), (0, rf x.2.1 l0), (1, .int l1), (2, .int l2), (3, .int l3), (5, .int l5), (6, .int l6)] X dX5_plan_151 (nlt hL (by decide)) rfl ?_
        refine r_iload X dX5_plan_153 6 rfl ?_
        refine r_iconst (v := 1) X dX5_plan_155 (by decide) ?_
        refine r_iload X dX5_plan_156 1 rfl ?_
        refine r_ishl X dX5_plan_158 ?_
        refine r_ior X dX5_plan_159 ?_
        refine r_letI (fun v31 => ?_)
        refine r_istore [(5, .int v31), (4, .int v24), (7, .int v24), (0, rf x.2.1 l0), (1, .int l1), (2, .int l2), (3, .int l3), (6, .int l6)] X dX5_plan_160 (nlt hL (by decide)) rfl ?_
        refine r_iinc [(6, .int (l6 + 1)), (5, .int v31), (4, .int v24), (7, .int v24), (0, rf x.2.1 l0), (1, .int l1), (2, .int l2), (3, .int l3)] X dX5_plan_162 7 rfl rfl (nlt hL (by decide)) rfl ?_
        refine r_goto 89 X dX5_plan_165 (by decide) ?_
        exact r_hdr [(0, rf x.2.1 l0), (1, .int l1), (2, .int l2), (3, .int l3), (4, .int v24), (5, .int v31), (6, .int (l6 + 1))] [4, 5, 6, 7, 2, 1, 0] rfl (fun h => HH _ h h_l0)
set_option maxRecDepth 100000 in
noncomputable def bX5_plan_18  (M : Mm) : Option ((Nat × Nat × Int32 × Int32 × Int32 × Int32 × Int32 × Int32 × Mm) ⊕ Int32 × Mm) := some (.inr ((-1), M))
set_option maxRecDepth 100000 in
set_option maxHeartbeats 4000000 in
theorem sX5_plan_18 {x : SB} {F : ((Nat × Nat × Int32 × Int32 × Int32 × Int32 × Int32 × Int32 × Mm) ⊕ Int32 × Mm) → Prop} (X : CX x cX5_plan RX5 5) (hL : x.2.2.2.1 = 8) (Hr : RTI x cX5_plan .int F Sum.inr) (HH : ∀ q, F (.inl q) → pX5_plan x q)  {M : Mm}  : SIM x F (bX5_plan_18  M) 18 [] [] M := by
  unfold bX5_plan_18
  refine r_iconst (v := (-1)) X dX5_plan_18 (by decide) ?_
  exact r_iret Hr rfl dX5_plan_19
set_option maxRecDepth 100000 in
noncomputable def bX5_plan_0 (l0 : Nat) (l1 : Int32) (l2 : Int32) (l3 : Int32) (M : Mm) : Option ((Nat × Nat × Int32 × Int32 × Int32 × Int32 × Int32 × Int32 × Mm) ⊕ Int32 × Mm) := cal (fX5_isBelow l1 6 M) fun v33 M32 => if v33 = 0 then bX5_plan_18 M32 else cal (fX5_isUpTo l2 40 M32) fun v35 M34 => if v35 = 0 then bX5_plan_18 M34 else gfR M34 14 l0 2 fun v36 => cal (fX4_isEmpty v36 M34) fun v38 M37 => if v38 = 0 then gfR M37 3 l0 0 fun v39 => ldR M37 12 v39 l1 fun v40 => cal (fX2_isMissing v40 M37) fun v42 M41 => if v42 = 0 then gfR M41 3 l0 0 fun v43 => ldR M41 12 v43 l1 fun v44 => gfI M41 v44 1 fun v45 => if v45 ≤ 8 then gfR M41 14 l0 2 fun v46 => cal (fX4_standing v46 M41) fun v48 M47 => ltI ((1 : Int32) <<< (v48 &&& 31)) fun v49 => some (.inl (1, l0, l1, l2, l3, v48, v49, 0, M47)) else cal (fX5_refuse l0 5 M41) fun v51 M50 => some (.inr (v51, M50)) else cal (fX5_refuse l0 1 M41) fun v53 M52 => some (.inr (v53, M52)) else some (.inr ((-4), M37))
set_option maxRecDepth 100000 in
set_option maxHeartbeats 4000000 in
theorem sX5_plan_0 {x : SB} {F : ((Nat × Nat × Int32 × Int32 × Int32 × Int32 × Int32 × Int32 × Mm) ⊕ Int32 × Mm) → Prop} (X : CX x cX5_plan RX5 5) (hL : x.2.2.2.1 = 8) (Hr : RTI x cX5_plan .int F Sum.inr) (HH : ∀ q, F (.inl q) → pX5_plan x q) {l0 : Nat} {l1 : Int32} {l2 : Int32} {l3 : Int32} {M : Mm} (h_l0 : sh l0 = 15) : SIM x F (bX5_plan_0 l0 l1 l2 l3 M) 0 [(0, rf x.2.1 l0), (1, .int l1), (2, .int l2), (3, .int l3)] [] M := by
  unfold bX5_plan_0
  refine r_iload_n X dX5_plan_0 rfl 1 rfl ?_
  refine r_bipush (v := 6) X dX5_plan_1 (by decide) ?_
  refine r_callSI [.int l1, .int 6] X mt_X5_74 (by decide) (okX5_isBelow _ _ X.J) rfl (Nat.le_of_ble_eq_true rfl) dX5_plan_3 rfl (fun v33 M32 => ?_)
  refine r_if_eq 18 X dX5_plan_6 (by decide) ?_ ?_
  · exact r_to [] [] rfl (sX5_plan_18 X hL Hr HH)
  · refine r_iload_n X dX5_plan_9 rfl 2 rfl ?_
    refine r_bipush (v := 40) X dX5_plan_10 (by decide) ?_
    refine r_callSI [.int l2, .int 40] X mt_X5_196 (by decide) (okX5_isUpTo _ _ X.J) rfl (Nat.le_of_ble_eq_true rfl) dX5_plan_12 rfl (fun v35 M34 => ?_)
    refine r_if_ne 20 X dX5_plan_15 (by decide) ?_ ?_
    · exact r_to [] [] rfl (sX5_plan_18 X hL Hr HH)
    · refine r_aload_n X dX5_plan_20 rfl 0 rfl ?_
      refine r_getR X fl_X5_21 (by decide) h_l0 dX5_plan_21 (fun v36 h_v36 => ?_)
      refine r_callVI [] X mt_X5_199 (by decide) h_v36 (by decide) (okX4_isEmpty _ _ X.J h_v36) rfl (Nat.le_of_ble_eq_true rfl) dX5_plan_24 rfl (fun v38 M37 => ?_)
      refine r_if_eq 33 X dX5_plan_27 (by decide) ?_ ?_
      · refine r_aload_n X dX5_plan_33 rfl 0 rfl ?_
        refine r_getR X fl_X5_11 (by decide) h_l0 dX5_plan_34 (fun v39 h_v39 => ?_)
        refine r_iload_n X dX5_plan_37 rfl 1 rfl ?_
        refine r_aldS X h_v39 dX5_plan_38 (fun v40 h_v40 => ?_)
        refine r_callVI [] X mt_X5_92 (by decide) h_v40 (by decide) (okX2_isMissing _ _ X.J h_v40) rfl (Nat.le_of_ble_eq_true rfl) dX5_plan_39 rfl (fun v42 M41 => ?_)
        refine r_if_eq 51 X dX5_plan_42 (by decide) ?_ ?_
        · refine r_aload_n X dX5_plan_51 rfl 0 rfl ?_
          refine r_getR X fl_X5_11 (by decide) h_l0 dX5_plan_52 (fun v43 h_v43 => ?_)
          refine r_iload_n X dX5_plan_55 rfl 1 rfl ?_
          refine r_aldS X h_v43 dX5_plan_56 (fun v44 h_v44 => ?_)
          refine r_getI X fl_X5_96 (by decide) h_v44 dX5_plan_57 (fun v45 => ?_)
          refine r_bipush (v := 8) X dX5_plan_60 (by decide) ?_
          refine r_icmp_le 71 X dX5_plan_62 (by decide) ?_ ?_
          · refine r_aload_n X dX5_plan_71 rfl 0 rfl ?_
            refine r_getR X fl_X5_21 (by decide) h_l0 dX5_plan_72 (fun v46 h_v46 => ?_)
            refine r_callVI [] X mt_X5_180 (by decide) h_v46 (by decide) (okX4_standing _ _ X.J h_v46) rfl (Nat.le_of_ble_eq_true rfl) dX5_plan_75 rfl (fun v48 M47 => ?_)
            refine r_istore [(4, .int v48), (0, rf x.2.1 l0), (1, .int l1), (2, .int l2), (3, .int l3)] X dX5_plan_78 (nlt hL (by decide)) rfl ?_
            refine r_iconst (v := 1) X dX5_plan_80 (by decide) ?_
            refine r_iload X dX5_plan_81 0 rfl ?_
            refine r_ishl X dX5_plan_83 ?_
            refine r_letI (fun v49 => ?_)
            refine r_istore [(5, .int v49), (4, .int v48), (0, rf x.2.1 l0), (1, .int l1), (2, .int l2), (3, .int l3)] X dX5_plan_84 (nlt hL (by decide)) rfl ?_
            refine r_iconst (v := 0) X dX5_plan_86 (by decide) ?_
            refine r_istore [(6, .int 0), (5, .int v49), (4, .int v48), (0, rf x.2.1 l0), (1, .int l1), (2, .int l2), (3, .int l3)] X dX5_plan_87 (nlt hL (by decide)) rfl ?_
            exact r_hdr [(0, rf x.2.1 l0), (1, .int l1), (2, .int l2), (3, .int l3), (4, .int v48), (5, .int v49), (6, .int 0)] [3, 4, 5, 6, 2, 1, 0] rfl (fun h => HH _ h h_l0)
          · refine r_aload_n X dX5_plan_65 rfl 0 rfl ?_
            refine r_iconst (v := 5) X dX5_plan_66 (by decide) ?_
            refine r_callVI [.int 5] X mt_X5_78 (by decide) h_l0 (by decide) (okX5_refuse _ _ X.J h_l0) rfl (Nat.le_of_ble_eq_true rfl) dX5_plan_67 rfl (fun v51 M50 => ?_)
            exact r_iret Hr rfl dX5_plan_70
        · refine r_aload_n X dX5_plan_45 rfl 0 rfl ?_
          refine r_iconst (v := 1) X dX5_plan_46 (by decide) ?_
          refine r_callVI [.int 1] X mt_X5_78 (by decide) h_l0 (by decide) (okX5_refuse _ _ X.J h_l0) rfl (Nat.le_of_ble_eq_true rfl) dX5_plan_47 rfl (fun v53 M52 => ?_)
          exact r_iret Hr rfl dX5_plan_50
      · refine r_bipush (v := (-4)) X dX5_plan_30 (by decide) ?_
        exact r_iret Hr rfl dX5_plan_32
set_option maxRecDepth 100000 in
noncomputable def gX5_plan (q : Nat × Nat × Int32 × Int32 × Int32 × Int32 × Int32 × Int32 × Mm) : Option ((Nat × Nat × Int32 × Int32 × Int32 × Int32 × Int32 × Int32 × Mm) ⊕ Int32 × Mm) := match q.1 with
  | 1 => bX5_plan_89 (q.2.1) (q.2.2.1) (q.2.2.2.1) (q.2.2.2.2.1) (q.2.2.2.2.2.1) (q.2.2.2.2.2.2.1) (q.2.2.2.2.2.2.2.1) (q.2.2.2.2.2.2.2.2)
  | _ => none
set_option maxRecDepth 100000 in
noncomputable def fX5_plan (l0 : Nat) (l1 : Int32) (l2 : Int32) (l3 : Int32) (M : Mm) : Option (Int32 × Mm) := fen gX5_plan (bX5_plan_0 l0 l1 l2 l3 M)
set_option maxRecDepth 100000 in
set_option maxHeartbeats 4000000 in
theorem okX5_plan (l : Launch) (g : GX) (hJ : IJ g) {l0 : Nat} {l1 : Int32} {l2 : Int32} {l3 : Int32} {M : Mm} (h_l0 : sh l0 = 15) : CT l g yX5_plan cX5_plan 8 (some .int) 5 [rf g l0, .int l1, .int l2, .int l3] M (fX5_plan l0 l1 l2 l3 M) (fun r => some (.int r)) := by
  refine ct_I rfl hJ (Nat.le_of_ble_eq_true rfl) (fun x r hg hL hl X hf Hr => ?_)
  subst hg
  have Hr2 : RTI x cX5_plan .int (Sum.elim (pX5_plan x) (fun q => q = r)) Sum.inr := fun v M h => Hr v M h
  have HP : ∀ q, fnl gX5_plan q = some r → pX5_plan x q := by
    intro q hq
    refine fnl_ind (pX5_plan x) (fun q hq => ?_) hq
    obtain ⟨n, l0, l1, l2, l3, l4, l5, l6, M⟩ := q
    match n, hq with
    | 1, hq => exact fun h_l0 ls H locs hl hP hS => sX5_plan_89 X hL Hr2 (fun _ h => h) h_l0 hq ls H locs hl hP hS
    | 0, hq => exact trivial
    | n + 2, hq => exact trivial
  exact fun _ ls H locs hl hP hS => sX5_plan_0 X hL Hr2 (fun _ h => h) h_l0 (fen_w hf HP) ls H locs hl hP hS
/-! CrumbWood.fewest(II)I -/
set_option maxRecDepth 100000 in
noncomputable def fX5_fewest (l0 : Nat) (l1 : Int32) (l2 : Int32) (M : Mm) : Option (Int32 × Mm) := cal (fX5_plan l0 l1 l2 0 M) fun v2 M1 => some ((v2, M1))
set_option maxRecDepth 100000 in
set_option maxHeartbeats 4000000 in
theorem sX5_fewest_0 {x : SB} {F : (Int32 × Mm) → Prop} (X : CX x cX5_fewest RX5 6) (hL : x.2.2.2.1 = 3) (Hr : RTI x cX5_fewest .int F (fun q => q)) {l0 : Nat} {l1 : Int32} {l2 : Int32} {M : Mm} (h_l0 : sh l0 = 15) : SIM x F (fX5_fewest l0 l1 l2 M) 0 [(0, rf x.2.1 l0), (1, .int l1), (2, .int l2)] [] M := by
  unfold fX5_fewest
  refine r_aload_n X dX5_fewest_0 rfl 0 rfl ?_
  refine r_iload_n X dX5_fewest_1 rfl 1 rfl ?_
  refine r_iload_n X dX5_fewest_2 rfl 2 rfl ?_
  refine r_iconst (v := 0) X dX5_fewest_3 (by decide) ?_
  refine r_callVI [.int l1, .int l2, .int 0] X mt_X5_232 (by decide) h_l0 (by decide) (okX5_plan _ _ X.J h_l0) rfl (Nat.le_of_ble_eq_true rfl) dX5_fewest_4 rfl (fun v2 M1 => ?_)
  exact r_iret Hr rfl dX5_fewest_7
set_option maxRecDepth 100000 in
set_option maxHeartbeats 4000000 in
theorem okX5_fewest (l : Launch) (g : GX) (hJ : IJ g) {l0 : Nat} {l1 : Int32} {l2 : Int32} {M : Mm} (h_l0 : sh l0 = 15) : CT l g yX5_fewest cX5_fewest 3 (some .int) 6 [rf g l0, .int l1, .int l2] M (fX5_fewest l0 l1 l2 M) (fun r => some (.int r)) := by
  refine ct_I rfl hJ (Nat.le_of_ble_eq_true rfl) (fun x r hg hL hl X hf Hr => ?_)
  subst hg
  exact fun _ ls H locs hl hP hS => sX5_fewest_0 X hL Hr h_l0 ⟨_, hf, rfl⟩ ls H locs hl hP hS
/-! CrumbWood.finding()I -/
set_option maxRecDepth 100000 in
noncomputable def fX5_finding (l0 : Nat) (M : Mm) : Option (Int32 × Mm) := gfI M l0 9 fun v1 => some ((v1, M))
set_option maxRecDepth 100000 in
set_option maxHeartbeats 4000000 in
theorem sX5_finding_0 {x : SB} {F : (Int32 × Mm) → Prop} (X : CX x cX5_finding RX5 0) (hL : x.2.2.2.1 = 1) (Hr : RTI x cX5_finding .int F (fun q => q)) {l0 : Nat} {M : Mm} (h_l0 : sh l0 = 15) : SIM x F (fX5_finding l0 M) 0 [(0, rf x.2.1 l0)] [] M := by
  unfold fX5_finding
  refine r_aload_n X dX5_finding_0 rfl 0 rfl ?_
  refine r_getI X fl_X5_57 (by decide) h_l0 dX5_finding_1 (fun v1 => ?_)
  exact r_iret Hr rfl dX5_finding_4
set_option maxRecDepth 100000 in
set_option maxHeartbeats 4000000 in
theorem okX5_finding (l : Launch) (g : GX) (hJ : IJ g) {l0 : Nat} {M : Mm} (h_l0 : sh l0 = 15) : CT l g yX5_finding cX5_finding 1 (some .int) 0 [rf g l0] M (fX5_finding l0 M) (fun r => some (.int r)) := by
  refine ct_I rfl hJ (Nat.le_of_ble_eq_true rfl) (fun x r hg hL hl X hf Hr => ?_)
  subst hg
  exact fun _ ls H locs hl hP hS => sX5_finding_0 X hL Hr h_l0 ⟨_, hf, rfl⟩ ls H locs hl hP hS
/-! CrumbWood.findings(I)I -/
set_option maxRecDepth 100000 in
noncomputable def bX5_findings_10  (M : Mm) : Option (Int32 × Mm) := some (((-1), M))
set_option maxRecDepth 100000 in
set_option maxHeartbeats 4000000 in
theorem sX5_findings_10 {x : SB} {F : (Int32 × Mm) → Prop} (X : CX x cX5_findings RX5 0) (hL : x.2.2.2.1 = 2) (Hr : RTI x cX5_findings .int F (fun q => q))  {M : Mm}  : SIM x F (bX5_findings_10  M) 10 [] [] M := by
  unfold bX5_findings_10
  refine r_iconst (v := (-1)) X dX5_findings_10 (by decide) ?_
  exact r_iret Hr rfl dX5_findings_11
set_option maxRecDepth 100000 in
noncomputable def fX5_findings (l0 : Nat) (l1 : Int32) (M : Mm) : Option (Int32 × Mm) := if l1 < 1 then bX5_findings_10 M else if l1 ≤ 5 then gfR M 0 l0 8 fun v1 => ldI M v1 l1 fun v2 => some ((v2, M)) else bX5_findings_10 M
set_option maxRecDepth 100000 in
set_option maxHeartbeats 4000000 in
theorem sX5_findings_0 {x : SB} {F : (Int32 × Mm) → Prop} (X : CX x cX5_findings RX5 0) (hL : x.2.2.2.1 = 2) (Hr : RTI x cX5_findings .int F (fun q => q)) {l0 : Nat} {l1 : Int32} {M : Mm} (h_l0 : sh l0 = 15) : SIM x F (fX5_findings l0 l1 M) 0 [(0, rf x.2.1 l0), (1, .int l1)] [] M := by
  unfold fX5_findings
  refine r_iload_n X dX5_findings_0 rfl 1 rfl ?_
  refine r_iconst (v := 1) X dX5_findings_1 (by decide) ?_
  refine r_icmp_lt 10 X dX5_findings_2 (by decide) ?_ ?_
  · exact r_to [] [] rfl (sX5_findings_10 X hL Hr)
  · refine r_iload_n X dX5_findings_5 rfl 1 rfl ?_
    refine r_iconst (v := 5) X dX5_findings_6 (by decide) ?_
    refine r_icmp_le 12 X dX5_findings_7 (by decide) ?_ ?_
    · refine r_aload_n X dX5_findings_12 rfl 0 rfl ?_
      refine r_getR X fl_X5_53 (by decide) h_l0 dX5_findings_13 (fun v1 h_v1 => ?_)
      refine r_iload_n X dX5_findings_16 rfl 1 rfl ?_
      refine r_iald X h_v1 dX5_findings_17 (fun v2 => ?_)
      exact r_iret Hr rfl dX5_findings_18
    · exact r_to [] [] rfl (sX5_findings_10 X hL Hr)
set_option maxRecDepth 100000 in
set_option maxHeartbeats 4000000 in
theorem okX5_findings (l : Launch) (g : GX) (hJ : IJ g) {l0 : Nat} {l1 : Int32} {M : Mm} (h_l0 : sh l0 = 15) : CT l g yX5_findings cX5_findings 2 (some .int) 0 [rf g l0, .int l1] M (fX5_findings l0 l1 M) (fun r => some (.int r)) := by
  refine ct_I rfl hJ (Nat.le_of_ble_eq_true rfl) (fun x r hg hL hl X hf Hr => ?_)
  subst hg
  exact fun _ ls H locs hl hP hS => sX5_findings_0 X hL Hr h_l0 ⟨_, hf, rfl⟩ ls H locs hl hP hS
/-! CrumbWood.fool(II)I -/
set_option maxRecDepth 100000 in
noncomputable def bX5_fool_19  (M : Mm) : Option (Int32 × Mm) := some (((-1), M))
set_option maxRecDepth 100000 in
set_option maxHeartbeats 4000000 in
theorem sX5_fool_19 {x : SB} {F : (Int32 × Mm) → Prop} (X : CX x cX5_fool RX5 2) (hL : x.2.2.2.1 = 3) (Hr : RTI x cX5_fool .int F (fun q => q))  {M : Mm}  : SIM x F (bX5_fool_19  M) 19 [] [] M := by
  unfold bX5_fool_19
  refine r_iconst (v := (-1)) X dX5_fool_19 (by decide) ?_
  exact r_iret Hr rfl dX5_fool_20
set_option maxRecDepth 100000 in
noncomputable def fX5_fool (l0 : Nat) (l1 : Int32) (l2 : Int32) (M : Mm) : Option (Int32 × Mm) := gfR M 14 l0 2 fun v1 => cal (fX4_hasPlace v1 l1 M) fun v3 M2 => if v3 = 0 then bX5_fool_19 M2 else cal (fX5_isBelow l2 3 M2) fun v5 M4 => if v5 = 0 then bX5_fool_19 M4 else gfR M4 14 l0 2 fun v6 => gfR M4 5 v6 6 fun v7 => ldR M4 0 v7 l2 fun v8 => ldI M4 v8 l1 fun v9 => if v9 < 20 then gfR M4 14 l0 2 fun v10 => cal (fX4_addMark v10 l1 l2 M4) fun _ M11 => gfR M11 14 l0 2 fun v12 => gfR M11 5 v12 6 fun v13 => ldR M11 0 v13 l2 fun v14 => ldI M11 v14 l1 fun v15 => some ((v15, M11)) else some (((-2), M4))
set_option maxRecDepth 100000 in
set_option maxHeartbeats 4000000 in
theorem sX5_fool_0 {x : SB} {F : (Int32 × Mm) → Prop} (X : CX x cX5_fool RX5 2) (hL : x.2.2.2.1 = 3) (Hr : RTI x cX5_fool .int F (fun q => q)) {l0 : Nat} {l1 : Int32} {l2 : Int32} {M : Mm} (h_l0 : sh l0 = 15) : SIM x F (fX5_fool l0 l1 l2 M) 0 [(0, rf x.2.1 l0), (1, .int l1), (2, .int l2)] [] M := by
  unfold fX5_fool
  refine r_aload_n X dX5_fool_0 rfl 0 rfl ?_
  refine r_getR X fl_X5_21 (by decide) h_l0 dX5_fool_1 (fun v1 h_v1 => ?_)
  refine r_iload_n X dX5_fool_4 rfl 1 rfl ?_
  refine r_callVI [.int l1] X mt_X5_123 (by decide) h_v1 (by decide) (okX4_hasPlace _ _ X.J h_v1) rfl (Nat.le_of_ble_eq_true rfl) dX5_fool_5 rfl (fun v3 M2 => ?_)
  refine r_if_eq 19 X dX5_fool_8 (by decide) ?_ ?_
  · exact r_to [] [] rfl (sX5_fool_19 X hL Hr)
  · refine r_iload_n X dX5_fool_11 rfl 2 rfl ?_
    refine r_iconst (v := 3) X dX5_fool_12 (by decide) ?_
    refine r_callSI [.int l2, .int 3] X mt_X5_74 (by decide) (okX5_isBelow _ _ X.J) rfl (Nat.le_of_ble_eq_true rfl) dX5_fool_13 rfl (fun v5 M4 => ?_)
    refine r_if_ne 21 X dX5_fool_16 (by decide) ?_ ?_
    · exact r_to [] [] rfl (sX5_fool_19 X hL Hr)
    · refine r_aload_n X dX5_fool_21 rfl 0 rfl ?_
      refine r_getR X fl_X5_21 (by decide) h_l0 dX5_fool_22 (fun v6 h_v6 => ?_)
      refine r_getR X fl_X5_146 (by decide) h_v6 dX5_fool_25 (fun v7 h_v7 => ?_)
      refine r_iload_n X dX5_fool_28 rfl 2 rfl ?_
      refine r_aldA X h_v7 dX5_fool_29 (fun v8 h_v8 => ?_)
      refine r_iload_n X dX5_fool_30 rfl 1 rfl ?_
      refine r_iald X h_v8 dX5_fool_31 (fun v9 => ?_)
      refine r_bipush (v := 20) X dX5_fool_32 (by decide) ?_
      refine r_icmp_lt 40 X dX5_fool_34 (by decide) ?_ ?_
      · refine r_aload_n X dX5_fool_40 rfl 0 rfl ?_
        refine r_getR X fl_X5_21 (by decide) h_l0 dX5_fool_41 (fun v10 h_v10 => ?_)
        refine r_iload_n X dX5_fool_44 rfl 1 rfl ?_
        refine r_iload_n X dX5_fool_45 rfl 2 rfl ?_
        refine r_callVV [.int l1, .int l2] X mt_X5_193 (by decide) h_v10 (by decide) (okX4_addMark _ _ X.J h_v10) rfl (Nat.le_of_ble_eq_true rfl) dX5_fool_46 rfl (fun _ M11 => ?_)
        refine r_aload_n X dX5_fool_49 rfl 0 rfl ?_
        refine r_getR X fl_X5_21 (by decide) h_l0 dX5_fool_50 (fun v12 h_v12 => ?_)
        refine r_getR X fl_X5_146 (by decide) h_v12 dX5_fool_53 (fun v13 h_v13 => ?_)
        refine r_iload_n X dX5_fool_56 rfl 2 rfl ?_
        refine r_aldA X h_v13 dX5_fool_57 (fun v14 h_v14 => ?_)
        refine r_iload_n X dX5_fool_58 rfl 1 rfl ?_
        refine r_iald X h_v14 dX5_fool_59 (fun v15 => ?_)
        exact r_iret Hr rfl dX5_fool_60
      · refine r_bipush (v := (-2)) X dX5_fool_37 (by decide) ?_
        exact r_iret Hr rfl dX5_fool_39
set_option maxRecDepth 100000 in
set_option maxHeartbeats 4000000 in
theorem okX5_fool (l : Launch) (g : GX) (hJ : IJ g) {l0 : Nat} {l1 : Int32} {l2 : Int32} {M : Mm} (h_l0 : sh l0 = 15) : CT l g yX5_fool cX5_fool 3 (some .int) 2 [rf g l0, .int l1, .int l2] M (fX5_fool l0 l1 l2 M) (fun r => some (.int r)) := by
  refine ct_I rfl hJ (Nat.le_of_ble_eq_true rfl) (fun x r hg hL hl X hf Hr => ?_)
  subst hg
  exact fun _ ls H locs hl hP hS => sX5_fool_0 X hL Hr h_l0 ⟨_, hf, rfl⟩ ls H locs hl hP hS
/-! CrumbWood.helps()I -/
set_option maxRecDepth 100000 in
noncomputable def fX5_helps (l0 : Nat) (M : Mm) : Option (Int32 × Mm) := gfR M 14 l0 2 fun v1 => cal (fX4_isEmpty v1 M) fun v3 M2 => if v3 = 0 then gfR M2 11 l0 6 fun v4 => gfR M2 14 l0 2 fun v5 => cal (fX1_findsHome v4 v5 M2) fun v7 M6 => if v7 = 0 then gfR M6 11 l0 6 fun v8 => gfR M6 14 l0 2 fun v9 => cal (fX1_homeWithStone v8 v9 M6) fun v11 M10 => some ((v11, M10)) else some ((0, M6)) else some (((-4), M2))
set_option maxRecDepth 100000 in
set_option maxHeartbeats 4000000 in
theorem sX5_helps_0 {x : SB} {F : (Int32 × Mm) → Prop} (X : CX x cX5_helps RX5 4) (hL : x.2.2.2.1 = 1) (Hr : RTI x cX5_helps .int F (fun q => q)) {l0 : Nat} {M : Mm} (h_l0 : sh l0 = 15) : SIM x F (fX5_helps l0 M) 0 [(0, rf x.2.1 l0)] [] M := by
  unfold fX5_helps
  refine r_aload_n X dX5_helps_0 rfl 0 rfl ?_
  refine r_getR X fl_X5_21 (by decide) h_l0 dX5_helps_1 (fun v1 h_v1 => ?_)
  refine r_callVI [] X mt_X5_199 (by decide) h_v1 (by decide) (okX4_isEmpty _ _ X.J h_v1) rfl (Nat.le_of_ble_eq_true rfl) dX5_helps_4 rfl (fun v3 M2 => ?_)
  refine r_if_eq 13 X dX5_helps_7 (by decide) ?_ ?_
  · refine r_aload_n X dX5_helps_13 rfl 0 rfl ?_
    refine r_getR X fl_X5_42 (by decide) h_l0 dX5_helps_14 (fun v4 h_v4 => ?_)
    refine r_aload_n X dX5_helps_17 rfl 0 rfl ?_
    refine r_getR X fl_X5_21 (by decide) h_l0 dX5_helps_18 (fun v5 h_v5 => ?_)
    refine r_callVI [rf x.2.1 v5] X mt_X5_212 (by decide) h_v4 (by decide) (okX1_findsHome _ _ X.J h_v4 h_v5) rfl (Nat.le_of_ble_eq_true rfl) dX5_helps_21 rfl (fun v7 M6 => ?_)
    refine r_if_eq 31 X dX5_helps_24 (by decide) ?_ ?_
    · refine r_aload_n X dX5_helps_31 rfl 0 rfl ?_
      refine r_getR X fl_X5_42 (by decide) h_l0 dX5_helps_32 (fun v8 h_v8 => ?_)
      refine r_aload_n X dX5_helps_35 rfl 0 rfl ?_
      refine r_getR X fl_X5_21 (by decide) h_l0 dX5_helps_36 (fun v9 h_v9 => ?_)
      refine r_callVI [rf x.2.1 v9] X mt_X5_236 (by decide) h_v8 (by decide) (okX1_homeWithStone _ _ X.J h_v8 h_v9) rfl (Nat.le_of_ble_eq_true rfl) dX5_helps_39 rfl (fun v11 M10 => ?_)
      exact r_iret Hr rfl dX5_helps_42
    · refine r_iconst (v := 0) X dX5_helps_27 (by decide) ?_
      refine r_goto 42 X dX5_helps_28 (by decide) ?_
      exact r_iret Hr rfl dX5_helps_42
  · refine r_bipush (v := (-4)) X dX5_helps_10 (by decide) ?_
    exact r_iret Hr rfl dX5_helps_12
set_option maxRecDepth 100000 in
set_option maxHeartbeats 4000000 in
theorem okX5_helps (l : Launch) (g : GX) (hJ : IJ g) {l0 : Nat} {M : Mm} (h_l0 : sh l0 = 15) : CT l g yX5_helps cX5_helps 1 (some .int) 4 [rf g l0] M (fX5_helps l0 M) (fun r => some (.int r)) := by
  refine ct_I rfl hJ (Nat.le_of_ble_eq_true rfl) (fun x r hg hL hl X hf Hr => ?_)
  subst hg
  exact fun _ ls H locs hl hP hS => sX5_helps_0 X hL Hr h_l0 ⟨_, hf, rfl⟩ ls H locs hl hP hS
/-! CrumbWood.here()I -/
set_option maxRecDepth 100000 in
noncomputable def fX5_here (l0 : Nat) (M : Mm) : Option (Int32 × Mm) := gfR M 14 l0 2 fun v1 => cal (fX4_isEmpty v1 M) fun v3 M2 => if v3 = 0 then gfR M2 14 l0 2 fun v4 => gfI M2 v4 2 fun v5 => pfI M2 l0 10 v5 fun M6 => gfR M6 14 l0 2 fun v7 => cal (fX4_standing v7 M6) fun v9 M8 => some ((v9, M8)) else some (((-4), M2))
set_option maxRecDepth 100000 in
set_option maxHeartbeats 4000000 in
theorem sX5_here_0 {x : SB} {F : (Int32 × Mm) → Prop} (X : CX x cX5_here RX5 1) (hL : x.2.2.2.1 = 1) (Hr : RTI x cX5_here .int F (fun q => q)) {l0 : Nat} {M : Mm} (h_l0 : sh l0 = 15) : SIM x F (fX5_here l0 M) 0 [(0, rf x.2.1 l0)] [] M := by
  unfold fX5_here
  refine r_aload_n X dX5_here_0 rfl 0 rfl ?_
  refine r_getR X fl_X5_21 (by decide) h_l0 dX5_here_1 (fun v1 h_v1 => ?_)
  refine r_callVI [] X mt_X5_199 (by decide) h_v1 (by decide) (okX4_isEmpty _ _ X.J h_v1) rfl (Nat.le_of_ble_eq_true rfl) dX5_here_4 rfl (fun v3 M2 => ?_)
  refine r_if_eq 13 X dX5_here_7 (by decide) ?_ ?_
  · refine r_aload_n X dX5_here_13 rfl 0 rfl ?_
    refine r_aload_n X dX5_here_14 rfl 0 rfl ?_
    refine r_getR X fl_X5_21 (by decide) h_l0 dX5_here_15 (fun v4 h_v4 => ?_)
    refine r_getI X fl_X5_184 (by decide) h_v4 dX5_here_18 (fun v5 => ?_)
    refine r_putI X fl_X5_61 (by decide) h_l0 (fun _ => rfl) (fun _ => rfl) dX5_here_21 (fun M6 => ?_)
    refine r_aload_n X dX5_here_24 rfl 0 rfl ?_
    refine r_getR X fl_X5_21 (by decide) h_l0 dX5_here_25 (fun v7 h_v7 => ?_)
    refine r_callVI [] X mt_X5_180 (by decide) h_v7 (by decide) (okX4_standing _ _ X.J h_v7) rfl (Nat.le_of_ble_eq_true rfl) dX5_here_28 rfl (fun v9 M8 => ?_)
    exact r_iret Hr rfl dX5_here_31
  · refine r_bipush (v := (-4)) X dX5_here_10 (by decide) ?_
    exact r_iret Hr rfl dX5_here_12
set_option maxRecDepth 100000 in
set_option maxHeartbeats 4000000 in
theorem okX5_here (l : Launch) (g : GX) (hJ : IJ g) {l0 : Nat} {M : Mm} (h_l0 : sh l0 = 15) : CT l g yX5_here cX5_here 1 (some .int) 1 [rf g l0] M (fX5_here l0 M) (fun r => some (.int r)) := by
  refine ct_I rfl hJ (Nat.le_of_ble_eq_true rfl) (fun x r hg hL hl X hf Hr => ?_)
  subst hg
  exact fun _ ls H locs hl hP hS => sX5_here_0 X hL Hr h_l0 ⟨_, hf, rfl⟩ ls H locs hl hP hS
/-! CrumbWood.home()I -/
set_option maxRecDepth 100000 in
noncomputable def fX5_home (l0 : Nat) (M : Mm) : Option (Int32 × Mm) := gfR M 14 l0 2 fun v1 => cal (fX4_isEmpty v1 M) fun v3 M2 => if v3 = 0 then gfR M2 11 l0 6 fun v4 => gfR M2 14 l0 2 fun v5 => cal (fX1_findsHome v4 v5 M2) fun v7 M6 => gfR M6 11 l0 6 fun v8 => gfI M6 v8 8 fun v9 => pfI M6 l0 10 v9 fun M10 => if v7 = 0 then some ((0, M10)) else some ((1, M10)) else some (((-4), M2))
set_option maxRecDepth 100000 in
set_option maxHeartbeats 4000000 in
theorem sX5_home_0 {x : SB} {F : (Int32 × Mm) → Prop} (X : CX x cX5_home RX5 4) (hL : x.2.2.2.1 = 2) (Hr : RTI x cX5_home .int F (fun q => q)) {l0 : Nat} {M : Mm} (h_l0 : sh l0 = 15) : SIM x F (fX5_home l0 M) 0 [(0, rf x.2.1 l0)] [] M := by
  unfold fX5_home
  refine r_aload_n X dX5_home_0 rfl 0 rfl ?_
  refine r_getR X fl_X5_21 (by decide) h_l0 dX5_home_1 (fun v1 h_v1 => ?_)
  refine r_callVI [] X mt_X5_199 (by decide) h_v1 (by decide) (okX4_isEmpty _ _ X.J h_v1) rfl (Nat.le_of_ble_eq_true rfl) dX5_home_4 rfl (fun v3 M2 => ?_)
  refine r_if_eq 13 X dX5_home_7 (by decide) ?_ ?_
  · refine r_aload_n X dX5_home_13 rfl 0 rfl ?_
    refine r_getR X fl_X5_42 (by decide) h_l0 dX5_home_14 (fun v4 h_v4 => ?_)
    refine r_aload_n X dX5_home_17 rfl 0 rfl ?_
    refine r_getR X fl_X5_21 (by decide) h_l0 dX5_home_18 (fun v5 h_v5 => ?_)
    refine r_callVI [rf x.2.1 v5] X mt_X5_212 (by decide) h_v4 (by decide) (okX1_findsHome _ _ X.J h_v4 h_v5) rfl (Nat.le_of_ble_eq_true rfl) dX5_home_21 rfl (fun v7 M6 => ?_)
    refine r_istore_n [(1, .int v7), (0, rf x.2.1 l0)] X dX5_home_24 rfl (nlt hL (by decide)) rfl ?_
    refine r_aload_n X dX5_home_25 rfl 1 rfl ?_
    refine r_aload_n X dX5_home_26 rfl 1 rfl ?_
    refine r_getR X fl_X5_42 (by decide) h_l0 dX5_home_27 (fun v8 h_v8 => ?_)
    refine r_getI X fl_X5_216 (by decide) h_v8 dX5_home_30 (fun v9 => ?_)
    refine r_putI X fl_X5_61 (by decide) h_l0 (fun _ => rfl) (fun _ => rfl) dX5_home_33 (fun M10 => ?_)
    refine r_iload_n X dX5_home_36 rfl 0 rfl ?_
    refine r_if_eq 44 X dX5_home_37 (by decide) ?_ ?_
    · refine r_iconst (v := 0) X dX5_home_44 (by decide) ?_
      exact r_iret Hr rfl dX5_home_45
    · refine r_iconst (v := 1) X dX5_home_40 (by decide) ?_
      refine r_goto 45 X dX5_home_41 (by decide) ?_
      exact r_iret Hr rfl dX5_home_45
  · refine r_bipush (v := (-4)) X dX5_home_10 (by decide) ?_
    exact r_iret Hr rfl dX5_home_12
set_option maxRecDepth 100000 in
set_option maxHeartbeats 4000000 in
theorem okX5_home (l : Launch) (g : GX) (hJ : IJ g) {l0 : Nat} {M : Mm} (h_l0 : sh l0 = 15) : CT l g yX5_home cX5_home 2 (some .int) 4 [rf g l0] M (fX5_home l0 M) (fun r => some (.int r)) := by
  refine ct_I rfl hJ (Nat.le_of_ble_eq_true rfl) (fun x r hg hL hl X hf Hr => ?_)
  subst hg
  exact fun _ ls H locs hl hP hS => sX5_home_0 X hL Hr h_l0 ⟨_, hf, rfl⟩ ls H locs hl hP hS
/-! CrumbWood.hours(I)I -/
set_option maxRecDepth 100000 in
noncomputable def fX5_hours (l0 : Nat) (l1 : Int32) (M : Mm) : Option (Int32 × Mm) := cal (fX5_isUpTo l1 40 M) fun v2 M1 => if v2 = 0 then some (((-1), M1)) else gfR M1 14 l0 2 fun v3 => cal (fX4_isEmpty v3 M1) fun v5 M4 => if v5 = 0 then gfR M4 14 l0 2 fun v6 => cal (fX4_passHours v6 l1 M4) fun v8 M7 => some ((v8, M7)) else some (((-4), M4))
set_option maxRecDepth 100000 in
set_option maxHeartbeats 4000000 in
theorem sX5_hours_0 {x : SB} {F : (Int32 × Mm) → Prop} (X : CX x cX5_hours RX5 4) (hL : x.2.2.2.1 = 2) (Hr : RTI x cX5_hours .int F (fun q => q)) {l0 : Nat} {l1 : Int32} {M : Mm} (h_l0 : sh l0 = 15) : SIM x F (fX5_hours l0 l1 M) 0 [(0, rf x.2.1 l0), (1, .int l1)] [] M := by
  unfold fX5_hours
  refine r_iload_n X dX5_hours_0 rfl 1 rfl ?_
  refine r_bipush (v := 40) X dX5_hours_1 (by decide) ?_
  refine r_callSI [.int l1, .int 40] X mt_X5_196 (by decide) (okX5_isUpTo _ _ X.J) rfl (Nat.le_of_ble_eq_true rfl) dX5_hours_3 rfl (fun v2 M1 => ?_)
  refine r_if_ne 11 X dX5_hours_6 (by decide) ?_ ?_
  · refine r_iconst (v := (-1)) X dX5_hours_9 (by decide) ?_
    exact r_iret Hr rfl dX5_hours_10
  · refine r_aload_n X dX5_hours_11 rfl 0 rfl ?_
    refine r_getR X fl_X5_21 (by decide) h_l0 dX5_hours_12 (fun v3 h_v3 => ?_)
    refine r_callVI [] X mt_X5_199 (by decide) h_v3 (by decide) (okX4_isEmpty _ _ X.J h_v3) rfl (Nat.le_of_ble_eq_true rfl) dX5_hours_15 rfl (fun v5 M4 => ?_)
    refine r_if_eq 24 X dX5_hours_18 (by decide) ?_ ?_
    · refine r_aload_n X dX5_hours_24 rfl 0 rfl ?_
      refine r_getR X fl_X5_21 (by decide) h_l0 dX5_hours_25 (fun v6 h_v6 => ?_)
      refine r_iload_n X dX5_hours_28 rfl 1 rfl ?_
      refine r_callVI [.int l1] X mt_X5_202 (by decide) h_v6 (by decide) (okX4_passHours _ _ X.J h_v6) rfl (Nat.le_of_ble_eq_true rfl) dX5_hours_29 rfl (fun v8 M7 => ?_)
      exact r_iret Hr rfl dX5_hours_32
    · refine r_bipush (v := (-4)) X dX5_hours_21 (by decide) ?_
      exact r_iret Hr rfl dX5_hours_23
set_option maxRecDepth 100000 in
set_option maxHeartbeats 4000000 in
theorem okX5_hours (l : Launch) (g : GX) (hJ : IJ g) {l0 : Nat} {l1 : Int32} {M : Mm} (h_l0 : sh l0 = 15) : CT l g yX5_hours cX5_hours 2 (some .int) 4 [rf g l0, .int l1] M (fX5_hours l0 l1 M) (fun r => some (.int r)) := by
  refine ct_I rfl hJ (Nat.le_of_ble_eq_true rfl) (fun x r hg hL hl X hf Hr => ?_)
  subst hg
  exact fun _ ls H locs hl hP hS => sX5_hours_0 X hL Hr h_l0 ⟨_, hf, rfl⟩ ls H locs hl hP hS
/-! CrumbWood.keep(I)I -/
set_option maxRecDepth 100000 in
noncomputable def fX5_keep (l0 : Nat) (l1 : Int32) (M : Mm) : Option (Int32 × Mm) := cal (fX5_isBelow l1 3 M) fun v2 M1 => if v2 = 0 then some (((-1), M1)) else gfR M1 14 l0 2 fun v3 => cal (fX4_isEmpty v3 M1) fun v5 M4 => if v5 = 0 then gfR M4 4 l0 3 fun v6 => ldR M4 14 v6 l1 fun v7 => gfR M4 14 l0 2 fun v8 => cal (fX4_become v7 v8 M4) fun _ M9 => gfR M9 14 l0 2 fun v10 => gfI M9 v10 2 fun v11 => some ((v11, M9)) else some (((-4), M4))
set_option maxRecDepth 100000 in
set_option maxHeartbeats 4000000 in
theorem sX5_keep_0 {x : SB} {F : (Int32 × Mm) → Prop} (X : CX x cX5_keep RX5 2) (hL : x.2.2.2.1 = 2) (Hr : RTI x cX5_keep .int F (fun q => q)) {l0 : Nat} {l1 : Int32} {M : Mm} (h_l0 : sh l0 = 15) : SIM x F (fX5_keep l0 l1 M) 0 [(0, rf x.2.1 l0), (1, .int l1)] [] M := by
  unfold fX5_keep
  refine r_iload_n X dX5_keep_0 rfl 1 rfl ?_
  refine r_iconst (v := 3) X dX5_keep_1 (by decide) ?_
  refine r_callSI [.int l1, .int 3] X mt_X5_74 (by decide) (okX5_isBelow _ _ X.J) rfl (Nat.le_of_ble_eq_true rfl) dX5_keep_2 rfl (fun v2 M1 => ?_)
  refine r_if_ne 10 X dX5_keep_5 (by decide) ?_ ?_
  · refine r_iconst (v := (-1)) X dX5_keep_8 (by decide) ?_
    exact r_iret Hr rfl dX5_keep_9
  · refine r_aload_n X dX5_keep_10 rfl 0 rfl ?_
    refine r_getR X fl_X5_21 (by decide) h_l0 dX5_keep_11 (fun v3 h_v3 => ?_)
    refine r_callVI [] X mt_X5_199 (by decide) h_v3 (by decide) (okX4_isEmpty _ _ X.J h_v3) rfl (Nat.le_of_ble_eq_true rfl) dX5_keep_14 rfl (fun v5 M4 => ?_)
    refine r_if_eq 23 X dX5_keep_17 (by decide) ?_ ?_
    · refine r_aload_n X dX5_keep_23 rfl 0 rfl ?_
      refine r_getR X fl_X5_25 (by decide) h_l0 dX5_keep_24 (fun v6 h_v6 => ?_)
      refine r_iload_n X dX5_keep_27 rfl 1 rfl ?_
      refine r_aldW X h_v6 dX5_keep_28 (fun v7 h_v7 => ?_)
      refine r_aload_n X dX5_keep_29 rfl 0 rfl ?_
      refine r_getR X fl_X5_21 (by decide) h_l0 dX5_keep_30 (fun v8 h_v8 => ?_)
      refine r_callVV [rf x.2.1 v8] X mt_X5_116 (by decide) h_v7 (by decide) (okX4_become _ _ X.J h_v7 h_v8) rfl (Nat.le_of_ble_eq_true rfl) dX5_keep_33 rfl (fun _ M9 => ?_)
      refine r_aload_n X dX5_keep_36 rfl 0 rfl ?_
      refine r_getR X fl_X5_21 (by decide) h_l0 dX5_keep_37 (fun v10 h_v10 => ?_)
      refine r_getI X fl_X5_184 (by decide) h_v10 dX5_keep_40 (fun v11 => ?_)
      exact r_iret Hr rfl dX5_keep_43
    · refine r_bipush (v := (-4)) X dX5_keep_20 (by decide) ?_
      exact r_iret Hr rfl dX5_keep_22
set_option maxRecDepth 100000 in
set_option maxHeartbeats 4000000 in
theorem okX5_keep (l : Launch) (g : GX) (hJ : IJ g) {l0 : Nat} {l1 : Int32} {M : Mm} (h_l0 : sh l0 = 15) : CT l g yX5_keep cX5_keep 2 (some .int) 2 [rf g l0, .int l1] M (fX5_keep l0 l1 M) (fun r => some (.int r)) := by
  refine ct_I rfl hJ (Nat.le_of_ble_eq_true rfl) (fun x r hg hL hl X hf Hr => ?_)
  subst hg
  exact fun _ ls H locs hl hP hS => sX5_keep_0 X hL Hr h_l0 ⟨_, hf, rfl⟩ ls H locs hl hP hS
/-! CrumbWood.lay(III)I -/
set_option maxRecDepth 100000 in
noncomputable def fX5_lay (l0 : Nat) (l1 : Int32) (l2 : Int32) (l3 : Int32) (M : Mm) : Option (Int32 × Mm) := cal (fX5_isBelow l1 6 M) fun v2 M1 => if v2 = 0 then some (((-1), M1)) else gfR M1 3 l0 0 fun v3 => ldR M1 12 v3 l1 fun v4 => cal (fX2_lackOf v4 l2 M1) fun v6 M5 => if v6 = 0 then gfR M5 3 l0 0 fun v7 => ldR M5 12 v7 l1 fun v8 => gfR M5 0 v8 0 fun v9 => ldI M5 v9 l2 fun v10 => pfI M5 l0 10 v10 fun M11 => gfR M11 3 l0 0 fun v12 => ldR M11 12 v12 l1 fun v13 => gfR M11 0 v13 0 fun v14 => stI M11 v14 l2 l3 fun M15 => some ((1, M15)) else cal (fX5_refuse l0 v6 M5) fun v17 M16 => some ((v17, M16))
set_option maxRecDepth 100000 in
set_option maxHeartbeats 4000000 in
theorem sX5_lay_0 {x : SB} {F : (Int32 × Mm) → Prop} (X : CX x cX5_lay RX5 2) (hL : x.2.2.2.1 = 5) (Hr : RTI x cX5_lay .int F (fun q => q)) {l0 : Nat} {l1 : Int32} {l2 : Int32} {l3 : Int32} {M : Mm} (h_l0 : sh l0 = 15) : SIM x F (fX5_lay l0 l1 l2 l3 M) 0 [(0, rf x.2.1 l0), (1, .int l1), (2, .int l2), (3, .int l3)] [] M := by
  unfold fX5_lay
  refine r_iload_n X dX5_lay_0 rfl 1 rfl ?_
  refine r_bipush (v := 6) X dX5_lay_1 (by decide) ?_
  refine r_callSI [.int l1, .int 6] X mt_X5_74 (by decide) (okX5_isBelow _ _ X.J) rfl (Nat.le_of_ble_eq_true rfl) dX5_lay_3 rfl (fun v2 M1 => ?_)
  refine r_if_ne 11 X dX5_lay_6 (by decide) ?_ ?_
  · refine r_iconst (v := (-1)) X dX5_lay_9 (by decide) ?_
    exact r_iret Hr rfl dX5_lay_10
  · refine r_aload_n X dX5_lay_11 rfl 0 rfl ?_
    refine r_getR X fl_X5_11 (by decide) h_l0 dX5_lay_12 (fun v3 h_v3 => ?_)
    refine r_iload_n X dX5_lay_15 rfl 1 rfl ?_
    refine r_aldS X h_v3 dX5_lay_16 (fun v4 h_v4 => ?_)
    refine r_iload_n X dX5_lay_17 rfl 2 rfl ?_
    refine r_callVI [.int l2] X mt_X5_86 (by decide) h_v4 (by decide) (okX2_lackOf _ _ X.J h_v4) rfl (Nat.le_of_ble_eq_true rfl) dX5_lay_18 rfl (fun v6 M5 => ?_)
    refine r_istore [(4, .int v6), (0, rf x.2.1 l0), (1, .int l1), (2, .int l2), (3, .int l3)] X dX5_lay_21 (nlt hL (by decide)) rfl ?_
    refine r_iload X dX5_lay_23 0 rfl ?_
    refine r_if_eq 35 X dX5_lay_25 (by decide) ?_ ?_
    · refine r_aload_n X dX5_lay_35 rfl 1 rfl ?_
      refine r_aload_n X dX5_lay_36 rfl 1 rfl ?_
      refine r_getR X fl_X5_11 (by decide) h_l0 dX5_lay_37 (fun v7 h_v7 => ?_)
      refine r_iload_n X dX5_lay_40 rfl 2 rfl ?_
      refine r_aldS X h_v7 dX5_lay_41 (fun v8 h_v8 => ?_)
      refine r_getR X fl_X5_89 (by decide) h_v8 dX5_lay_42 (fun v9 h_v9 => ?_)
      refine r_iload_n X dX5_lay_45 rfl 3 rfl ?_
      refine r_iald X h_v9 dX5_lay_46 (fun v10 => ?_)
      refine r_putI X fl_X5_61 (by decide) h_l0 (fun _ => rfl) (fun _ => rfl) dX5_lay_47 (fun M11 => ?_)
      refine r_aload_n X dX5_lay_50 rfl 1 rfl ?_
      refine r_getR X fl_X5_11 (by decide) h_l0 dX5_lay_51 (fun v12 h_v12 => ?_)
      refine r_iload_n X dX5_lay_54 rfl 2 rfl ?_
      refine r_aldS X h_v12 dX5_lay_55 (fun v13 h_v13 => ?_)
      refine r_getR X fl_X5_89 (by decide) h_v13 dX5_lay_56 (fun v14 h_v14 => ?_)
      refine r_iload_n X dX5_lay_59 rfl 3 rfl ?_
      refine r_iload_n X dX5_lay_60 rfl 4 rfl ?_
      refine r_iast X h_v14 dX5_lay_61 (fun M15 => ?_)
      refine r_iconst (v := 1) X dX5_lay_62 (by decide) ?_
      exact r_iret Hr rfl dX5_lay_63
    · refine r_aload_n X dX5_lay_28 rfl 1 rfl ?_
      refine r_iload X dX5_lay_29 0 rfl ?_
      refine r_callVI [.int v6] X mt_X5_78 (by decide) h_l0 (by decide) (okX5_refuse _ _ X.J h_l0) rfl (Nat.le_of_ble_eq_true rfl) dX5_lay_31 rfl (fun v17 M16 => ?_)
      exact r_iret Hr rfl dX5_lay_34
set_option maxRecDepth 100000 in
set_option maxHeartbeats 4000000 in
theorem okX5_lay (l : Launch) (g : GX) (hJ : IJ g) {l0 : Nat} {l1 : Int32} {l2 : Int32} {l3 : Int32} {M : Mm} (h_l0 : sh l0 = 15) : CT l g yX5_lay cX5_lay 5 (some .int) 2 [rf g l0, .int l1, .int l2, .int l3] M (fX5_lay l0 l1 l2 l3 M) (fun r => some (.int r)) := by
  refine ct_I rfl hJ (Nat.le_of_ble_eq_true rfl) (fun x r hg hL hl X hf Hr => ?_)
  subst hg
  exact fun _ ls H locs hl hP hS => sX5_lay_0 X hL Hr h_l0 ⟨_, hf, rfl⟩ ls H locs hl hP hS
/-! CrumbWood$Wood.stepTo(I)V -/
set_option maxRecDepth 100000 in
noncomputable def fX4_stepTo (l0 : Nat) (l1 : Int32) (M : Mm) : Option (Unit × Mm) := gfI M l0 2 fun v1 => if 30 ≤ v1 then some (((), M)) else gfI M l0 2 fun v2 => pfI M l0 2 (v2 + 1) fun M3 => gfR M3 0 l0 10 fun v4 => gfI M3 l0 2 fun v5 => stI M3 v4 v5 l1 fun M6 => some (((), M6))
set_option maxRecDepth 100000 in
set_option maxHeartbeats 4000000 in
theorem sX4_stepTo_0 {x : SB} {F : (Unit × Mm) → Prop} (X : CX x cX4_stepTo RX4 0) (hL : x.2.2.2.1 = 2) (Hr : RTV x cX4_stepTo F (fun q => q)) {l0 : Nat} {l1 : Int32} {M : Mm} (h_l0 : sh l0 = 14) : SIM x F (fX4_stepTo l0 l1 M) 0 [(0, rf x.2.1 l0), (1, .int l1)] [] M := by
  unfold fX4_stepTo
  refine r_aload_n X dX4_stepTo_0 rfl 0 rfl ?_
  refine r_getI X fl_X4_18 (by decide) h_l0 dX4_stepTo_1 (fun v1 => ?_)
  refine r_bipush (v := 30) X dX4_stepTo_4 (by decide) ?_
  refine r_icmp_ge 29 X dX4_stepTo_6 (by decide) ?_ ?_
  · exact r_vret Hr dX4_stepTo_29
  · refine r_aload_n X dX4_stepTo_9 rfl 0 rfl ?_
    refine r_dup X dX4_stepTo_10 rfl ?_
    refine r_getI X fl_X4_18 (by decide) h_l0 dX4_stepTo_11 (fun v2 => ?_)
    refine r_iconst (v := 1) X dX4_stepTo_14 (by decide) ?_
    refine r_iadd X dX4_stepTo_15 ?_
    refine r_putI X fl_X4_18 (by decide) h_l0 (fun _ => rfl) (fun _ => rfl) dX4_stepTo_16 (fun M3 => ?_)
    refine r_aload_n X dX4_stepTo_19 rfl 0 rfl ?_
    refine r_getR X fl_X4_45 (by decide) h_l0 dX4_stepTo_20 (fun v4 h_v4 => ?_)
    refine r_aload_n X dX4_stepTo_23 rfl 0 rfl ?_
    refine r_getI X fl_X4_18 (by decide) h_l0 dX4_stepTo_24 (fun v5 => ?_)
    refine r_iload_n X dX4_stepTo_27 rfl 1 rfl ?_
    refine r_iast X h_v4 dX4_stepTo_28 (fun M6 => ?_)
    exact r_vret Hr dX4_stepTo_29
set_option maxRecDepth 100000 in
set_option maxHeartbeats 4000000 in
theorem okX4_stepTo (l : Launch) (g : GX) (hJ : IJ g) {l0 : Nat} {l1 : Int32} {M : Mm} (h_l0 : sh l0 = 14) : CT l g yX4_stepTo cX4_stepTo 2 none 0 [rf g l0, .int l1] M (fX4_stepTo l0 l1 M) (fun _ => none) := by
  refine ct_V rfl hJ (Nat.le_of_ble_eq_true rfl) (fun x r hg hL hl X hf Hr => ?_)
  subst hg
  exact fun _ ls H locs hl hP hS => sX4_stepTo_0 X hL Hr h_l0 ⟨_, hf, rfl⟩ ls H locs hl hP hS
/-! CrumbWood.lead(I)I -/
set_option maxRecDepth 100000 in
noncomputable def fX5_lead (l0 : Nat) (l1 : Int32) (M : Mm) : Option (Int32 × Mm) := gfR M 14 l0 2 fun v1 => cal (fX4_hasPlace v1 l1 M) fun v3 M2 => if v3 = 0 then some (((-1), M2)) else gfR M2 14 l0 2 fun v4 => gfR M2 14 l0 2 fun v5 => cal (fX4_standing v5 M2) fun v7 M6 => cal (fX4_isBeside v4 v7 l1 M6) fun v9 M8 => if v9 = 0 then some (((-4), M8)) else gfR M8 14 l0 2 fun v10 => gfI M8 v10 2 fun v11 => if v11 < 30 then gfR M8 14 l0 2 fun v12 => cal (fX4_stepTo v12 l1 M8) fun _ M13 => gfR M13 14 l0 2 fun v14 => gfI M13 v14 2 fun v15 => some ((v15, M13)) else some (((-2), M8))
set_option maxRecDepth 100000 in
set_option maxHeartbeats 4000000 in
theorem sX5_lead_0 {x : SB} {F : (Int32 × Mm) → Prop} (X : CX x cX5_lead RX5 2) (hL : x.2.2.2.1 = 2) (Hr : RTI x cX5_lead .int F (fun q => q)) {l0 : Nat} {l1 : Int32} {M : Mm} (h_l0 : sh l0 = 15) : SIM x F (fX5_lead l0 l1 M) 0 [(0, rf x.2.1 l0), (1, .int l1)] [] M := by
  unfold fX5_lead
  refine r_aload_n X dX5_lead_0 rfl 0 rfl ?_
  refine r_getR X fl_X5_21 (by decide) h_l0 dX5_lead_1 (fun v1 h_v1 => ?_)
  refine r_iload_n X dX5_lead_4 rfl 1 rfl ?_
  refine r_callVI [.int l1] X mt_X5_123 (by decide) h_v1 (by decide) (okX4_hasPlace _ _ X.J h_v1) rfl (Nat.le_of_ble_eq_true rfl) dX5_lead_5 rfl (fun v3 M2 => ?_)
  refine r_if_ne 13 X dX5_lead_8 (by decide) ?_ ?_
  · refine r_iconst (v := (-1)) X dX5_lead_11 (by decide) ?_
    exact r_iret Hr rfl dX5_lead_12
  · refine r_aload_n X dX5_lead_13 rfl 0 rfl ?_
    refine r_getR X fl_X5_21 (by decide) h_l0 dX5_lead_14 (fun v4 h_v4 => ?_)
    refine r_aload_n X dX5_lead_17 rfl 0 rfl ?_
    refine r_getR X fl_X5_21 (by decide) h_l0 dX5_lead_18 (fun v5 h_v5 => ?_)
    refine r_callVI [] X mt_X5_180 (by decide) h_v5 (by decide) (okX4_standing _ _ X.J h_v5) rfl (Nat.le_of_ble_eq_true rfl) dX5_lead_21 rfl (fun v7 M6 => ?_)
    refine r_iload_n X dX5_lead_24 rfl 1 rfl ?_
    refine r_callVI [.int v7, .int l1] X mt_X5_161 (by decide) h_v4 (by decide) (okX4_isBeside _ _ X.J h_v4) rfl (Nat.le_of_ble_eq_true rfl) dX5_lead_25 rfl (fun v9 M8 => ?_)
    refine r_if_ne 34 X dX5_lead_28 (by decide) ?_ ?_
    · refine r_bipush (v := (-4)) X dX5_lead_31 (by decide) ?_
      exact r_iret Hr rfl dX5_lead_33
    · refine r_aload_n X dX5_lead_34 rfl 0 rfl ?_
      refine r_getR X fl_X5_21 (by decide) h_l0 dX5_lead_35 (fun v10 h_v10 => ?_)
      refine r_getI X fl_X5_184 (by decide) h_v10 dX5_lead_38 (fun v11 => ?_)
      refine r_bipush (v := 30) X dX5_lead_41 (by decide) ?_
      refine r_icmp_lt 49 X dX5_lead_43 (by decide) ?_ ?_
      · refine r_aload_n X dX5_lead_49 rfl 0 rfl ?_
        refine r_getR X fl_X5_21 (by decide) h_l0 dX5_lead_50 (fun v12 h_v12 => ?_)
        refine r_iload_n X dX5_lead_53 rfl 1 rfl ?_
        refine r_callVV [.int l1] X mt_X5_187 (by decide) h_v12 (by decide) (okX4_stepTo _ _ X.J h_v12) rfl (Nat.le_of_ble_eq_true rfl) dX5_lead_54 rfl (fun _ M13 => ?_)
        refine r_aload_n X dX5_lead_57 rfl 0 rfl ?_
        refine r_getR X fl_X5_21 (by decide) h_l0 dX5_lead_58 (fun v14 h_v14 => ?_)
        refine r_getI X fl_X5_184 (by decide) h_v14 dX5_lead_61 (fun v15 => ?_)
        exact r_iret Hr rfl dX5_lead_64
      · refine r_bipush (v := (-2)) X dX5_lead_46 (by decide) ?_
        exact r_iret Hr rfl dX5_lead_48
set_option maxRecDepth 100000 in
set_option maxHeartbeats 4000000 in
theorem okX5_lead (l : Launch) (g : GX) (hJ : IJ g) {l0 : Nat} {l1 : Int32} {M : Mm} (h_l0 : sh l0 = 15) : CT l g yX5_lead cX5_lead 2 (some .int) 2 [rf g l0, .int l1] M (fX5_lead l0 l1 M) (fun r => some (.int r)) := by
  refine ct_I rfl hJ (Nat.le_of_ble_eq_true rfl) (fun x r hg hL hl X hf Hr => ?_)
  subst hg
  exact fun _ ls H locs hl hP hS => sX5_lead_0 X hL Hr h_l0 ⟨_, hf, rfl⟩ ls H locs hl hP hS
/-! CrumbWood.led(I)I -/
set_option maxRecDepth 100000 in
noncomputable def fX5_led (l0 : Nat) (l1 : Int32) (M : Mm) : Option (Int32 × Mm) := cal (fX5_isBelow l1 6 M) fun v2 M1 => if v2 = 0 then some (((-1), M1)) else gfR M1 14 l0 2 fun v3 => cal (fX4_isEmpty v3 M1) fun v5 M4 => if v5 = 0 then gfR M4 3 l0 0 fun v6 => ldR M4 12 v6 l1 fun v7 => gfR M4 14 l0 2 fun v8 => gfR M4 0 v8 10 fun v9 => gfR M4 14 l0 2 fun v10 => gfI M4 v10 2 fun v11 => cal (fX2_fillFrom v7 v9 (v11 + 1) M4) fun v13 M12 => some ((v13, M12)) else some (((-4), M4))
set_option maxRecDepth 100000 in
set_option maxHeartbeats 4000000 in
theorem sX5_led_0 {x : SB} {F : (Int32 × Mm) → Prop} (X : CX x cX5_led RX5 2) (hL : x.2.2.2.1 = 2) (Hr : RTI x cX5_led .int F (fun q => q)) {l0 : Nat} {l1 : Int32} {M : Mm} (h_l0 : sh l0 = 15) : SIM x F (fX5_led l0 l1 M) 0 [(0, rf x.2.1 l0), (1, .int l1)] [] M := by
  unfold fX5_led
  refine r_iload_n X dX5_led_0 rfl 1 rfl ?_
  refine r_bipush (v := 6) X dX5_led_1 (by decide) ?_
  refine r_callSI [.int l1, .int 6] X mt_X5_74 (by decide) (okX5_isBelow _ _ X.J) rfl (Nat.le_of_ble_eq_true rfl) dX5_led_3 rfl (fun v2 M1 => ?_)
  refine r_if_ne 11 X dX5_led_6 (by decide) ?_ ?_
  · refine r_iconst (v := (-1)) X dX5_led_9 (by decide) ?_
    exact r_iret Hr rfl dX5_led_10
  · refine r_aload_n X dX5_led_11 rfl 0 rfl ?_
    refine r_getR X fl_X5_21 (by decide) h_l0 dX5_led_12 (fun v3 h_v3 => ?_)
    refine r_callVI [] X mt_X5_199 (by decide) h_v3 (by decide) (okX4_isEmpty _ _ X.J h_v3) rfl (Nat.le_of_ble_eq_true rfl) dX5_led_15 rfl (fun v5 M4 => ?_)
    refine r_if_eq 24 X dX5_led_18 (by decide) ?_ ?_
    · refine r_aload_n X dX5_led_24 rfl 0 rfl ?_
      refine r_getR X fl_X5_11 (by decide) h_l0 dX5_led_25 (fun v6 h_v6 => ?_)
      refine r_iload_n X dX5_led_28 rfl 1 rfl ?_
      refine r_aldS X h_v6 dX5_led_29 (fun v7 h_v7 => ?_)
      refine r_aload_n X dX5_led_30 rfl 0 rfl ?_
      refine r_getR X fl_X5_21 (by decide) h_l0 dX5_led_31 (fun v8 h_v8 => ?_)
      refine r_getR X fl_X5_205 (by decide) h_v8 dX5_led_34 (fun v9 h_v9 => ?_)
      refine r_aload_n X dX5_led_37 rfl 0 rfl ?_
      refine r_getR X fl_X5_21 (by decide) h_l0 dX5_led_38 (fun v10 h_v10 => ?_)
      refine r_getI X fl_X5_184 (by decide) h_v10 dX5_led_41 (fun v11 => ?_)
      refine r_iconst (v := 1) X dX5_led_44 (by decide) ?_
      refine r_iadd X dX5_led_45 ?_
      refine r_callVI [rf x.2.1 v9, .int (v11 + 1)] X mt_X5_208 (by decide) h_v7 (by decide) (okX2_fillFrom _ _ X.J h_v7 h_v9) rfl (Nat.le_of_ble_eq_true rfl) dX5_led_46 rfl (fun v13 M12 => ?_)
      exact r_iret Hr rfl dX5_led_49
    · refine r_bipush (v := (-4)) X dX5_led_21 (by decide) ?_
      exact r_iret Hr rfl dX5_led_23
set_option maxRecDepth 100000 in
set_option maxHeartbeats 4000000 in
theorem okX5_led (l : Launch) (g : GX) (hJ : IJ g) {l0 : Nat} {l1 : Int32} {M : Mm} (h_l0 : sh l0 = 15) : CT l g yX5_led cX5_led 2 (some .int) 2 [rf g l0, .int l1] M (fX5_led l0 l1 M) (fun r => some (.int r)) := by
  refine ct_I rfl hJ (Nat.le_of_ble_eq_true rfl) (fun x r hg hL hl X hf Hr => ?_)
  subst hg
  exact fun _ ls H locs hl hP hS => sX5_led_0 X hL Hr h_l0 ⟨_, hf, rfl⟩ ls H locs hl hP hS
/-! CrumbWood.member(II)I -/
set_option maxRecDepth 100000 in
def pX5_member (x : SB) (q : Nat × Int32 × Int32 × Int32 × Mm) : Prop := match q.1 with
  | 1 => ∀ (ls : Array Slot) (H : Heap) (locs : List Loc), lv_has ls x.2.2.2.1 [(1, .int q.2.1), (2, .int q.2.2.1), (3, .int q.2.2.2.1)] → PW x.2.1 (q.2.2.2.2) H → SH x H locs → SW x H locs 4 ls []
  | _ => True
set_option maxRecDepth 100000 in
noncomputable def bX5_member_4 (l1 : Int32) (l2 : Int32) (l3 : Int32) (M : Mm) : Option ((Nat × Int32 × Int32 × Int32 × Mm) ⊕ Int32 × Mm) := if l1 ≤ l3 then cal (fX5_least l2 M) fun v2 M1 => some (.inr (v2, M1)) else ltI (l2 &&& (l2 - 1)) fun v3 => some (.inl (1, l1, v3, (l3 + 1), M))
set_option maxRecDepth 100000 in
set_option maxHeartbeats 4000000 in
theorem sX5_member_4 {x : SB} {F : ((Nat × Int32 × Int32 × Int32 × Mm) ⊕ Int32 × Mm) → Prop} (X : CX x cX5_member RX5 2) (hL : x.2.2.2.1 = 4) (Hr : RTI x cX5_member .int F Sum.inr) (HH : ∀ q, F (.inl q) → pX5_member x q) {l1 : Int32} {l2 : Int32} {l3 : Int32} {M : Mm}  : SIM x F (bX5_member_4 l1 l2 l3 M) 4 [(1, .int l1), (2, .int l2), (3, .int l3)] [] M := by
  unfold bX5_member_4
  refine r_iload_n X dX5_member_4 rfl 2 rfl ?_
  refine r_iload_n X dX5_member_5 rfl 0 rfl ?_
  refine r_icmp_ge 21 X dX5_member_6 (by decide) ?_ ?_
  · refine r_iload_n X dX5_member_21 rfl 1 rfl ?_
    refine r_callSI [.int l2] X mt_X5_301 (by decide) (okX5_least _ _ X.J) rfl (Nat.le_of_ble_eq_true rfl) dX5_member_22 rfl (fun v2 M1 => ?_)
    exact r_iret Hr rfl dX5_member_25
  · refine r_iload_n X dX5_member_9 rfl 1 rfl ?_
    refine r_iload_n X dX5_member_10 rfl 1 rfl ?_
    refine r_iconst (v := 1) X dX5_member_11 (by decide) ?_
    refine r_isub X dX5_member_12 ?_
    refine r_iand X dX5_member_13 ?_
    refine r_letI (fun v3 => ?_)
    refine r_istore_n [(2, .int v3), (1, .int l1), (3, .int l3)] X dX5_member_14 rfl (nlt hL (by decide)) rfl ?_
    refine r_iinc [(3, .int (l3 + 1)), (2, .int v3), (1, .int l1)] X dX5_member_15 2 rfl rfl (nlt hL (by decide)) rfl ?_
    refine r_goto 4 X dX5_member_18 (by decide) ?_
    exact r_hdr [(1, .int l1), (2, .int v3), (3, .int (l3 + 1))] [2, 1, 0] rfl (fun h => HH _ h)
set_option maxRecDepth 100000 in
noncomputable def bX5_member_0 (l0 : Int32) (l1 : Int32) (M : Mm) : Option ((Nat × Int32 × Int32 × Int32 × Mm) ⊕ Int32 × Mm) := some (.inl (1, l1, l0, 0, M))
set_option maxRecDepth 100000 in
set_option maxHeartbeats 4000000 in
theorem sX5_member_0 {x : SB} {F : ((Nat × Int32 × Int32 × Int32 × Mm) ⊕ Int32 × Mm) → Prop} (X : CX x cX5_member RX5 2) (hL : x.2.2.2.1 = 4) (Hr : RTI x cX5_member .int F Sum.inr) (HH : ∀ q, F (.inl q) → pX5_member x q) {l0 : Int32} {l1 : Int32} {M : Mm}  : SIM x F (bX5_member_0 l0 l1 M) 0 [(0, .int l0), (1, .int l1)] [] M := by
  unfold bX5_member_0
  refine r_iload_n X dX5_member_0 rfl 0 rfl ?_
  refine r_istore_n [(2, .int l0), (0, .int l0), (1, .int l1)] X dX5_member_1 rfl (nlt hL (by decide)) rfl ?_
  refine r_iconst (v := 0) X dX5_member_2 (by decide) ?_
  refine r_istore_n [(3, .int 0), (2, .int l0), (0, .int l0), (1, .int l1)] X dX5_member_3 rfl (nlt hL (by decide)) rfl ?_
  exact r_hdr [(1, .int l1), (2, .int l0), (3, .int 0)] [3, 1, 0] rfl (fun h => HH _ h)
set_option maxRecDepth 100000 in
noncomputable def gX5_member (q : Nat × Int32 × Int32 × Int32 × Mm) : Option ((Nat × Int32 × Int32 × Int32 × Mm) ⊕ Int32 × Mm) := match q.1 with
  | 1 => bX5_member_4 (q.2.1) (q.2.2.1) (q.2.2.2.1) (q.2.2.2.2)
  | _ => none
set_option maxRecDepth 100000 in
noncomputable def fX5_member (l0 : Int32) (l1 : Int32) (M : Mm) : Option (Int32 × Mm) := fen gX5_member (bX5_member_0 l0 l1 M)
set_option maxRecDepth 100000 in
set_option maxHeartbeats 4000000 in
theorem okX5_member (l : Launch) (g : GX) (hJ : IJ g) {l0 : Int32} {l1 : Int32} {M : Mm}  : CT l g yX5_member cX5_member 4 (some .int) 2 [.int l0, .int l1] M (fX5_member l0 l1 M) (fun r => some (.int r)) := by
  refine ct_I rfl hJ (Nat.le_of_ble_eq_true rfl) (fun x r hg hL hl X hf Hr => ?_)
  subst hg
  have Hr2 : RTI x cX5_member .int (Sum.elim (pX5_member x) (fun q => q = r)) Sum.inr := fun v M h => Hr v M h
  have HP : ∀ q, fnl gX5_member q = some r → pX5_member x q := by
    intro q hq
    refine fnl_ind (pX5_member x) (fun q hq => ?_) hq
    obtain ⟨n, l1, l2, l3, M⟩ := q
    match n, hq with
    | 1, hq => exact fun ls H locs hl hP hS => sX5_member_4 X hL Hr2 (fun _ h => h)  hq ls H locs hl hP hS
    | 0, hq => exact trivial
    | n + 2, hq => exact trivial
  exact fun _ ls H locs hl hP hS => sX5_member_0 X hL Hr2 (fun _ h => h) (fen_w hf HP) ls H locs hl hP hS
/-! CrumbWood.lots(II)I -/
set_option maxRecDepth 100000 in
def pX5_lots (x : SB) (q : Nat × Nat × Int32 × Int64 × Int32 × Mm) : Prop := match q.1 with
  | 1 => sh q.2.1 = 15 → ∀ (ls : Array Slot) (H : Heap) (locs : List Loc), lv_has ls x.2.2.2.1 [(0, rf x.2.1 q.2.1), (1, .int q.2.2.1), (3, .long q.2.2.2.1), (5, .int q.2.2.2.2.1)] → PW x.2.1 (q.2.2.2.2.2) H → SH x H locs → SW x H locs 61 ls []
  | _ => True
set_option maxRecDepth 100000 in
noncomputable def bX5_lots_157 (l0 : Nat) (l1 : Int32) (l3 : Int64) (l5 : Int32) (M : Mm) : Option ((Nat × Nat × Int32 × Int64 × Int32 × Mm) ⊕ Int32 × Mm) := some (.inl (1, l0, l1, l3, (l5 + 1), M))
set_option maxRecDepth 100000 in
set_option maxHeartbeats 4000000 in
theorem sX5_lots_157 {x : SB} {F : ((Nat × Nat × Int32 × Int64 × Int32 × Mm) ⊕ Int32 × Mm) → Prop} (X : CX x cX5_lots RX5 3) (hL : x.2.2.2.1 = 7) (Hr : RTI x cX5_lots .int F Sum.inr) (HH : ∀ q, F (.inl q) → pX5_lots x q) {l0 : Nat} {l1 : Int32} {l3 : Int64} {l5 : Int32} {M : Mm} (h_l0 : sh l0 = 15) : SIM x F (bX5_lots_157 l0 l1 l3 l5 M) 157 [(0, rf x.2.1 l0), (1, .int l1), (3, .long l3), (5, .int l5)] [] M := by
  unfold bX5_lots_157
  refine r_iinc [(5, .int (l5 + 1)), (0, rf x.2.1 l0), (1, .int l1), (3, .long l3)] X dX5_lots_157 3 rfl rfl (nlt hL (by decide)) rfl ?_
  refine r_goto 61 X dX5_lots_160 (by decide) ?_
  exact r_hdr [(0, rf x.2.1 l0), (1, .int l1), (3, .long l3), (5, .int (l5 + 1))] [1, 2, 3, 0] rfl (fun h => HH _ h h_l0)
set_option maxRecDepth 100000 in
noncomputable def bX5_lots_61 (l0 : Nat) (l1 : Int32) (l3 : Int64) (l5 : Int32) (M : Mm) : Option ((Nat × Nat × Int32 × Int64 × Int32 × Mm) ⊕ Int32 × Mm) := if l1 ≤ l5 then some (.inr (l1, M)) else gfR M 14 l0 2 fun v1 => gfR M 0 v1 5 fun v2 => gfR M 14 l0 2 fun v3 => cal (fX4_standing v3 M) fun v5 M4 => ldI M4 v2 v5 fun v6 => if v6 = 0 then some (.inr (l5, M4)) else rmJ (l3 * 48271) 2147483647 fun v7 => gfR M4 14 l0 2 fun v8 => cal (fJ6_bitCount_0f7a4 v6 M4) fun v10 M9 => rmJ v7 ((v10 : Int32).toInt64) fun v11 => cal (fX5_member v6 ((v11 : Int64).toInt32) M9) fun v13 M12 => cal (fX4_stepTo v8 v13 M12) fun _ M14 => dvJ v7 64 fun v15 => rmJ v15 2 fun v16 => if (lg_cmp v16 1) = 0 then gfR M14 14 l0 2 fun v17 => gfR M14 0 v17 9 fun v18 => ldI M14 v18 0 fun v19 => if v19 ≤ 0 then bX5_lots_157 l0 l1 v7 l5 M14 else gfR M14 14 l0 2 fun v20 => cal (fX4_dropHere v20 0 M14) fun _ M21 => bX5_lots_157 l0 l1 v7 l5 M21 else bX5_lots_157 l0 l1 v7 l5 M14
set_option maxRecDepth 100000 in
set_option maxHeartbeats 4000000 in
theorem sX5_lots_61 {x : SB} {F : ((Nat × Nat × Int32 × Int64 × Int32 × Mm) ⊕ Int32 × Mm) → Prop} (X : CX x cX5_lots RX5 3) (hL : x.2.2.2.1 = 7) (Hr : RTI x cX5_lots .int F Sum.inr) (HH : ∀ q, F (.inl q) → pX5_lots x q) {l0 : Nat} {l1 : Int32} {l3 : Int64} {l5 : Int32} {M : Mm} (h_l0 : sh l0 = 15) : SIM x F (bX5_lots_61 l0 l1 l3 l5 M) 61 [(0, rf x.2.1 l0), (1, .int l1), (3, .long l3), (5, .int l5)] [] M := by
  unfold bX5_lots_61
  refine r_iload X dX5_lots_61 3 rfl ?_
  refine r_iload_n X dX5_lots_63 rfl 1 rfl ?_
  refine r_icmp_ge 163 X dX5_lots_64 (by decide) ?_ ?_
  · refine r_iload_n X dX5_lots_163 rfl 1 rfl ?_
    exact r_iret Hr rfl dX5_lots_164
  · refine r_aload_n X dX5_lots_67 rfl 0 rfl ?_
    refine r_getR X fl_X5_21 (by decide) h_l0 dX5_lots_68 (fun v1 h_v1 => ?_)
    refine r_getR X fl_X5_150 (by decide) h_v1 dX5_lots_71 (fun v2 h_v2 => ?_)
    refine r_aload_n X dX5_lots_74 rfl 0 rfl ?_
    refine r_getR X fl_X5_21 (by decide) h_l0 dX5_lots_75 (fun v3 h_v3 => ?_)
    refine r_callVI [] X mt_X5_180 (by decide) h_v3 (by decide) (okX4_standing _ _ X.J h_v3) rfl (Nat.le_of_ble_eq_true rfl) dX5_lots_78 rfl (fun v5 M4 => ?_)
    refine r_iald X h_v2 dX5_lots_81 (fun v6 => ?_)
    refine r_istore [(6, .int v6), (0, rf x.2.1 l0), (1, .int l1), (3, .long l3), (5, .int l5)] X dX5_lots_82 (nlt hL (by decide)) rfl ?_
    refine r_iload X dX5_lots_84 0 rfl ?_
    refine r_if_ne 92 X dX5_lots_86 (by decide) ?_ ?_
    · refine r_iload X dX5_lots_89 4 rfl ?_
      exact r_iret Hr rfl dX5_lots_91
    · refine r_lload_n X dX5_lots_92 rfl 3 rfl ?_
      refine r_ldc2 X dX5_lots_93 k_710 ?_
      refine r_lmul X dX5_lots_96 ?_
      refine r_ldc2 X dX5_lots_97 k_711 ?_
      refine r_lrem X dX5_lots_100 (fun v7 => ?_)
      refine r_lstore_n [(3, .long v7), (6, .int v6), (0, rf x.2.1 l0), (1, .int l1), (5, .int l5)] X dX5_lots_101 rfl (nlt hL (by decide)) rfl ?_
      refine r_aload_n X dX5_lots_102 rfl 2 rfl ?_
      refine r_getR X fl_X5_21 (by decide) h_l0 dX5_lots_103 (fun v8 h_v8 => ?_)
      refine r_iload X dX5_lots_106 1 rfl ?_
      refine r_lload_n X dX5_lots_108 rfl 0 rfl ?_
      refine r_iload X dX5_lots_109 1 rfl ?_
      refine r_callSI [.int v6] X mt_X5_156 (by decide) (okJ6_bitCount_0f7a4 _ _ X.J) rfl (Nat.le_of_ble_eq_true rfl) dX5_lots_111 rfl (fun v10 M9 => ?_)
      refine r_i2l X dX5_lots_114 ?_
      refine r_lrem X dX5_lots_115 (fun v11 => ?_)
      refine r_l2i X dX5_lots_116 ?_
      refine r_callSI [.int v6, .int ((v11 : Int64).toInt32)] X mt_X5_272 (by decide) (okX5_member _ _ X.J) rfl (Nat.le_of_ble_eq_true rfl) dX5_lots_117 rfl (fun v13 M12 => ?_)
      refine r_callVV [.int v13] X mt_X5_187 (by decide) h_v8 (by decide) (okX4_stepTo _ _ X.J h_v8) rfl (Nat.le_of_ble_eq_true rfl) dX5_lots_120 rfl (fun _ M14 => ?_)
      refine r_lload_n X dX5_lots_123 rfl 0 rfl ?_
      refine r_ldc2 X dX5_lots_124 k_716 ?_
      refine r_ldiv X dX5_lots_127 (fun v15 => ?_)
      refine r_ldc2 X dX5_lots_128 k_667 ?_
      refine r_lrem X dX5_lots_131 (fun v16 => ?_)
      refine r_lconst (v := 1) X dX5_lots_132 (by decide) ?_
      refine r_lcmp X dX5_lots_133 ?_
      refine r_if_ne 157 X dX5_lots_134 (by decide) ?_ ?_
      · refine r_aload_n X dX5_lots_137 rfl 2 rfl ?_
        refine r_getR X fl_X5_21 (by decide) h_l0 dX5_lots_138 (fun v17 h_v17 => ?_)
        refine r_getR X fl_X5_177 (by decide) h_v17 dX5_lots_141 (fun v18 h_v18 => ?_)
        refine r_iconst (v := 0) X dX5_lots_144 (by decide) ?_
        refine r_iald X h_v18 dX5_lots_145 (fun v19 => ?_)
        refine r_if_le 157 X dX5_lots_146 (by decide) ?_ ?_
        · exact r_to [(0, rf x.2.1 l0), (1, .int l1), (3, .long v7), (5, .int l5)] [2, 3, 0, 4] rfl (sX5_lots_157 X hL Hr HH h_l0)
        · refine r_aload_n X dX5_lots_149 rfl 2 rfl ?_
          refine r_getR X fl_X5_21 (by decide) h_l0 dX5_lots_150 (fun v20 h_v20 => ?_)
          refine r_iconst (v := 0) X dX5_lots_153 (by decide) ?_
          refine r_callVV [.int 0] X mt_X5_190 (by decide) h_v20 (by decide) (okX4_dropHere _ _ X.J h_v20) rfl (Nat.le_of_ble_eq_true rfl) dX5_lots_154 rfl (fun _ M21 => ?_)
          exact r_to [(0, rf x.2.1 l0), (1, .int l1), (3, .long v7), (5, .int l5)] [2, 3, 0, 4] rfl (sX5_lots_157 X hL Hr HH h_l0)
      · exact r_to [(0, rf x.2.1 l0), (1, .int l1), (3, .long v7), (5, .int l5)] [2, 3, 0, 4] rfl (sX5_lots_157 X hL Hr HH h_l0)
set_option maxRecDepth 100000 in
noncomputable def bX5_lots_23  (M : Mm) : Option ((Nat × Nat × Int32 × Int64 × Int32 × Mm) ⊕ Int32 × Mm) := some (.inr ((-1), M))
set_option maxRecDepth 100000 in
set_option maxHeartbeats 4000000 in
theorem sX5_lots_23 {x : SB} {F : ((Nat × Nat × Int32 × Int64 × Int32 × Mm) ⊕ Int32 × Mm) → Prop} (X : CX x cX5_lots RX5 3) (hL : x.2.2.2.1 = 7) (Hr : RTI x cX5_lots .int F Sum.inr) (HH : ∀ q, F (.inl q) → pX5_lots x q)  {M : Mm}  : SIM x F (bX5_lots_23  M) 23 [] [] M := by
  unfold bX5_lots_23
  refine r_iconst (v := (-1)) X dX5_lots_23 (by decide) ?_
  exact r_iret Hr rfl dX5_lots_24
set_option maxRecDepth 100000 in
noncomputable def bX5_lots_0 (l0 : Nat) (l1 : Int32) (l2 : Int32) (M : Mm) : Option ((Nat × Nat × Int32 × Int64 × Int32 × Mm) ⊕ Int32 × Mm) := if l1 < 1 then bX5_lots_23 M else if 20 < l1 then bX5_lots_23 M else if l2 < 1 then bX5_lots_23 M else if l2 < 2147483647 then gfR M 14 l0 2 fun v22 => cal (fX4_isEmpty v22 M) fun v24 M23 => if v24 = 0 then gfR M23 14 l0 2 fun v25 => gfI M23 v25 2 fun v26 => if (v26 + l1) ≤ 30 then ltJ ((l2 : Int32).toInt64) fun v27 => some (.inl (1, l0, l1, v27, 0, M23)) else some (.inr ((-2), M23)) else some (.inr ((-4), M23)) else bX5_lots_23 M
set_option maxRecDepth 100000 in
set_option maxHeartbeats 4000000 in
theorem sX5_lots_0 {x : SB} {F : ((Nat × Nat × Int32 × Int64 × Int32 × Mm) ⊕ Int32 × Mm) → Prop} (X : CX x cX5_lots RX5 3) (hL : x.2.2.2.1 = 7) (Hr : RTI x cX5_lots .int F Sum.inr) (HH : ∀ q, F (.inl q) → pX5_lots x q) {l0 : Nat} {l1 : Int32} {l2 : Int32} {M : Mm} (h_l0 : sh l0 = 15) : SIM x F (bX5_lots_0 l0 l1 l2 M) 0 [(0, rf x.2.1 l0), (1, .int l1), (2, .int l2)] [] M := by
  unfold bX5_lots_0
  refine r_iload_n X dX5_lots_0 rfl 1 rfl ?_
  refine r_iconst (v := 1) X dX5_lots_1 (by decide) ?_
  refine r_icmp_lt 23 X dX5_lots_2 (by decide) ?_ ?_
  · exact r_to [] [] rfl (sX5_lots_23 X hL Hr HH)
  · refine r_iload_n X dX5_lots_5 rfl 1 rfl ?_
    refine r_bipush (v := 20) X dX5_lots_6 (by decide) ?_
    refine r_icmp_gt 23 X dX5_lots_8 (by decide) ?_ ?_
    · exact r_to [] [] rfl (sX5_lots_23 X hL Hr HH)
    · refine r_iload_n X dX5_lots_11 rfl 2 rfl ?_
      refine r_iconst (v := 1) X dX5_lots_12 (by decide) ?_
      refine r_icmp_lt 23 X dX5_lots_13 (by decide) ?_ ?_
      · exact r_to [] [] rfl (sX5_lots_23 X hL Hr HH)
      · refine r_iload_n X dX5_lots_16 rfl 2 rfl ?_
        refine r_ldcw X dX5_lots_17 k_709 ?_
        refine r_icmp_lt 25 X dX5_lots_20 (by decide) ?_ ?_
        · refine r_aload_n X dX5_lots_25 rfl 0 rfl ?_
          refine r_getR X fl_X5_21 (by decide) h_l0 dX5_lots_26 (fun v22 h_v22 => ?_)
          refine r_callVI [] X mt_X5_199 (by decide) h_v22 (by decide) (okX4_isEmpty _ _ X.J h_v22) rfl (Nat.le_of_ble_eq_true rfl) dX5_lots_29 rfl (fun v24 M23 => ?_)
          refine r_if_eq 38 X dX5_lots_32 (by decide) ?_ ?_
          · refine r_aload_n X dX5_lots_38 rfl 0 rfl ?_
            refine r_getR X fl_X5_21 (by decide) h_l0 dX5_lots_39 (fun v25 h_v25 => ?_)
            refine r_getI X fl_X5_184 (by decide) h_v25 dX5_lots_42 (fun v26 => ?_)
            refine r_iload_n X dX5_lots_45 rfl 1 rfl ?_
            refine r_iadd X dX5_lots_46 ?_
            refine r_bipush (v := 30) X dX5_lots_47 (by decide) ?_
            refine r_icmp_le 55 X dX5_lots_49 (by decide) ?_ ?_
            · refine r_iload_n X dX5_lots_55 rfl 2 rfl ?_
              refine r_i2l X dX5_lots_56 ?_
              refine r_letJ (fun v27 => ?_)
              refine r_lstore_n [(3, .long v27), (0, rf x.2.1 l0), (1, .int l1), (2, .int l2)] X dX5_lots_57 rfl (nlt hL (by decide)) rfl ?_
              refine r_iconst (v := 0) X dX5_lots_58 (by decide) ?_
              refine r_istore [(5, .int 0), (3, .long v27), (0, rf x.2.1 l0), (1, .int l1), (2, .int l2)] X dX5_lots_59 (nlt hL (by decide)) rfl ?_
              exact r_hdr [(0, rf x.2.1 l0), (1, .int l1), (3, .long v27), (5, .int 0)] [2, 3, 1, 0] rfl (fun h => HH _ h h_l0)
            · refine r_bipush (v := (-2)) X dX5_lots_52 (by decide) ?_
              exact r_iret Hr rfl dX5_lots_54
          · refine r_bipush (v := (-4)) X dX5_lots_35 (by decide) ?_
            exact r_iret Hr rfl dX5_lots_37
        · exact r_to [] [] rfl (sX5_lots_23 X hL Hr HH)
set_option maxRecDepth 100000 in
noncomputable def gX5_lots (q : Nat × Nat × Int32 × Int64 × Int32 × Mm) : Option ((Nat × Nat × Int32 × Int64 × Int32 × Mm) ⊕ Int32 × Mm) := match q.1 with
  | 1 => bX5_lots_61 (q.2.1) (q.2.2.1) (q.2.2.2.1) (q.2.2.2.2.1) (q.2.2.2.2.2)
  | _ => none
set_option maxRecDepth 100000 in
noncomputable def fX5_lots (l0 : Nat) (l1 : Int32) (l2 : Int32) (M : Mm) : Option (Int32 × Mm) := fen gX5_lots (bX5_lots_0 l0 l1 l2 M)
set_option maxRecDepth 100000 in
set_option maxHeartbeats 4000000 in
theorem okX5_lots (l : Launch) (g : GX) (hJ : IJ g) {l0 : Nat} {l1 : Int32} {l2 : Int32} {M : Mm} (h_l0 : sh l0 = 15) : CT l g yX5_lots cX5_lots 7 (some .int) 3 [rf g l0, .int l1, .int l2] M (fX5_lots l0 l1 l2 M) (fun r => some (.int r)) := by
  refine ct_I rfl hJ (Nat.le_of_ble_eq_true rfl) (fun x r hg hL hl X hf Hr => ?_)
  subst hg
  have Hr2 : RTI x cX5_lots .int (Sum.elim (pX5_lots x) (fun q => q = r)) Sum.inr := fun v M h => Hr v M h
  have HP : ∀ q, fnl gX5_lots q = some r → pX5_lots x q := by
    intro q hq
    refine fnl_ind (pX5_lots x) (fun q hq => ?_) hq
    obtain ⟨n, l0, l1, l3, l5, M⟩ := q
    match n, hq with
    | 1, hq => exact fun h_l0 ls H locs hl hP hS => sX5_lots_61 X hL Hr2 (fun _ h => h) h_l0 hq ls H locs hl hP hS
    | 0, hq => exact trivial
    | n + 2, hq => exact trivial
  exact fun _ ls H locs hl hP hS => sX5_lots_0 X hL Hr2 (fun _ h => h) h_l0 (fen_w hf HP) ls H locs hl hP hS
/-! CrumbWood.lower()J -/
set_option maxRecDepth 100000 in
noncomputable def fX5_lower (l0 : Nat) (M : Mm) : Option (Int64 × Mm) := gfJ M l0 12 fun v1 => some ((v1, M))
set_option maxRecDepth 100000 in
set_option maxHeartbeats 4000000 in
theorem sX5_lower_0 {x : SB} {F : (Int64 × Mm) → Prop} (X : CX x cX5_lower RX5 0) (hL : x.2.2.2.1 = 1) (Hr : RTJ x cX5_lower F (fun q => q)) {l0 : Nat} {M : Mm} (h_l0 : sh l0 = 15) : SIM x F (fX5_lower l0 M) 0 [(0, rf x.2.1 l0)] [] M := by
  unfold fX5_lower
  refine r_aload_n X dX5_lower_0 rfl 0 rfl ?_
  refine r_getJ X fl_X5_68 (by decide) h_l0 dX5_lower_1 (fun v1 => ?_)
  exact r_lret Hr dX5_lower_4
set_option maxRecDepth 100000 in
set_option maxHeartbeats 4000000 in
theorem okX5_lower (l : Launch) (g : GX) (hJ : IJ g) {l0 : Nat} {M : Mm} (h_l0 : sh l0 = 15) : CT l g yX5_lower cX5_lower 1 (some .long) 0 [rf g l0] M (fX5_lower l0 M) (fun r => some (.long r)) := by
  refine ct_J rfl hJ (Nat.le_of_ble_eq_true rfl) (fun x r hg hL hl X hf Hr => ?_)
  subst hg
  exact fun _ ls H locs hl hP hS => sX5_lower_0 X hL Hr h_l0 ⟨_, hf, rfl⟩ ls H locs hl hP hS
/-! CrumbWood$Wood.unseenAt(I)I -/
set_option maxRecDepth 100000 in
def pX4_unseenAt (x : SB) (q : Nat × Nat × Int32 × Int32 × Int32 × Int32 × Mm) : Prop := match q.1 with
  | 1 => sh q.2.1 = 14 → ∀ (ls : Array Slot) (H : Heap) (locs : List Loc), lv_has ls x.2.2.2.1 [(0, rf x.2.1 q.2.1), (1, .int q.2.2.1), (2, .int q.2.2.2.1), (3, .int q.2.2.2.2.1), (4, .int q.2.2.2.2.2.1)] → PW x.2.1 (q.2.2.2.2.2.2) H → SH x H locs → SW x H locs 11 ls []
  | _ => True
set_option maxRecDepth 100000 in
noncomputable def bX4_unseenAt_38 (l0 : Nat) (l1 : Int32) (l2 : Int32) (l3 : Int32) (l4 : Int32) (M : Mm) : Option ((Nat × Nat × Int32 × Int32 × Int32 × Int32 × Mm) ⊕ Int32 × Mm) := some (.inl (1, l0, l1, l2, l3, (l4 + 1), M))
set_option maxRecDepth 100000 in
set_option maxHeartbeats 4000000 in
theorem sX4_unseenAt_38 {x : SB} {F : ((Nat × Nat × Int32 × Int32 × Int32 × Int32 × Mm) ⊕ Int32 × Mm) → Prop} (X : CX x cX4_unseenAt RX4 2) (hL : x.2.2.2.1 = 5) (Hr : RTI x cX4_unseenAt .int F Sum.inr) (HH : ∀ q, F (.inl q) → pX4_unseenAt x q) {l0 : Nat} {l1 : Int32} {l2 : Int32} {l3 : Int32} {l4 : Int32} {M : Mm} (h_l0 : sh l0 = 14) : SIM x F (bX4_unseenAt_38 l0 l1 l2 l3 l4 M) 38 [(0, rf x.2.1 l0), (1, .int l1), (2, .int l2), (3, .int l3), (4, .int l4)] [] M := by
  unfold bX4_unseenAt_38
  refine r_iinc [(4, .int (l4 + 1)), (0, rf x.2.1 l0), (1, .int l1), (2, .int l2), (3, .int l3)] X dX4_unseenAt_38 4 rfl rfl (nlt hL (by decide)) rfl ?_
  refine r_goto 11 X dX4_unseenAt_41 (by decide) ?_
  exact r_hdr [(0, rf x.2.1 l0), (1, .int l1), (2, .int l2), (3, .int l3), (4, .int (l4 + 1))] [1, 2, 3, 4, 0] rfl (fun h => HH _ h h_l0)
set_option maxRecDepth 100000 in
noncomputable def bX4_unseenAt_11 (l0 : Nat) (l1 : Int32) (l2 : Int32) (l3 : Int32) (l4 : Int32) (M : Mm) : Option ((Nat × Nat × Int32 × Int32 × Int32 × Int32 × Mm) ⊕ Int32 × Mm) := if 3 ≤ l4 then some (.inr (l3, M)) else if ((l2 >>> (l4 &&& 31)) &&& 1) = 0 then gfR M 5 l0 6 fun v1 => ldR M 0 v1 l4 fun v2 => ldI M v2 l1 fun v3 => ltI (l3 + v3) fun v4 => bX4_unseenAt_38 l0 l1 l2 v4 l4 M else bX4_unseenAt_38 l0 l1 l2 l3 l4 M
set_option maxRecDepth 100000 in
set_option maxHeartbeats 4000000 in
theorem sX4_unseenAt_11 {x : SB} {F : ((Nat × Nat × Int32 × Int32 × Int32 × Int32 × Mm) ⊕ Int32 × Mm) → Prop} (X : CX x cX4_unseenAt RX4 2) (hL : x.2.2.2.1 = 5) (Hr : RTI x cX4_unseenAt .int F Sum.inr) (HH : ∀ q, F (.inl q) → pX4_unseenAt x q) {l0 : Nat} {l1 : Int32} {l2 : Int32} {l3 : Int32} {l4 : Int32} {M : Mm} (h_l0 : sh l0 = 14) : SIM x F (bX4_unseenAt_11 l0 l1 l2 l3 l4 M) 11 [(0, rf x.2.1 l0), (1, .int l1), (2, .int l2), (3, .int l3), (4, .int l4)] [] M := by
  unfold bX4_unseenAt_11
  refine r_iload X dX4_unseenAt_11 4 rfl ?_
  refine r_iconst (v := 3) X dX4_unseenAt_13 (by decide) ?_
  refine r_icmp_ge 44 X dX4_unseenAt_14 (by decide) ?_ ?_
  · refine r_iload_n X dX4_unseenAt_44 rfl 3 rfl ?_
    exact r_iret Hr rfl dX4_unseenAt_45
  · refine r_iload_n X dX4_unseenAt_17 rfl 2 rfl ?_
    refine r_iload X dX4_unseenAt_18 4 rfl ?_
    refine r_ishr X dX4_unseenAt_20 ?_
    refine r_iconst (v := 1) X dX4_unseenAt_21 (by decide) ?_
    refine r_iand X dX4_unseenAt_22 ?_
    refine r_if_ne 38 X dX4_unseenAt_23 (by decide) ?_ ?_
    · refine r_iload_n X dX4_unseenAt_26 rfl 3 rfl ?_
      refine r_aload_n X dX4_unseenAt_27 rfl 0 rfl ?_
      refine r_getR X fl_X4_33 (by decide) h_l0 dX4_unseenAt_28 (fun v1 h_v1 => ?_)
      refine r_iload X dX4_unseenAt_31 4 rfl ?_
      refine r_aldA X h_v1 dX4_unseenAt_33 (fun v2 h_v2 => ?_)
      refine r_iload_n X dX4_unseenAt_34 rfl 1 rfl ?_
      refine r_iald X h_v2 dX4_unseenAt_35 (fun v3 => ?_)
      refine r_iadd X dX4_unseenAt_36 ?_
      refine r_letI (fun v4 => ?_)
      refine r_istore_n [(3, .int v4), (0, rf x.2.1 l0), (1, .int l1), (2, .int l2), (4, .int l4)] X dX4_unseenAt_37 rfl (nlt hL (by decide)) rfl ?_
      exact r_to [(0, rf x.2.1 l0), (1, .int l1), (2, .int l2), (3, .int v4), (4, .int l4)] [1, 2, 3, 0, 4] rfl (sX4_unseenAt_38 X hL Hr HH h_l0)
    · exact r_to [(0, rf x.2.1 l0), (1, .int l1), (2, .int l2), (3, .int l3), (4, .int l4)] [0, 1, 2, 3, 4] rfl (sX4_unseenAt_38 X hL Hr HH h_l0)
set_option maxRecDepth 100000 in
noncomputable def bX4_unseenAt_0 (l0 : Nat) (l1 : Int32) (M : Mm) : Option ((Nat × Nat × Int32 × Int32 × Int32 × Int32 × Mm) ⊕ Int32 × Mm) := cal (fX4_seenAt l0 l1 M) fun v6 M5 => some (.inl (1, l0, l1, v6, 0, 0, M5))
set_option maxRecDepth 100000 in
set_option maxHeartbeats 4000000 in
theorem sX4_unseenAt_0 {x : SB} {F : ((Nat × Nat × Int32 × Int32 × Int32 × Int32 × Mm) ⊕ Int32 × Mm) → Prop} (X : CX x cX4_unseenAt RX4 2) (hL : x.2.2.2.1 = 5) (Hr : RTI x cX4_unseenAt .int F Sum.inr) (HH : ∀ q, F (.inl q) → pX4_unseenAt x q) {l0 : Nat} {l1 : Int32} {M : Mm} (h_l0 : sh l0 = 14) : SIM x F (bX4_unseenAt_0 l0 l1 M) 0 [(0, rf x.2.1 l0), (1, .int l1)] [] M := by
  unfold bX4_unseenAt_0
  refine r_aload_n X dX4_unseenAt_0 rfl 0 rfl ?_
  refine r_iload_n X dX4_unseenAt_1 rfl 1 rfl ?_
  refine r_callVI [.int l1] X mt_X4_72 (by decide) h_l0 (by decide) (okX4_seenAt _ _ X.J h_l0) rfl (Nat.le_of_ble_eq_true rfl) dX4_unseenAt_2 rfl (fun v6 M5 => ?_)
  refine r_istore_n [(2, .int v6), (0, rf x.2.1 l0), (1, .int l1)] X dX4_unseenAt_5 rfl (nlt hL (by decide)) rfl ?_
  refine r_iconst (v := 0) X dX4_unseenAt_6 (by decide) ?_
  refine r_istore_n [(3, .int 0), (2, .int v6), (0, rf x.2.1 l0), (1, .int l1)] X dX4_unseenAt_7 rfl (nlt hL (by decide)) rfl ?_
  refine r_iconst (v := 0) X dX4_unseenAt_8 (by decide) ?_
  refine r_istore [(4, .int 0), (3, .int 0), (2, .int v6), (0, rf x.2.1 l0), (1, .int l1)] X dX4_unseenAt_9 (nlt hL (by decide)) rfl ?_
  exact r_hdr [(0, rf x.2.1 l0), (1, .int l1), (2, .int v6), (3, .int 0), (4, .int 0)] [3, 4, 2, 1, 0] rfl (fun h => HH _ h h_l0)
set_option maxRecDepth 100000 in
noncomputable def gX4_unseenAt (q : Nat × Nat × Int32 × Int32 × Int32 × Int32 × Mm) : Option ((Nat × Nat × Int32 × Int32 × Int32 × Int32 × Mm) ⊕ Int32 × Mm) := match q.1 with
  | 1 => bX4_unseenAt_11 (q.2.1) (q.2.2.1) (q.2.2.2.1) (q.2.2.2.2.1) (q.2.2.2.2.2.1) (q.2.2.2.2.2.2)
  | _ => none
set_option maxRecDepth 100000 in
noncomputable def fX4_unseenAt (l0 : Nat) (l1 : Int32) (M : Mm) : Option (Int32 × Mm) := fen gX4_unseenAt (bX4_unseenAt_0 l0 l1 M)
set_option maxRecDepth 100000 in
set_option maxHeartbeats 4000000 in
theorem okX4_unseenAt (l : Launch) (g : GX) (hJ : IJ g) {l0 : Nat} {l1 : Int32} {M : Mm} (h_l0 : sh l0 = 14) : CT l g yX4_unseenAt cX4_unseenAt 5 (some .int) 2 [rf g l0, .int l1] M (fX4_unseenAt l0 l1 M) (fun r => some (.int r)) := by
  refine ct_I rfl hJ (Nat.le_of_ble_eq_true rfl) (fun x r hg hL hl X hf Hr => ?_)
  subst hg
  have Hr2 : RTI x cX4_unseenAt .int (Sum.elim (pX4_unseenAt x) (fun q => q = r)) Sum.inr := fun v M h => Hr v M h
  have HP : ∀ q, fnl gX4_unseenAt q = some r → pX4_unseenAt x q := by
    intro q hq
    refine fnl_ind (pX4_unseenAt x) (fun q hq => ?_) hq
    obtain ⟨n, l0, l1, l2, l3, l4, M⟩ := q
    match n, hq with
    | 1, hq => exact fun h_l0 ls H locs hl hP hS => sX4_unseenAt_11 X hL Hr2 (fun _ h => h) h_l0 hq ls H locs hl hP hS
    | 0, hq => exact trivial
    | n + 2, hq => exact trivial
  exact fun _ ls H locs hl hP hS => sX4_unseenAt_0 X hL Hr2 (fun _ h => h) h_l0 (fen_w hf HP) ls H locs hl hP hS
/-! CrumbWood.mark(II)I -/
set_option maxRecDepth 100000 in
noncomputable def bX5_mark_22  (M : Mm) : Option (Int32 × Mm) := some (((-1), M))
set_option maxRecDepth 100000 in
set_option maxHeartbeats 4000000 in
theorem sX5_mark_22 {x : SB} {F : (Int32 × Mm) → Prop} (X : CX x cX5_mark RX5 3) (hL : x.2.2.2.1 = 3) (Hr : RTI x cX5_mark .int F (fun q => q))  {M : Mm}  : SIM x F (bX5_mark_22  M) 22 [] [] M := by
  unfold bX5_mark_22
  refine r_iconst (v := (-1)) X dX5_mark_22 (by decide) ?_
  exact r_iret Hr rfl dX5_mark_23
set_option maxRecDepth 100000 in
noncomputable def fX5_mark (l0 : Nat) (l1 : Int32) (l2 : Int32) (M : Mm) : Option (Int32 × Mm) := gfR M 14 l0 2 fun v1 => cal (fX4_hasPlace v1 l1 M) fun v3 M2 => if v3 = 0 then bX5_mark_22 M2 else if l2 < 1 then bX5_mark_22 M2 else if l2 < 6 then gfR M2 14 l0 2 fun v4 => cal (fX4_isOf v4 l1 l2 M2) fun v6 M5 => if v6 = 0 then cal (fX5_refuse l0 3 M5) fun v32 M31 => some ((v32, M31)) else if l2 = 1 then gfR M5 14 l0 2 fun v7 => gfR M5 14 l0 2 fun v8 => cal (fX4_reachFrom v8 l1 M5) fun v10 M9 => cal (fX4_crumbsOn v7 v10 M9) fun v12 M11 => some ((v12, M11)) else if l2 = 2 then gfR M5 14 l0 2 fun v13 => cal (fX4_unseenAt v13 l1 M5) fun v15 M14 => some ((v15, M14)) else if l2 = 3 then gfR M5 14 l0 2 fun v16 => gfR M5 0 v16 7 fun v17 => ldI M5 v17 l1 fun v18 => some ((v18, M5)) else if l2 = 4 then gfR M5 14 l0 2 fun v19 => gfR M5 5 v19 6 fun v20 => ldR M5 0 v20 2 fun v21 => ldI M5 v21 l1 fun v22 => some ((v22, M5)) else gfR M5 14 l0 2 fun v23 => gfR M5 0 v23 5 fun v24 => ldI M5 v24 l1 fun v25 => gfR M5 14 l0 2 fun v26 => gfR M5 0 v26 4 fun v27 => ldI M5 v27 2 fun v28 => cal (fJ6_bitCount_0f7a4 (v25 &&& v28) M5) fun v30 M29 => some ((v30, M29)) else bX5_mark_22 M2
set_option maxRecDepth 100000 in
set_option maxHeartbeats 4000000 in
theorem sX5_mark_0 {x : SB} {F : (Int32 × Mm) → Prop} (X : CX x cX5_mark RX5 3) (hL : x.2.2.2.1 = 3) (Hr : RTI x cX5_mark .int F (fun q => q)) {l0 : Nat} {l1 : Int32} {l2 : Int32} {M : Mm} (h_l0 : sh l0 = 15) : SIM x F (fX5_mark l0 l1 l2 M) 0 [(0, rf x.2.1 l0), (1, .int l1), (2, .int l2)] [] M := by
  unfold fX5_mark
  refine r_aload_n X dX5_mark_0 rfl 0 rfl ?_
  refine r_getR X fl_X5_21 (by decide) h_l0 dX5_mark_1 (fun v1 h_v1 => ?_)
  refine r_iload_n X dX5_mark_4 rfl 1 rfl ?_
  refine r_callVI [.int l1] X mt_X5_123 (by decide) h_v1 (by decide) (okX4_hasPlace _ _ X.J h_v1) rfl (Nat.le_of_ble_eq_true rfl) dX5_mark_5 rfl (fun v3 M2 => ?_)
  refine r_if_eq 22 X dX5_mark_8 (by decide) ?_ ?_
  · exact r_to [] [] rfl (sX5_mark_22 X hL Hr)
  · refine r_iload_n X dX5_mark_11 rfl 2 rfl ?_
    refine r_iconst (v := 1) X dX5_mark_12 (by decide) ?_
    refine r_icmp_lt 22 X dX5_mark_13 (by decide) ?_ ?_
    · exact r_to [] [] rfl (sX5_mark_22 X hL Hr)
    · refine r_iload_n X dX5_mark_16 rfl 2 rfl ?_
      refine r_bipush (v := 6) X dX5_mark_17 (by decide) ?_
      refine r_icmp_lt 24 X dX5_mark_19 (by decide) ?_ ?_
      · refine r_aload_n X dX5_mark_24 rfl 0 rfl ?_
        refine r_getR X fl_X5_21 (by decide) h_l0 dX5_mark_25 (fun v4 h_v4 => ?_)
        refine r_iload_n X dX5_mark_28 rfl 1 rfl ?_
        refine r_iload_n X dX5_mark_29 rfl 2 rfl ?_
        refine r_callVI [.int l1, .int l2] X mt_X5_131 (by decide) h_v4 (by decide) (okX4_isOf _ _ X.J h_v4) rfl (Nat.le_of_ble_eq_true rfl) dX5_mark_30 rfl (fun v6 M5 => ?_)
        refine r_if_ne 42 X dX5_mark_33 (by decide) ?_ ?_
        · refine r_aload_n X dX5_mark_36 rfl 0 rfl ?_
          refine r_iconst (v := 3) X dX5_mark_37 (by decide) ?_
          refine r_callVI [.int 3] X mt_X5_78 (by decide) h_l0 (by decide) (okX5_refuse _ _ X.J h_l0) rfl (Nat.le_of_ble_eq_true rfl) dX5_mark_38 rfl (fun v32 M31 => ?_)
          exact r_iret Hr rfl dX5_mark_41
        · refine r_iload_n X dX5_mark_42 rfl 2 rfl ?_
          refine r_tsw 1 72 X dX5_mark_43 (by decide) (by decide) rfl (by decide) ?_ (fun q1 => ?_)
          · refine r_aload_n X dX5_mark_72 rfl 0 rfl ?_
            refine r_getR X fl_X5_21 (by decide) h_l0 dX5_mark_73 (fun v7 h_v7 => ?_)
            refine r_aload_n X dX5_mark_76 rfl 0 rfl ?_
            refine r_getR X fl_X5_21 (by decide) h_l0 dX5_mark_77 (fun v8 h_v8 => ?_)
            refine r_iload_n X dX5_mark_80 rfl 1 rfl ?_
            refine r_callVI [.int l1] X mt_X5_134 (by decide) h_v8 (by decide) (okX4_reachFrom _ _ X.J h_v8) rfl (Nat.le_of_ble_eq_true rfl) dX5_mark_81 rfl (fun v10 M9 => ?_)
            refine r_callVI [.int v10] X mt_X5_137 (by decide) h_v7 (by decide) (okX4_crumbsOn _ _ X.J h_v7) rfl (Nat.le_of_ble_eq_true rfl) dX5_mark_84 rfl (fun v12 M11 => ?_)
            exact r_iret Hr rfl dX5_mark_87
          refine r_tsw 2 88 X dX5_mark_43 (by decide) (by decide) rfl (by decide) ?_ (fun q2 => ?_)
          · refine r_aload_n X dX5_mark_88 rfl 0 rfl ?_
            refine r_getR X fl_X5_21 (by decide) h_l0 dX5_mark_89 (fun v13 h_v13 => ?_)
            refine r_iload_n X dX5_mark_92 rfl 1 rfl ?_
            refine r_callVI [.int l1] X mt_X5_140 (by decide) h_v13 (by decide) (okX4_unseenAt _ _ X.J h_v13) rfl (Nat.le_of_ble_eq_true rfl) dX5_mark_93 rfl (fun v15 M14 => ?_)
            exact r_iret Hr rfl dX5_mark_96
          refine r_tsw 3 97 X dX5_mark_43 (by decide) (by decide) rfl (by decide) ?_ (fun q3 => ?_)
          · refine r_aload_n X dX5_mark_97 rfl 0 rfl ?_
            refine r_getR X fl_X5_21 (by decide) h_l0 dX5_mark_98 (fun v16 h_v16 => ?_)
            refine r_getR X fl_X5_143 (by decide) h_v16 dX5_mark_101 (fun v17 h_v17 => ?_)
            refine r_iload_n X dX5_mark_104 rfl 1 rfl ?_
            refine r_iald X h_v17 dX5_mark_105 (fun v18 => ?_)
            exact r_iret Hr rfl dX5_mark_106
          refine r_tsw 4 107 X dX5_mark_43 (by decide) (by decide) rfl (by decide) ?_ (fun q4 => ?_)
          · refine r_aload_n X dX5_mark_107 rfl 0 rfl ?_
            refine r_getR X fl_X5_21 (by decide) h_l0 dX5_mark_108 (fun v19 h_v19 => ?_)
            refine r_getR X fl_X5_146 (by decide) h_v19 dX5_mark_111 (fun v20 h_v20 => ?_)
            refine r_iconst (v := 2) X dX5_mark_114 (by decide) ?_
            refine r_aldA X h_v20 dX5_mark_115 (fun v21 h_v21 => ?_)
            refine r_iload_n X dX5_mark_116 rfl 1 rfl ?_
            refine r_iald X h_v21 dX5_mark_117 (fun v22 => ?_)
            exact r_iret Hr rfl dX5_mark_118
          refine r_tswd 119 X dX5_mark_43 (by have := i32_ne q1 (n := 1) (by decide); have := i32_ne q2 (n := 2) (by decide); have := i32_ne q3 (n := 3) (by decide); have := i32_ne q4 (n := 4) (by decide); omega) (by decide) ?_
          refine r_aload_n X dX5_mark_119 rfl 0 rfl ?_
          refine r_getR X fl_X5_21 (by decide) h_l0 dX5_mark_120 (fun v23 h_v23 => ?_)
          refine r_getR X fl_X5_150 (by decide) h_v23 dX5_mark_123 (fun v24 h_v24 => ?_)
          refine r_iload_n X dX5_mark_126 rfl 1 rfl ?_
          refine r_iald X h_v24 dX5_mark_127 (fun v25 => ?_)
          refine r_aload_n X dX5_mark_128 rfl 0 rfl ?_
          refine r_getR X fl_X5_21 (by decide) h_l0 dX5_mark_129 (fun v26 h_v26 => ?_)
          refine r_getR X fl_X5_153 (by decide) h_v26 dX5_mark_132 (fun v27 h_v27 => ?_)
          refine r_iconst (v := 2) X dX5_mark_135 (by decide) ?_
          refine r_iald X h_v27 dX5_mark_136 (fun v28 => ?_)
          refine r_iand X dX5_mark_137 ?_
          refine r_callSI [.int (v25 &&& v28)] X mt_X5_156 (by decide) (okJ6_bitCount_0f7a4 _ _ X.J) rfl (Nat.le_of_ble_eq_true rfl) dX5_mark_138 rfl (fun v30 M29 => ?_)
          exact r_iret Hr rfl dX5_mark_141
      · exact r_to [] [] rfl (sX5_mark_22 X hL Hr)
set_option maxRecDepth 100000 in
set_option maxHeartbeats 4000000 in
theorem okX5_mark (l : Launch) (g : GX) (hJ : IJ g) {l0 : Nat} {l1 : Int32} {l2 : Int32} {M : Mm} (h_l0 : sh l0 = 15) : CT l g yX5_mark cX5_mark 3 (some .int) 3 [rf g l0, .int l1, .int l2] M (fX5_mark l0 l1 l2 M) (fun r => some (.int r)) := by
  refine ct_I rfl hJ (Nat.le_of_ble_eq_true rfl) (fun x r hg hL hl X hf Hr => ?_)
  subst hg
  exact fun _ ls H locs hl hP hS => sX5_mark_0 X hL Hr h_l0 ⟨_, hf, rfl⟩ ls H locs hl hP hS
/-! CrumbWood$Strip.sum()J -/
set_option maxRecDepth 100000 in
def pX2_sum (x : SB) (q : Nat × Nat × Int64 × Int32 × Mm) : Prop := match q.1 with
  | 1 => sh q.2.1 = 12 → ∀ (ls : Array Slot) (H : Heap) (locs : List Loc), lv_has ls x.2.2.2.1 [(0, rf x.2.1 q.2.1), (1, .long q.2.2.1), (3, .int q.2.2.2.1)] → PW x.2.1 (q.2.2.2.2) H → SH x H locs → SW x H locs 4 ls []
  | _ => True
set_option maxRecDepth 100000 in
noncomputable def bX2_sum_4 (l0 : Nat) (l1 : Int64) (l3 : Int32) (M : Mm) : Option ((Nat × Nat × Int64 × Int32 × Mm) ⊕ Int64 × Mm) := gfI M l0 1 fun v1 => if v1 ≤ l3 then some (.inr (l1, M)) else gfR M 0 l0 0 fun v2 => ldI M v2 l3 fun v3 => ltJ (l1 + ((v3 : Int32).toInt64)) fun v4 => some (.inl (1, l0, v4, (l3 + 1), M))
set_option maxRecDepth 100000 in
set_option maxHeartbeats 4000000 in
theorem sX2_sum_4 {x : SB} {F : ((Nat × Nat × Int64 × Int32 × Mm) ⊕ Int64 × Mm) → Prop} (X : CX x cX2_sum RX2 0) (hL : x.2.2.2.1 = 4) (Hr : RTJ x cX2_sum F Sum.inr) (HH : ∀ q, F (.inl q) → pX2_sum x q) {l0 : Nat} {l1 : Int64} {l3 : Int32} {M : Mm} (h_l0 : sh l0 = 12) : SIM x F (bX2_sum_4 l0 l1 l3 M) 4 [(0, rf x.2.1 l0), (1, .long l1), (3, .int l3)] [] M := by
  unfold bX2_sum_4
  refine r_iload_n X dX2_sum_4 rfl 2 rfl ?_
  refine r_aload_n X dX2_sum_5 rfl 0 rfl ?_
  refine r_getI X fl_X2_9 (by decide) h_l0 dX2_sum_6 (fun v1 => ?_)
  refine r_icmp_ge 28 X dX2_sum_9 (by decide) ?_ ?_
  · refine r_lload_n X dX2_sum_28 rfl 1 rfl ?_
    exact r_lret Hr dX2_sum_29
  · refine r_lload_n X dX2_sum_12 rfl 1 rfl ?_
    refine r_aload_n X dX2_sum_13 rfl 0 rfl ?_
    refine r_getR X fl_X2_21 (by decide) h_l0 dX2_sum_14 (fun v2 h_v2 => ?_)
    refine r_iload_n X dX2_sum_17 rfl 2 rfl ?_
    refine r_iald X h_v2 dX2_sum_18 (fun v3 => ?_)
    refine r_i2l X dX2_sum_19 ?_
    refine r_ladd X dX2_sum_20 ?_
    refine r_letJ (fun v4 => ?_)
    refine r_lstore_n [(1, .long v4), (0, rf x.2.1 l0), (3, .int l3)] X dX2_sum_21 rfl (nlt hL (by decide)) rfl ?_
    refine r_iinc [(3, .int (l3 + 1)), (1, .long v4), (0, rf x.2.1 l0)] X dX2_sum_22 2 rfl rfl (nlt hL (by decide)) rfl ?_
    refine r_goto 4 X dX2_sum_25 (by decide) ?_
    exact r_hdr [(0, rf x.2.1 l0), (1, .long v4), (3, .int (l3 + 1))] [2, 1, 0] rfl (fun h => HH _ h h_l0)
set_option maxRecDepth 100000 in
noncomputable def bX2_sum_0 (l0 : Nat) (M : Mm) : Option ((Nat × Nat × Int64 × Int32 × Mm) ⊕ Int64 × Mm) := some (.inl (1, l0, 0, 0, M))
set_option maxRecDepth 100000 in
set_option maxHeartbeats 4000000 in
theorem sX2_sum_0 {x : SB} {F : ((Nat × Nat × Int64 × Int32 × Mm) ⊕ Int64 × Mm) → Prop} (X : CX x cX2_sum RX2 0) (hL : x.2.2.2.1 = 4) (Hr : RTJ x cX2_sum F Sum.inr) (HH : ∀ q, F (.inl q) → pX2_sum x q) {l0 : Nat} {M : Mm} (h_l0 : sh l0 = 12) : SIM x F (bX2_sum_0 l0 M) 0 [(0, rf x.2.1 l0)] [] M := by
  unfold bX2_sum_0
  refine r_lconst (v := 0) X dX2_sum_0 (by decide) ?_
  refine r_lstore_n [(1, .long 0), (0, rf x.2.1 l0)] X dX2_sum_1 rfl (nlt hL (by decide)) rfl ?_
  refine r_iconst (v := 0) X dX2_sum_2 (by decide) ?_
  refine r_istore_n [(3, .int 0), (1, .long 0), (0, rf x.2.1 l0)] X dX2_sum_3 rfl (nlt hL (by decide)) rfl ?_
  exact r_hdr [(0, rf x.2.1 l0), (1, .long 0), (3, .int 0)] [2, 1, 0] rfl (fun h => HH _ h h_l0)
set_option maxRecDepth 100000 in
noncomputable def gX2_sum (q : Nat × Nat × Int64 × Int32 × Mm) : Option ((Nat × Nat × Int64 × Int32 × Mm) ⊕ Int64 × Mm) := match q.1 with
  | 1 => bX2_sum_4 (q.2.1) (q.2.2.1) (q.2.2.2.1) (q.2.2.2.2)
  | _ => none
set_option maxRecDepth 100000 in
noncomputable def fX2_sum (l0 : Nat) (M : Mm) : Option (Int64 × Mm) := fen gX2_sum (bX2_sum_0 l0 M)
set_option maxRecDepth 100000 in
set_option maxHeartbeats 4000000 in
theorem okX2_sum (l : Launch) (g : GX) (hJ : IJ g) {l0 : Nat} {M : Mm} (h_l0 : sh l0 = 12) : CT l g yX2_sum cX2_sum 4 (some .long) 0 [rf g l0] M (fX2_sum l0 M) (fun r => some (.long r)) := by
  refine ct_J rfl hJ (Nat.le_of_ble_eq_true rfl) (fun x r hg hL hl X hf Hr => ?_)
  subst hg
  have Hr2 : RTJ x cX2_sum (Sum.elim (pX2_sum x) (fun q => q = r)) Sum.inr := fun v M h => Hr v M h
  have HP : ∀ q, fnl gX2_sum q = some r → pX2_sum x q := by
    intro q hq
    refine fnl_ind (pX2_sum x) (fun q hq => ?_) hq
    obtain ⟨n, l0, l1, l3, M⟩ := q
    match n, hq with
    | 1, hq => exact fun h_l0 ls H locs hl hP hS => sX2_sum_4 X hL Hr2 (fun _ h => h) h_l0 hq ls H locs hl hP hS
    | 0, hq => exact trivial
    | n + 2, hq => exact trivial
  exact fun _ ls H locs hl hP hS => sX2_sum_0 X hL Hr2 (fun _ h => h) h_l0 (fen_w hf HP) ls H locs hl hP hS
/-! CrumbWood.mean(I)I -/
set_option maxRecDepth 100000 in
noncomputable def fX5_mean (l0 : Nat) (l1 : Int32) (M : Mm) : Option (Int32 × Mm) := cal (fX5_isBelow l1 6 M) fun v2 M1 => if v2 = 0 then some (((-1), M1)) else gfR M1 3 l0 0 fun v3 => ldR M1 12 v3 l1 fun v4 => cal (fX2_isMissing v4 M1) fun v6 M5 => if v6 = 0 then gfR M5 3 l0 0 fun v7 => ldR M5 12 v7 l1 fun v8 => gfI M5 v8 1 fun v9 => if v9 = 0 then cal (fX5_refuse l0 4 M5) fun v20 M19 => some ((v20, M19)) else gfR M5 3 l0 0 fun v10 => ldR M5 12 v10 l1 fun v11 => cal (fX2_sum v11 M5) fun v13 M12 => gfR M12 3 l0 0 fun v14 => ldR M12 12 v14 l1 fun v15 => gfI M12 v15 1 fun v16 => dvJ v13 ((v16 : Int32).toInt64) fun v17 => pfI M12 l0 10 ((v17 : Int64).toInt32) fun M18 => some ((1, M18)) else cal (fX5_refuse l0 1 M5) fun v22 M21 => some ((v22, M21))
set_option maxRecDepth 100000 in
set_option maxHeartbeats 4000000 in
theorem sX5_mean_0 {x : SB} {F : (Int32 × Mm) → Prop} (X : CX x cX5_mean RX5 1) (hL : x.2.2.2.1 = 2) (Hr : RTI x cX5_mean .int F (fun q => q)) {l0 : Nat} {l1 : Int32} {M : Mm} (h_l0 : sh l0 = 15) : SIM x F (fX5_mean l0 l1 M) 0 [(0, rf x.2.1 l0), (1, .int l1)] [] M := by
  unfold fX5_mean
  refine r_iload_n X dX5_mean_0 rfl 1 rfl ?_
  refine r_bipush (v := 6) X dX5_mean_1 (by decide) ?_
  refine r_callSI [.int l1, .int 6] X mt_X5_74 (by decide) (okX5_isBelow _ _ X.J) rfl (Nat.le_of_ble_eq_true rfl) dX5_mean_3 rfl (fun v2 M1 => ?_)
  refine r_if_ne 11 X dX5_mean_6 (by decide) ?_ ?_
  · refine r_iconst (v := (-1)) X dX5_mean_9 (by decide) ?_
    exact r_iret Hr rfl dX5_mean_10
  · refine r_aload_n X dX5_mean_11 rfl 0 rfl ?_
    refine r_getR X fl_X5_11 (by decide) h_l0 dX5_mean_12 (fun v3 h_v3 => ?_)
    refine r_iload_n X dX5_mean_15 rfl 1 rfl ?_
    refine r_aldS X h_v3 dX5_mean_16 (fun v4 h_v4 => ?_)
    refine r_callVI [] X mt_X5_92 (by decide) h_v4 (by decide) (okX2_isMissing _ _ X.J h_v4) rfl (Nat.le_of_ble_eq_true rfl) dX5_mean_17 rfl (fun v6 M5 => ?_)
    refine r_if_eq 29 X dX5_mean_20 (by decide) ?_ ?_
    · refine r_aload_n X dX5_mean_29 rfl 0 rfl ?_
      refine r_getR X fl_X5_11 (by decide) h_l0 dX5_mean_30 (fun v7 h_v7 => ?_)
      refine r_iload_n X dX5_mean_33 rfl 1 rfl ?_
      refine r_aldS X h_v7 dX5_mean_34 (fun v8 h_v8 => ?_)
      refine r_getI X fl_X5_96 (by decide) h_v8 dX5_mean_35 (fun v9 => ?_)
      refine r_if_ne 47 X dX5_mean_38 (by decide) ?_ ?_
      · refine r_aload_n X dX5_mean_41 rfl 0 rfl ?_
        refine r_iconst (v := 4) X dX5_mean_42 (by decide) ?_
        refine r_callVI [.int 4] X mt_X5_78 (by decide) h_l0 (by decide) (okX5_refuse _ _ X.J h_l0) rfl (Nat.le_of_ble_eq_true rfl) dX5_mean_43 rfl (fun v20 M19 => ?_)
        exact r_iret Hr rfl dX5_mean_46
      · refine r_aload_n X dX5_mean_47 rfl 0 rfl ?_
        refine r_aload_n X dX5_mean_48 rfl 0 rfl ?_
        refine r_getR X fl_X5_11 (by decide) h_l0 dX5_mean_49 (fun v10 h_v10 => ?_)
        refine r_iload_n X dX5_mean_52 rfl 1 rfl ?_
        refine r_aldS X h_v10 dX5_mean_53 (fun v11 h_v11 => ?_)
        refine r_callVJ [] X mt_X5_108 (by decide) h_v11 (by decide) (okX2_sum _ _ X.J h_v11) rfl (Nat.le_of_ble_eq_true rfl) dX5_mean_54 rfl (fun v13 M12 => ?_)
        refine r_aload_n X dX5_mean_57 rfl 0 rfl ?_
        refine r_getR X fl_X5_11 (by decide) h_l0 dX5_mean_58 (fun v14 h_v14 => ?_)
        refine r_iload_n X dX5_mean_61 rfl 1 rfl ?_
        refine r_aldS X h_v14 dX5_mean_62 (fun v15 h_v15 => ?_)
        refine r_getI X fl_X5_96 (by decide) h_v15 dX5_mean_63 (fun v16 => ?_)
        refine r_i2l X dX5_mean_66 ?_
        refine r_ldiv X dX5_mean_67 (fun v17 => ?_)
        refine r_l2i X dX5_mean_68 ?_
        refine r_putI X fl_X5_61 (by decide) h_l0 (fun _ => rfl) (fun _ => rfl) dX5_mean_69 (fun M18 => ?_)
        refine r_iconst (v := 1) X dX5_mean_72 (by decide) ?_
        exact r_iret Hr rfl dX5_mean_73
    · refine r_aload_n X dX5_mean_23 rfl 0 rfl ?_
      refine r_iconst (v := 1) X dX5_mean_24 (by decide) ?_
      refine r_callVI [.int 1] X mt_X5_78 (by decide) h_l0 (by decide) (okX5_refuse _ _ X.J h_l0) rfl (Nat.le_of_ble_eq_true rfl) dX5_mean_25 rfl (fun v22 M21 => ?_)
      exact r_iret Hr rfl dX5_mean_28
set_option maxRecDepth 100000 in
set_option maxHeartbeats 4000000 in
theorem okX5_mean (l : Launch) (g : GX) (hJ : IJ g) {l0 : Nat} {l1 : Int32} {M : Mm} (h_l0 : sh l0 = 15) : CT l g yX5_mean cX5_mean 2 (some .int) 1 [rf g l0, .int l1] M (fX5_mean l0 l1 M) (fun r => some (.int r)) := by
  refine ct_I rfl hJ (Nat.le_of_ble_eq_true rfl) (fun x r hg hL hl X hf Hr => ?_)
  subst hg
  exact fun _ ls H locs hl hP hS => sX5_mean_0 X hL Hr h_l0 ⟨_, hf, rfl⟩ ls H locs hl hP hS

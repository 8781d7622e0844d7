/-! CrumbWoodModel.lying(I)I -/
set_option maxRecDepth 100000 in
def pX6_lying (x : SB) (q : Nat × Nat × Int32 × Int32 × Int32 × Mm) : Prop := match q.1 with
  | 1 => sh q.2.1 = 16 → ∀ (ls : Array Slot) (H : Heap) (locs : List Loc), lv_has ls x.2.2.2.1 [(0, rf x.2.1 q.2.1), (1, .int q.2.2.1), (2, .int q.2.2.2.1), (3, .int q.2.2.2.2.1)] → PW x.2.1 (q.2.2.2.2.2) H → SH x H locs → SW x H locs 4 ls []
  | _ => True
set_option maxRecDepth 100000 in
noncomputable def bX6_lying_4 (l0 : Nat) (l1 : Int32) (l2 : Int32) (l3 : Int32) (M : Mm) : Option ((Nat × Nat × Int32 × Int32 × Int32 × Mm) ⊕ Int32 × Mm) := gfI M l0 10 fun v1 => if v1 ≤ l3 then some (.inr (l2, M)) else cal (fX6_marks l0 0 l1 l3 M) fun v3 M2 => ltI (l2 + v3) fun v4 => some (.inl (1, l0, l1, v4, (l3 + 1), M2))
set_option maxRecDepth 100000 in
set_option maxHeartbeats 4000000 in
theorem sX6_lying_4 {x : SB} {F : ((Nat × Nat × Int32 × Int32 × Int32 × Mm) ⊕ Int32 × Mm) → Prop} (X : CX x cX6_lying RX6 2) (hL : x.2.2.2.1 = 4) (Hr : RTI x cX6_lying .int F Sum.inr) (HH : ∀ q, F (.inl q) → pX6_lying x q) {l0 : Nat} {l1 : Int32} {l2 : Int32} {l3 : Int32} {M : Mm} (h_l0 : sh l0 = 16) : SIM x F (bX6_lying_4 l0 l1 l2 l3 M) 4 [(0, rf x.2.1 l0), (1, .int l1), (2, .int l2), (3, .int l3)] [] M := by
  unfold bX6_lying_4
  refine r_iload_n X dX6_lying_4 rfl 3 rfl ?_
  refine r_aload_n X dX6_lying_5 rfl 0 rfl ?_
  refine r_getI X fl_X6_167 (by decide) h_l0 dX6_lying_6 (fun v1 => ?_)
  refine r_icmp_ge 28 X dX6_lying_9 (by decide) ?_ ?_
  · refine r_iload_n X dX6_lying_28 rfl 2 rfl ?_
    exact r_iret Hr rfl dX6_lying_29
  · refine r_iload_n X dX6_lying_12 rfl 2 rfl ?_
    refine r_aload_n X dX6_lying_13 rfl 0 rfl ?_
    refine r_iconst (v := 0) X dX6_lying_14 (by decide) ?_
    refine r_iload_n X dX6_lying_15 rfl 1 rfl ?_
    refine r_iload_n X dX6_lying_16 rfl 3 rfl ?_
    refine r_callVI [.int 0, .int l1, .int l3] X mt_X6_184 (by decide) h_l0 (by decide) (okX6_marks _ _ X.J h_l0) rfl (Nat.le_of_ble_eq_true rfl) dX6_lying_17 rfl (fun v3 M2 => ?_)
    refine r_iadd X dX6_lying_20 ?_
    refine r_letI (fun v4 => ?_)
    refine r_istore_n [(2, .int v4), (0, rf x.2.1 l0), (1, .int l1), (3, .int l3)] X dX6_lying_21 rfl (nlt hL (by decide)) rfl ?_
    refine r_iinc [(3, .int (l3 + 1)), (2, .int v4), (0, rf x.2.1 l0), (1, .int l1)] X dX6_lying_22 3 rfl rfl (nlt hL (by decide)) rfl ?_
    refine r_goto 4 X dX6_lying_25 (by decide) ?_
    exact r_hdr [(0, rf x.2.1 l0), (1, .int l1), (2, .int v4), (3, .int (l3 + 1))] [2, 3, 1, 0] rfl (fun h => HH _ h h_l0)
set_option maxRecDepth 100000 in
noncomputable def bX6_lying_0 (l0 : Nat) (l1 : Int32) (M : Mm) : Option ((Nat × Nat × Int32 × Int32 × Int32 × Mm) ⊕ Int32 × Mm) := some (.inl (1, l0, l1, 0, 0, M))
set_option maxRecDepth 100000 in
set_option maxHeartbeats 4000000 in
theorem sX6_lying_0 {x : SB} {F : ((Nat × Nat × Int32 × Int32 × Int32 × Mm) ⊕ Int32 × Mm) → Prop} (X : CX x cX6_lying RX6 2) (hL : x.2.2.2.1 = 4) (Hr : RTI x cX6_lying .int F Sum.inr) (HH : ∀ q, F (.inl q) → pX6_lying x q) {l0 : Nat} {l1 : Int32} {M : Mm} (h_l0 : sh l0 = 16) : SIM x F (bX6_lying_0 l0 l1 M) 0 [(0, rf x.2.1 l0), (1, .int l1)] [] M := by
  unfold bX6_lying_0
  refine r_iconst (v := 0) X dX6_lying_0 (by decide) ?_
  refine r_istore_n [(2, .int 0), (0, rf x.2.1 l0), (1, .int l1)] X dX6_lying_1 rfl (nlt hL (by decide)) rfl ?_
  refine r_iconst (v := 0) X dX6_lying_2 (by decide) ?_
  refine r_istore_n [(3, .int 0), (2, .int 0), (0, rf x.2.1 l0), (1, .int l1)] X dX6_lying_3 rfl (nlt hL (by decide)) rfl ?_
  exact r_hdr [(0, rf x.2.1 l0), (1, .int l1), (2, .int 0), (3, .int 0)] [2, 3, 1, 0] rfl (fun h => HH _ h h_l0)
set_option maxRecDepth 100000 in
noncomputable def gX6_lying (q : Nat × Nat × Int32 × Int32 × Int32 × Mm) : Option ((Nat × Nat × Int32 × Int32 × Int32 × Mm) ⊕ Int32 × Mm) := match q.1 with
  | 1 => bX6_lying_4 (q.2.1) (q.2.2.1) (q.2.2.2.1) (q.2.2.2.2.1) (q.2.2.2.2.2)
  | _ => none
set_option maxRecDepth 100000 in
noncomputable def fX6_lying (l0 : Nat) (l1 : Int32) (M : Mm) : Option (Int32 × Mm) := fen gX6_lying (bX6_lying_0 l0 l1 M)
set_option maxRecDepth 100000 in
set_option maxHeartbeats 4000000 in
theorem okX6_lying (l : Launch) (g : GX) (hJ : IJ g) {l0 : Nat} {l1 : Int32} {M : Mm} (h_l0 : sh l0 = 16) : CT l g yX6_lying cX6_lying 4 (some .int) 2 [rf g l0, .int l1] M (fX6_lying l0 l1 M) (fun r => some (.int r)) := by
  refine ct_I rfl hJ (Nat.le_of_ble_eq_true rfl) (fun x r hg hL hl X hf Hr => ?_)
  subst hg
  have Hr2 : RTI x cX6_lying .int (Sum.elim (pX6_lying x) (fun q => q = r)) Sum.inr := fun v M h => Hr v M h
  have HP : ∀ q, fnl gX6_lying q = some r → pX6_lying x q := by
    intro q hq
    refine fnl_ind (pX6_lying x) (fun q hq => ?_) hq
    obtain ⟨n, l0, l1, l2, l3, M⟩ := q
    match n, hq with
    | 1, hq => exact fun h_l0 ls H locs hl hP hS => sX6_lying_4 X hL Hr2 (fun _ h => h) h_l0 hq ls H locs hl hP hS
    | 0, hq => exact trivial
    | n + 2, hq => exact trivial
  exact fun _ ls H locs hl hP hS => sX6_lying_0 X hL Hr2 (fun _ h => h) h_l0 (fen_w hf HP) ls H locs hl hP hS
/-! CrumbWoodModel.pathMany()I -/
set_option maxRecDepth 100000 in
def pX6_pathMany (x : SB) (q : Nat × Nat × Int32 × Int32 × Mm) : Prop := match q.1 with
  | 1 => sh q.2.1 = 16 → ∀ (ls : Array Slot) (H : Heap) (locs : List Loc), lv_has ls x.2.2.2.1 [(0, rf x.2.1 q.2.1), (1, .int q.2.2.1), (2, .int q.2.2.2.1)] → PW x.2.1 (q.2.2.2.2) H → SH x H locs → SW x H locs 4 ls []
  | _ => True
set_option maxRecDepth 100000 in
noncomputable def bX6_pathMany_4 (l0 : Nat) (l1 : Int32) (l2 : Int32) (M : Mm) : Option ((Nat × Nat × Int32 × Int32 × Mm) ⊕ Int32 × Mm) := gfI M l0 10 fun v1 => if v1 ≤ l2 then dvI l1 2 fun v2 => some (.inr (v2, M)) else gfR M 0 l0 13 fun v3 => ldI M v3 l2 fun v4 => cal (fX6_bits v4 M) fun v6 M5 => ltI (l1 + v6) fun v7 => some (.inl (1, l0, v7, (l2 + 1), M5))
set_option maxRecDepth 100000 in
set_option maxHeartbeats 4000000 in
theorem sX6_pathMany_4 {x : SB} {F : ((Nat × Nat × Int32 × Int32 × Mm) ⊕ Int32 × Mm) → Prop} (X : CX x cX6_pathMany RX6 1) (hL : x.2.2.2.1 = 3) (Hr : RTI x cX6_pathMany .int F Sum.inr) (HH : ∀ q, F (.inl q) → pX6_pathMany x q) {l0 : Nat} {l1 : Int32} {l2 : Int32} {M : Mm} (h_l0 : sh l0 = 16) : SIM x F (bX6_pathMany_4 l0 l1 l2 M) 4 [(0, rf x.2.1 l0), (1, .int l1), (2, .int l2)] [] M := by
  unfold bX6_pathMany_4
  refine r_iload_n X dX6_pathMany_4 rfl 2 rfl ?_
  refine r_aload_n X dX6_pathMany_5 rfl 0 rfl ?_
  refine r_getI X fl_X6_167 (by decide) h_l0 dX6_pathMany_6 (fun v1 => ?_)
  refine r_icmp_ge 30 X dX6_pathMany_9 (by decide) ?_ ?_
  · refine r_iload_n X dX6_pathMany_30 rfl 1 rfl ?_
    refine r_iconst (v := 2) X dX6_pathMany_31 (by decide) ?_
    refine r_idiv X dX6_pathMany_32 (fun v2 => ?_)
    exact r_iret Hr rfl dX6_pathMany_33
  · refine r_iload_n X dX6_pathMany_12 rfl 1 rfl ?_
    refine r_aload_n X dX6_pathMany_13 rfl 0 rfl ?_
    refine r_getR X fl_X6_36 (by decide) h_l0 dX6_pathMany_14 (fun v3 h_v3 => ?_)
    refine r_iload_n X dX6_pathMany_17 rfl 2 rfl ?_
    refine r_iald X h_v3 dX6_pathMany_18 (fun v4 => ?_)
    refine r_callSI [.int v4] X mt_X6_257 (by decide) (okX6_bits _ _ X.J) rfl (Nat.le_of_ble_eq_true rfl) dX6_pathMany_19 rfl (fun v6 M5 => ?_)
    refine r_iadd X dX6_pathMany_22 ?_
    refine r_letI (fun v7 => ?_)
    refine r_istore_n [(1, .int v7), (0, rf x.2.1 l0), (2, .int l2)] X dX6_pathMany_23 rfl (nlt hL (by decide)) rfl ?_
    refine r_iinc [(2, .int (l2 + 1)), (1, .int v7), (0, rf x.2.1 l0)] X dX6_pathMany_24 2 rfl rfl (nlt hL (by decide)) rfl ?_
    refine r_goto 4 X dX6_pathMany_27 (by decide) ?_
    exact r_hdr [(0, rf x.2.1 l0), (1, .int v7), (2, .int (l2 + 1))] [2, 1, 0] rfl (fun h => HH _ h h_l0)
set_option maxRecDepth 100000 in
noncomputable def bX6_pathMany_0 (l0 : Nat) (M : Mm) : Option ((Nat × Nat × Int32 × Int32 × Mm) ⊕ Int32 × Mm) := some (.inl (1, l0, 0, 0, M))
set_option maxRecDepth 100000 in
set_option maxHeartbeats 4000000 in
theorem sX6_pathMany_0 {x : SB} {F : ((Nat × Nat × Int32 × Int32 × Mm) ⊕ Int32 × Mm) → Prop} (X : CX x cX6_pathMany RX6 1) (hL : x.2.2.2.1 = 3) (Hr : RTI x cX6_pathMany .int F Sum.inr) (HH : ∀ q, F (.inl q) → pX6_pathMany x q) {l0 : Nat} {M : Mm} (h_l0 : sh l0 = 16) : SIM x F (bX6_pathMany_0 l0 M) 0 [(0, rf x.2.1 l0)] [] M := by
  unfold bX6_pathMany_0
  refine r_iconst (v := 0) X dX6_pathMany_0 (by decide) ?_
  refine r_istore_n [(1, .int 0), (0, rf x.2.1 l0)] X dX6_pathMany_1 rfl (nlt hL (by decide)) rfl ?_
  refine r_iconst (v := 0) X dX6_pathMany_2 (by decide) ?_
  refine r_istore_n [(2, .int 0), (1, .int 0), (0, rf x.2.1 l0)] X dX6_pathMany_3 rfl (nlt hL (by decide)) rfl ?_
  exact r_hdr [(0, rf x.2.1 l0), (1, .int 0), (2, .int 0)] [2, 1, 0] rfl (fun h => HH _ h h_l0)
set_option maxRecDepth 100000 in
noncomputable def gX6_pathMany (q : Nat × Nat × Int32 × Int32 × Mm) : Option ((Nat × Nat × Int32 × Int32 × Mm) ⊕ Int32 × Mm) := match q.1 with
  | 1 => bX6_pathMany_4 (q.2.1) (q.2.2.1) (q.2.2.2.1) (q.2.2.2.2)
  | _ => none
set_option maxRecDepth 100000 in
noncomputable def fX6_pathMany (l0 : Nat) (M : Mm) : Option (Int32 × Mm) := fen gX6_pathMany (bX6_pathMany_0 l0 M)
set_option maxRecDepth 100000 in
set_option maxHeartbeats 4000000 in
theorem okX6_pathMany (l : Launch) (g : GX) (hJ : IJ g) {l0 : Nat} {M : Mm} (h_l0 : sh l0 = 16) : CT l g yX6_pathMany cX6_pathMany 3 (some .int) 1 [rf g l0] M (fX6_pathMany l0 M) (fun r => some (.int r)) := by
  refine ct_I rfl hJ (Nat.le_of_ble_eq_true rfl) (fun x r hg hL hl X hf Hr => ?_)
  subst hg
  have Hr2 : RTI x cX6_pathMany .int (Sum.elim (pX6_pathMany x) (fun q => q = r)) Sum.inr := fun v M h => Hr v M h
  have HP : ∀ q, fnl gX6_pathMany q = some r → pX6_pathMany x q := by
    intro q hq
    refine fnl_ind (pX6_pathMany x) (fun q hq => ?_) hq
    obtain ⟨n, l0, l1, l2, M⟩ := q
    match n, hq with
    | 1, hq => exact fun h_l0 ls H locs hl hP hS => sX6_pathMany_4 X hL Hr2 (fun _ h => h) h_l0 hq ls H locs hl hP hS
    | 0, hq => exact trivial
    | n + 2, hq => exact trivial
  exact fun _ ls H locs hl hP hS => sX6_pathMany_0 X hL Hr2 (fun _ h => h) h_l0 (fen_w hf HP) ls H locs hl hP hS
/-! CrumbWoodModel.counted(I)I -/
set_option maxRecDepth 100000 in
def pX6_counted (x : SB) (q : Nat × Nat × Int32 × Int32 × Int32 × Mm) : Prop := match q.1 with
  | 1 => sh q.2.1 = 16 → ∀ (ls : Array Slot) (H : Heap) (locs : List Loc), lv_has ls x.2.2.2.1 [(0, rf x.2.1 q.2.1), (1, .int q.2.2.1), (2, .int q.2.2.2.1), (3, .int q.2.2.2.2.1)] → PW x.2.1 (q.2.2.2.2.2) H → SH x H locs → SW x H locs 4 ls []
  | 2 => sh q.2.1 = 16 → ∀ (ls : Array Slot) (H : Heap) (locs : List Loc), lv_has ls x.2.2.2.1 [(0, rf x.2.1 q.2.1), (1, .int q.2.2.1), (2, .int q.2.2.2.1), (3, .int q.2.2.2.2.1)] → PW x.2.1 (q.2.2.2.2.2) H → SH x H locs → SW x H locs 41 ls []
  | 3 => sh q.2.1 = 16 → ∀ (ls : Array Slot) (H : Heap) (locs : List Loc), lv_has ls x.2.2.2.1 [(0, rf x.2.1 q.2.1), (1, .int q.2.2.1), (2, .int q.2.2.2.1), (3, .int q.2.2.2.2.1)] → PW x.2.1 (q.2.2.2.2.2) H → SH x H locs → SW x H locs 77 ls []
  | 4 => sh q.2.1 = 16 → ∀ (ls : Array Slot) (H : Heap) (locs : List Loc), lv_has ls x.2.2.2.1 [(0, rf x.2.1 q.2.1), (1, .int q.2.2.1), (2, .int q.2.2.2.1), (3, .int q.2.2.2.2.1)] → PW x.2.1 (q.2.2.2.2.2) H → SH x H locs → SW x H locs 113 ls []
  | _ => True
set_option maxRecDepth 100000 in
noncomputable def bX6_counted_141 (l0 : Nat) (l1 : Int32) (l3 : Int32) (s0 : Int32) (s1 : Int32) (M : Mm) : Option ((Nat × Nat × Int32 × Int32 × Int32 × Mm) ⊕ Int32 × Mm) := ltI (s1 + s0) fun v1 => some (.inl (4, l0, l1, v1, (l3 + 1), M))
set_option maxRecDepth 100000 in
set_option maxHeartbeats 4000000 in
theorem sX6_counted_141 {x : SB} {F : ((Nat × Nat × Int32 × Int32 × Int32 × Mm) ⊕ Int32 × Mm) → Prop} (X : CX x cX6_counted RX6 3) (hL : x.2.2.2.1 = 4) (Hr : RTI x cX6_counted .int F Sum.inr) (HH : ∀ q, F (.inl q) → pX6_counted x q) {l0 : Nat} {l1 : Int32} {l3 : Int32} {s0 : Int32} {s1 : Int32} {M : Mm} (h_l0 : sh l0 = 16) : SIM x F (bX6_counted_141 l0 l1 l3 s0 s1 M) 141 [(0, rf x.2.1 l0), (1, .int l1), (3, .int l3)] [.int s0, .int s1] M := by
  unfold bX6_counted_141
  refine r_iadd X dX6_counted_141 ?_
  refine r_letI (fun v1 => ?_)
  refine r_istore_n [(2, .int v1), (0, rf x.2.1 l0), (1, .int l1), (3, .int l3)] X dX6_counted_142 rfl (nlt hL (by decide)) rfl ?_
  refine r_iinc [(3, .int (l3 + 1)), (2, .int v1), (0, rf x.2.1 l0), (1, .int l1)] X dX6_counted_143 3 rfl rfl (nlt hL (by decide)) rfl ?_
  refine r_goto 113 X dX6_counted_146 (by decide) ?_
  exact r_hdr [(0, rf x.2.1 l0), (1, .int l1), (2, .int v1), (3, .int (l3 + 1))] [2, 3, 1, 0] rfl (fun h => HH _ h h_l0)
set_option maxRecDepth 100000 in
noncomputable def bX6_counted_140 (l0 : Nat) (l1 : Int32) (l3 : Int32) (s0 : Int32) (M : Mm) : Option ((Nat × Nat × Int32 × Int32 × Int32 × Mm) ⊕ Int32 × Mm) := bX6_counted_141 l0 l1 l3 0 s0 M
set_option maxRecDepth 100000 in
set_option maxHeartbeats 4000000 in
theorem sX6_counted_140 {x : SB} {F : ((Nat × Nat × Int32 × Int32 × Int32 × Mm) ⊕ Int32 × Mm) → Prop} (X : CX x cX6_counted RX6 3) (hL : x.2.2.2.1 = 4) (Hr : RTI x cX6_counted .int F Sum.inr) (HH : ∀ q, F (.inl q) → pX6_counted x q) {l0 : Nat} {l1 : Int32} {l3 : Int32} {s0 : Int32} {M : Mm} (h_l0 : sh l0 = 16) : SIM x F (bX6_counted_140 l0 l1 l3 s0 M) 140 [(0, rf x.2.1 l0), (1, .int l1), (3, .int l3)] [.int s0] M := by
  unfold bX6_counted_140
  refine r_iconst (v := 0) X dX6_counted_140 (by decide) ?_
  exact r_to [(0, rf x.2.1 l0), (1, .int l1), (3, .int l3)] [0, 1, 2] rfl (sX6_counted_141 X hL Hr HH h_l0)
set_option maxRecDepth 100000 in
noncomputable def bX6_counted_113 (l0 : Nat) (l1 : Int32) (l2 : Int32) (l3 : Int32) (M : Mm) : Option ((Nat × Nat × Int32 × Int32 × Int32 × Mm) ⊕ Int32 × Mm) := gfI M l0 10 fun v2 => if v2 ≤ l3 then if l1 = 0 then gfI M l0 10 fun v3 => some (.inr (v3, M)) else if l1 = 1 then cal (fX6_pathMany l0 M) fun v5 M4 => some (.inr (v5, M4)) else if l1 = 2 then gfI M l0 11 fun v6 => some (.inr (v6, M)) else if l1 = 3 then gfI M l0 25 fun v7 => some (.inr (v7, M)) else if l1 = 4 then cal (fX6_lying l0 (l1 - 4) M) fun v9 M8 => some (.inr (v9, M8)) else if l1 = 5 then cal (fX6_lying l0 (l1 - 4) M) fun v11 M10 => some (.inr (v11, M10)) else if l1 = 6 then cal (fX6_lying l0 (l1 - 4) M) fun v13 M12 => some (.inr (v13, M12)) else some (.inr (l2, M)) else if l1 = 10 then cal (fX6_isThicket l0 l3 M) fun v15 M14 => if v15 = 0 then bX6_counted_140 l0 l1 l3 l2 M14 else bX6_counted_141 l0 l1 l3 1 l2 M14 else bX6_counted_140 l0 l1 l3 l2 M
set_option maxRecDepth 100000 in
set_option maxHeartbeats 4000000 in
theorem sX6_counted_113 {x : SB} {F : ((Nat × Nat × Int32 × Int32 × Int32 × Mm) ⊕ Int32 × Mm) → Prop} (X : CX x cX6_counted RX6 3) (hL : x.2.2.2.1 = 4) (Hr : RTI x cX6_counted .int F Sum.inr) (HH : ∀ q, F (.inl q) → pX6_counted x q) {l0 : Nat} {l1 : Int32} {l2 : Int32} {l3 : Int32} {M : Mm} (h_l0 : sh l0 = 16) : SIM x F (bX6_counted_113 l0 l1 l2 l3 M) 113 [(0, rf x.2.1 l0), (1, .int l1), (2, .int l2), (3, .int l3)] [] M := by
  unfold bX6_counted_113
  refine r_iload_n X dX6_counted_113 rfl 3 rfl ?_
  refine r_aload_n X dX6_counted_114 rfl 0 rfl ?_
  refine r_getI X fl_X6_167 (by decide) h_l0 dX6_counted_115 (fun v2 => ?_)
  refine r_icmp_ge 149 X dX6_counted_118 (by decide) ?_ ?_
  · refine r_iload_n X dX6_counted_149 rfl 1 rfl ?_
    refine r_tsw 0 192 X dX6_counted_150 (by decide) (by decide) rfl (by decide) ?_ (fun q0 => ?_)
    · refine r_aload_n X dX6_counted_192 rfl 0 rfl ?_
      refine r_getI X fl_X6_167 (by decide) h_l0 dX6_counted_193 (fun v3 => ?_)
      exact r_iret Hr rfl dX6_counted_196
    refine r_tsw 1 197 X dX6_counted_150 (by decide) (by decide) rfl (by decide) ?_ (fun q1 => ?_)
    · refine r_aload_n X dX6_counted_197 rfl 0 rfl ?_
      refine r_callVI [] X mt_X6_297 (by decide) h_l0 (by decide) (okX6_pathMany _ _ X.J h_l0) rfl (Nat.le_of_ble_eq_true rfl) dX6_counted_198 rfl (fun v5 M4 => ?_)
      exact r_iret Hr rfl dX6_counted_201
    refine r_tsw 2 202 X dX6_counted_150 (by decide) (by decide) rfl (by decide) ?_ (fun q2 => ?_)
    · refine r_aload_n X dX6_counted_202 rfl 0 rfl ?_
      refine r_getI X fl_X6_170 (by decide) h_l0 dX6_counted_203 (fun v6 => ?_)
      exact r_iret Hr rfl dX6_counted_206
    refine r_tsw 3 207 X dX6_counted_150 (by decide) (by decide) rfl (by decide) ?_ (fun q3 => ?_)
    · refine r_aload_n X dX6_counted_207 rfl 0 rfl ?_
      refine r_getI X fl_X6_177 (by decide) h_l0 dX6_counted_208 (fun v7 => ?_)
      exact r_iret Hr rfl dX6_counted_211
    refine r_tsw 4 212 X dX6_counted_150 (by decide) (by decide) rfl (by decide) ?_ (fun q4 => ?_)
    · refine r_aload_n X dX6_counted_212 rfl 0 rfl ?_
      refine r_iload_n X dX6_counted_213 rfl 1 rfl ?_
      refine r_iconst (v := 4) X dX6_counted_214 (by decide) ?_
      refine r_isub X dX6_counted_215 ?_
      refine r_callVI [.int (l1 - 4)] X mt_X6_300 (by decide) h_l0 (by decide) (okX6_lying _ _ X.J h_l0) rfl (Nat.le_of_ble_eq_true rfl) dX6_counted_216 rfl (fun v9 M8 => ?_)
      exact r_iret Hr rfl dX6_counted_219
    refine r_tsw 5 212 X dX6_counted_150 (by decide) (by decide) rfl (by decide) ?_ (fun q5 => ?_)
    · refine r_aload_n X dX6_counted_212 rfl 0 rfl ?_
      refine r_iload_n X dX6_counted_213 rfl 1 rfl ?_
      refine r_iconst (v := 4) X dX6_counted_214 (by decide) ?_
      refine r_isub X dX6_counted_215 ?_
      refine r_callVI [.int (l1 - 4)] X mt_X6_300 (by decide) h_l0 (by decide) (okX6_lying _ _ X.J h_l0) rfl (Nat.le_of_ble_eq_true rfl) dX6_counted_216 rfl (fun v11 M10 => ?_)
      exact r_iret Hr rfl dX6_counted_219
    refine r_tsw 6 212 X dX6_counted_150 (by decide) (by decide) rfl (by decide) ?_ (fun q6 => ?_)
    · refine r_aload_n X dX6_counted_212 rfl 0 rfl ?_
      refine r_iload_n X dX6_counted_213 rfl 1 rfl ?_
      refine r_iconst (v := 4) X dX6_counted_214 (by decide) ?_
      refine r_isub X dX6_counted_215 ?_
      refine r_callVI [.int (l1 - 4)] X mt_X6_300 (by decide) h_l0 (by decide) (okX6_lying _ _ X.J h_l0) rfl (Nat.le_of_ble_eq_true rfl) dX6_counted_216 rfl (fun v13 M12 => ?_)
      exact r_iret Hr rfl dX6_counted_219
    refine r_tswd 220 X dX6_counted_150 (by have := i32_ne q0 (n := 0) (by decide); have := i32_ne q1 (n := 1) (by decide); have := i32_ne q2 (n := 2) (by decide); have := i32_ne q3 (n := 3) (by decide); have := i32_ne q4 (n := 4) (by decide); have := i32_ne q5 (n := 5) (by decide); have := i32_ne q6 (n := 6) (by decide); omega) (by decide) ?_
    refine r_iload_n X dX6_counted_220 rfl 2 rfl ?_
    exact r_iret Hr rfl dX6_counted_221
  · refine r_iload_n X dX6_counted_121 rfl 2 rfl ?_
    refine r_iload_n X dX6_counted_122 rfl 1 rfl ?_
    refine r_bipush (v := 10) X dX6_counted_123 (by decide) ?_
    refine r_icmp_ne 140 X dX6_counted_125 (by decide) ?_ ?_
    · refine r_aload_n X dX6_counted_128 rfl 0 rfl ?_
      refine r_iload_n X dX6_counted_129 rfl 3 rfl ?_
      refine r_callVI [.int l3] X mt_X6_193 (by decide) h_l0 (by decide) (okX6_isThicket _ _ X.J h_l0) rfl (Nat.le_of_ble_eq_true rfl) dX6_counted_130 rfl (fun v15 M14 => ?_)
      refine r_if_eq 140 X dX6_counted_133 (by decide) ?_ ?_
      · exact r_to [(0, rf x.2.1 l0), (1, .int l1), (3, .int l3)] [0, 1, 3] rfl (sX6_counted_140 X hL Hr HH h_l0)
      · refine r_iconst (v := 1) X dX6_counted_136 (by decide) ?_
        refine r_goto 141 X dX6_counted_137 (by decide) ?_
        exact r_to [(0, rf x.2.1 l0), (1, .int l1), (3, .int l3)] [0, 1, 3] rfl (sX6_counted_141 X hL Hr HH h_l0)
    · exact r_to [(0, rf x.2.1 l0), (1, .int l1), (3, .int l3)] [0, 1, 3] rfl (sX6_counted_140 X hL Hr HH h_l0)
set_option maxRecDepth 100000 in
noncomputable def bX6_counted_103 (l0 : Nat) (l1 : Int32) (l3 : Int32) (s0 : Int32) (s1 : Int32) (M : Mm) : Option ((Nat × Nat × Int32 × Int32 × Int32 × Mm) ⊕ Int32 × Mm) := ltI (s1 + s0) fun v16 => some (.inl (3, l0, l1, v16, (l3 + 1), M))
set_option maxRecDepth 100000 in
set_option maxHeartbeats 4000000 in
theorem sX6_counted_103 {x : SB} {F : ((Nat × Nat × Int32 × Int32 × Int32 × Mm) ⊕ Int32 × Mm) → Prop} (X : CX x cX6_counted RX6 3) (hL : x.2.2.2.1 = 4) (Hr : RTI x cX6_counted .int F Sum.inr) (HH : ∀ q, F (.inl q) → pX6_counted x q) {l0 : Nat} {l1 : Int32} {l3 : Int32} {s0 : Int32} {s1 : Int32} {M : Mm} (h_l0 : sh l0 = 16) : SIM x F (bX6_counted_103 l0 l1 l3 s0 s1 M) 103 [(0, rf x.2.1 l0), (1, .int l1), (3, .int l3)] [.int s0, .int s1] M := by
  unfold bX6_counted_103
  refine r_iadd X dX6_counted_103 ?_
  refine r_letI (fun v16 => ?_)
  refine r_istore_n [(2, .int v16), (0, rf x.2.1 l0), (1, .int l1), (3, .int l3)] X dX6_counted_104 rfl (nlt hL (by decide)) rfl ?_
  refine r_iinc [(3, .int (l3 + 1)), (2, .int v16), (0, rf x.2.1 l0), (1, .int l1)] X dX6_counted_105 3 rfl rfl (nlt hL (by decide)) rfl ?_
  refine r_goto 77 X dX6_counted_108 (by decide) ?_
  exact r_hdr [(0, rf x.2.1 l0), (1, .int l1), (2, .int v16), (3, .int (l3 + 1))] [2, 3, 1, 0] rfl (fun h => HH _ h h_l0)
set_option maxRecDepth 100000 in
noncomputable def bX6_counted_102 (l0 : Nat) (l1 : Int32) (l3 : Int32) (s0 : Int32) (M : Mm) : Option ((Nat × Nat × Int32 × Int32 × Int32 × Mm) ⊕ Int32 × Mm) := bX6_counted_103 l0 l1 l3 0 s0 M
set_option maxRecDepth 100000 in
set_option maxHeartbeats 4000000 in
theorem sX6_counted_102 {x : SB} {F : ((Nat × Nat × Int32 × Int32 × Int32 × Mm) ⊕ Int32 × Mm) → Prop} (X : CX x cX6_counted RX6 3) (hL : x.2.2.2.1 = 4) (Hr : RTI x cX6_counted .int F Sum.inr) (HH : ∀ q, F (.inl q) → pX6_counted x q) {l0 : Nat} {l1 : Int32} {l3 : Int32} {s0 : Int32} {M : Mm} (h_l0 : sh l0 = 16) : SIM x F (bX6_counted_102 l0 l1 l3 s0 M) 102 [(0, rf x.2.1 l0), (1, .int l1), (3, .int l3)] [.int s0] M := by
  unfold bX6_counted_102
  refine r_iconst (v := 0) X dX6_counted_102 (by decide) ?_
  exact r_to [(0, rf x.2.1 l0), (1, .int l1), (3, .int l3)] [0, 1, 2] rfl (sX6_counted_103 X hL Hr HH h_l0)
set_option maxRecDepth 100000 in
noncomputable def bX6_counted_77 (l0 : Nat) (l1 : Int32) (l2 : Int32) (l3 : Int32) (M : Mm) : Option ((Nat × Nat × Int32 × Int32 × Int32 × Mm) ⊕ Int32 × Mm) := if 3 ≤ l3 then some (.inl (4, l0, l1, l2, 0, M)) else if l1 = 9 then gfR M 2 l0 27 fun v17 => ldI M v17 l3 fun v18 => if v18 = 0 then bX6_counted_102 l0 l1 l3 l2 M else bX6_counted_103 l0 l1 l3 1 l2 M else bX6_counted_102 l0 l1 l3 l2 M
set_option maxRecDepth 100000 in
set_option maxHeartbeats 4000000 in
theorem sX6_counted_77 {x : SB} {F : ((Nat × Nat × Int32 × Int32 × Int32 × Mm) ⊕ Int32 × Mm) → Prop} (X : CX x cX6_counted RX6 3) (hL : x.2.2.2.1 = 4) (Hr : RTI x cX6_counted .int F Sum.inr) (HH : ∀ q, F (.inl q) → pX6_counted x q) {l0 : Nat} {l1 : Int32} {l2 : Int32} {l3 : Int32} {M : Mm} (h_l0 : sh l0 = 16) : SIM x F (bX6_counted_77 l0 l1 l2 l3 M) 77 [(0, rf x.2.1 l0), (1, .int l1), (2, .int l2), (3, .int l3)] [] M := by
  unfold bX6_counted_77
  refine r_iload_n X dX6_counted_77 rfl 3 rfl ?_
  refine r_iconst (v := 3) X dX6_counted_78 (by decide) ?_
  refine r_icmp_ge 111 X dX6_counted_79 (by decide) ?_ ?_
  · refine r_iconst (v := 0) X dX6_counted_111 (by decide) ?_
    refine r_istore_n [(3, .int 0), (0, rf x.2.1 l0), (1, .int l1), (2, .int l2)] X dX6_counted_112 rfl (nlt hL (by decide)) rfl ?_
    exact r_hdr [(0, rf x.2.1 l0), (1, .int l1), (2, .int l2), (3, .int 0)] [1, 2, 3, 0] rfl (fun h => HH _ h h_l0)
  · refine r_iload_n X dX6_counted_82 rfl 2 rfl ?_
    refine r_iload_n X dX6_counted_83 rfl 1 rfl ?_
    refine r_bipush (v := 9) X dX6_counted_84 (by decide) ?_
    refine r_icmp_ne 102 X dX6_counted_86 (by decide) ?_ ?_
    · refine r_aload_n X dX6_counted_89 rfl 0 rfl ?_
      refine r_getR X fl_X6_57 (by decide) h_l0 dX6_counted_90 (fun v17 h_v17 => ?_)
      refine r_iload_n X dX6_counted_93 rfl 3 rfl ?_
      refine r_zald X h_v17 dX6_counted_94 (fun v18 => ?_)
      refine r_if_eq 102 X dX6_counted_95 (by decide) ?_ ?_
      · exact r_to [(0, rf x.2.1 l0), (1, .int l1), (3, .int l3)] [0, 1, 3] rfl (sX6_counted_102 X hL Hr HH h_l0)
      · refine r_iconst (v := 1) X dX6_counted_98 (by decide) ?_
        refine r_goto 103 X dX6_counted_99 (by decide) ?_
        exact r_to [(0, rf x.2.1 l0), (1, .int l1), (3, .int l3)] [0, 1, 3] rfl (sX6_counted_103 X hL Hr HH h_l0)
    · exact r_to [(0, rf x.2.1 l0), (1, .int l1), (3, .int l3)] [0, 1, 3] rfl (sX6_counted_102 X hL Hr HH h_l0)
set_option maxRecDepth 100000 in
noncomputable def bX6_counted_67 (l0 : Nat) (l1 : Int32) (l3 : Int32) (s0 : Int32) (s1 : Int32) (M : Mm) : Option ((Nat × Nat × Int32 × Int32 × Int32 × Mm) ⊕ Int32 × Mm) := ltI (s1 + s0) fun v19 => some (.inl (2, l0, l1, v19, (l3 + 1), M))
set_option maxRecDepth 100000 in
set_option maxHeartbeats 4000000 in
theorem sX6_counted_67 {x : SB} {F : ((Nat × Nat × Int32 × Int32 × Int32 × Mm) ⊕ Int32 × Mm) → Prop} (X : CX x cX6_counted RX6 3) (hL : x.2.2.2.1 = 4) (Hr : RTI x cX6_counted .int F Sum.inr) (HH : ∀ q, F (.inl q) → pX6_counted x q) {l0 : Nat} {l1 : Int32} {l3 : Int32} {s0 : Int32} {s1 : Int32} {M : Mm} (h_l0 : sh l0 = 16) : SIM x F (bX6_counted_67 l0 l1 l3 s0 s1 M) 67 [(0, rf x.2.1 l0), (1, .int l1), (3, .int l3)] [.int s0, .int s1] M := by
  unfold bX6_counted_67
  refine r_iadd X dX6_counted_67 ?_
  refine r_letI (fun v19 => ?_)
  refine r_istore_n [(2, .int v19), (0, rf x.2.1 l0), (1, .int l1), (3, .int l3)] X dX6_counted_68 rfl (nlt hL (by decide)) rfl ?_
  refine r_iinc [(3, .int (l3 + 1)), (2, .int v19), (0, rf x.2.1 l0), (1, .int l1)] X dX6_counted_69 3 rfl rfl (nlt hL (by decide)) rfl ?_
  refine r_goto 41 X dX6_counted_72 (by decide) ?_
  exact r_hdr [(0, rf x.2.1 l0), (1, .int l1), (2, .int v19), (3, .int (l3 + 1))] [2, 3, 1, 0] rfl (fun h => HH _ h h_l0)
set_option maxRecDepth 100000 in
noncomputable def bX6_counted_66 (l0 : Nat) (l1 : Int32) (l3 : Int32) (s0 : Int32) (M : Mm) : Option ((Nat × Nat × Int32 × Int32 × Int32 × Mm) ⊕ Int32 × Mm) := bX6_counted_67 l0 l1 l3 0 s0 M
set_option maxRecDepth 100000 in
set_option maxHeartbeats 4000000 in
theorem sX6_counted_66 {x : SB} {F : ((Nat × Nat × Int32 × Int32 × Int32 × Mm) ⊕ Int32 × Mm) → Prop} (X : CX x cX6_counted RX6 3) (hL : x.2.2.2.1 = 4) (Hr : RTI x cX6_counted .int F Sum.inr) (HH : ∀ q, F (.inl q) → pX6_counted x q) {l0 : Nat} {l1 : Int32} {l3 : Int32} {s0 : Int32} {M : Mm} (h_l0 : sh l0 = 16) : SIM x F (bX6_counted_66 l0 l1 l3 s0 M) 66 [(0, rf x.2.1 l0), (1, .int l1), (3, .int l3)] [.int s0] M := by
  unfold bX6_counted_66
  refine r_iconst (v := 0) X dX6_counted_66 (by decide) ?_
  exact r_to [(0, rf x.2.1 l0), (1, .int l1), (3, .int l3)] [0, 1, 2] rfl (sX6_counted_67 X hL Hr HH h_l0)
set_option maxRecDepth 100000 in
noncomputable def bX6_counted_41 (l0 : Nat) (l1 : Int32) (l2 : Int32) (l3 : Int32) (M : Mm) : Option ((Nat × Nat × Int32 × Int32 × Int32 × Mm) ⊕ Int32 × Mm) := if 4 ≤ l3 then some (.inl (3, l0, l1, l2, 0, M)) else if l1 = 8 then gfR M 0 l0 8 fun v20 => ldI M v20 l3 fun v21 => if v21 < 0 then bX6_counted_66 l0 l1 l3 l2 M else bX6_counted_67 l0 l1 l3 1 l2 M else bX6_counted_66 l0 l1 l3 l2 M
set_option maxRecDepth 100000 in
set_option maxHeartbeats 4000000 in
theorem sX6_counted_41 {x : SB} {F : ((Nat × Nat × Int32 × Int32 × Int32 × Mm) ⊕ Int32 × Mm) → Prop} (X : CX x cX6_counted RX6 3) (hL : x.2.2.2.1 = 4) (Hr : RTI x cX6_counted .int F Sum.inr) (HH : ∀ q, F (.inl q) → pX6_counted x q) {l0 : Nat} {l1 : Int32} {l2 : Int32} {l3 : Int32} {M : Mm} (h_l0 : sh l0 = 16) : SIM x F (bX6_counted_41 l0 l1 l2 l3 M) 41 [(0, rf x.2.1 l0), (1, .int l1), (2, .int l2), (3, .int l3)] [] M := by
  unfold bX6_counted_41
  refine r_iload_n X dX6_counted_41 rfl 3 rfl ?_
  refine r_iconst (v := 4) X dX6_counted_42 (by decide) ?_
  refine r_icmp_ge 75 X dX6_counted_43 (by decide) ?_ ?_
  · refine r_iconst (v := 0) X dX6_counted_75 (by decide) ?_
    refine r_istore_n [(3, .int 0), (0, rf x.2.1 l0), (1, .int l1), (2, .int l2)] X dX6_counted_76 rfl (nlt hL (by decide)) rfl ?_
    exact r_hdr [(0, rf x.2.1 l0), (1, .int l1), (2, .int l2), (3, .int 0)] [1, 2, 3, 0] rfl (fun h => HH _ h h_l0)
  · refine r_iload_n X dX6_counted_46 rfl 2 rfl ?_
    refine r_iload_n X dX6_counted_47 rfl 1 rfl ?_
    refine r_bipush (v := 8) X dX6_counted_48 (by decide) ?_
    refine r_icmp_ne 66 X dX6_counted_50 (by decide) ?_ ?_
    · refine r_aload_n X dX6_counted_53 rfl 0 rfl ?_
      refine r_getR X fl_X6_26 (by decide) h_l0 dX6_counted_54 (fun v20 h_v20 => ?_)
      refine r_iload_n X dX6_counted_57 rfl 3 rfl ?_
      refine r_iald X h_v20 dX6_counted_58 (fun v21 => ?_)
      refine r_if_lt 66 X dX6_counted_59 (by decide) ?_ ?_
      · exact r_to [(0, rf x.2.1 l0), (1, .int l1), (3, .int l3)] [0, 1, 3] rfl (sX6_counted_66 X hL Hr HH h_l0)
      · refine r_iconst (v := 1) X dX6_counted_62 (by decide) ?_
        refine r_goto 67 X dX6_counted_63 (by decide) ?_
        exact r_to [(0, rf x.2.1 l0), (1, .int l1), (3, .int l3)] [0, 1, 3] rfl (sX6_counted_67 X hL Hr HH h_l0)
    · exact r_to [(0, rf x.2.1 l0), (1, .int l1), (3, .int l3)] [0, 1, 3] rfl (sX6_counted_66 X hL Hr HH h_l0)
set_option maxRecDepth 100000 in
noncomputable def bX6_counted_31 (l0 : Nat) (l1 : Int32) (l3 : Int32) (s0 : Int32) (s1 : Int32) (M : Mm) : Option ((Nat × Nat × Int32 × Int32 × Int32 × Mm) ⊕ Int32 × Mm) := ltI (s1 + s0) fun v22 => some (.inl (1, l0, l1, v22, (l3 + 1), M))
set_option maxRecDepth 100000 in
set_option maxHeartbeats 4000000 in
theorem sX6_counted_31 {x : SB} {F : ((Nat × Nat × Int32 × Int32 × Int32 × Mm) ⊕ Int32 × Mm) → Prop} (X : CX x cX6_counted RX6 3) (hL : x.2.2.2.1 = 4) (Hr : RTI x cX6_counted .int F Sum.inr) (HH : ∀ q, F (.inl q) → pX6_counted x q) {l0 : Nat} {l1 : Int32} {l3 : Int32} {s0 : Int32} {s1 : Int32} {M : Mm} (h_l0 : sh l0 = 16) : SIM x F (bX6_counted_31 l0 l1 l3 s0 s1 M) 31 [(0, rf x.2.1 l0), (1, .int l1), (3, .int l3)] [.int s0, .int s1] M := by
  unfold bX6_counted_31
  refine r_iadd X dX6_counted_31 ?_
  refine r_letI (fun v22 => ?_)
  refine r_istore_n [(2, .int v22), (0, rf x.2.1 l0), (1, .int l1), (3, .int l3)] X dX6_counted_32 rfl (nlt hL (by decide)) rfl ?_
  refine r_iinc [(3, .int (l3 + 1)), (2, .int v22), (0, rf x.2.1 l0), (1, .int l1)] X dX6_counted_33 3 rfl rfl (nlt hL (by decide)) rfl ?_
  refine r_goto 4 X dX6_counted_36 (by decide) ?_
  exact r_hdr [(0, rf x.2.1 l0), (1, .int l1), (2, .int v22), (3, .int (l3 + 1))] [2, 3, 1, 0] rfl (fun h => HH _ h h_l0)
set_option maxRecDepth 100000 in
noncomputable def bX6_counted_30 (l0 : Nat) (l1 : Int32) (l3 : Int32) (s0 : Int32) (M : Mm) : Option ((Nat × Nat × Int32 × Int32 × Int32 × Mm) ⊕ Int32 × Mm) := bX6_counted_31 l0 l1 l3 0 s0 M
set_option maxRecDepth 100000 in
set_option maxHeartbeats 4000000 in
theorem sX6_counted_30 {x : SB} {F : ((Nat × Nat × Int32 × Int32 × Int32 × Mm) ⊕ Int32 × Mm) → Prop} (X : CX x cX6_counted RX6 3) (hL : x.2.2.2.1 = 4) (Hr : RTI x cX6_counted .int F Sum.inr) (HH : ∀ q, F (.inl q) → pX6_counted x q) {l0 : Nat} {l1 : Int32} {l3 : Int32} {s0 : Int32} {M : Mm} (h_l0 : sh l0 = 16) : SIM x F (bX6_counted_30 l0 l1 l3 s0 M) 30 [(0, rf x.2.1 l0), (1, .int l1), (3, .int l3)] [.int s0] M := by
  unfold bX6_counted_30
  refine r_iconst (v := 0) X dX6_counted_30 (by decide) ?_
  exact r_to [(0, rf x.2.1 l0), (1, .int l1), (3, .int l3)] [0, 1, 2] rfl (sX6_counted_31 X hL Hr HH h_l0)
set_option maxRecDepth 100000 in
noncomputable def bX6_counted_4 (l0 : Nat) (l1 : Int32) (l2 : Int32) (l3 : Int32) (M : Mm) : Option ((Nat × Nat × Int32 × Int32 × Int32 × Mm) ⊕ Int32 × Mm) := if 6 ≤ l3 then some (.inl (2, l0, l1, l2, 0, M)) else if l1 = 7 then gfR M 0 l0 5 fun v23 => ldI M v23 l3 fun v24 => if v24 < 0 then bX6_counted_30 l0 l1 l3 l2 M else bX6_counted_31 l0 l1 l3 1 l2 M else bX6_counted_30 l0 l1 l3 l2 M
set_option maxRecDepth 100000 in
set_option maxHeartbeats 4000000 in
theorem sX6_counted_4 {x : SB} {F : ((Nat × Nat × Int32 × Int32 × Int32 × Mm) ⊕ Int32 × Mm) → Prop} (X : CX x cX6_counted RX6 3) (hL : x.2.2.2.1 = 4) (Hr : RTI x cX6_counted .int F Sum.inr) (HH : ∀ q, F (.inl q) → pX6_counted x q) {l0 : Nat} {l1 : Int32} {l2 : Int32} {l3 : Int32} {M : Mm} (h_l0 : sh l0 = 16) : SIM x F (bX6_counted_4 l0 l1 l2 l3 M) 4 [(0, rf x.2.1 l0), (1, .int l1), (2, .int l2), (3, .int l3)] [] M := by
  unfold bX6_counted_4
  refine r_iload_n X dX6_counted_4 rfl 3 rfl ?_
  refine r_bipush (v := 6) X dX6_counted_5 (by decide) ?_
  refine r_icmp_ge 39 X dX6_counted_7 (by decide) ?_ ?_
  · refine r_iconst (v := 0) X dX6_counted_39 (by decide) ?_
    refine r_istore_n [(3, .int 0), (0, rf x.2.1 l0), (1, .int l1), (2, .int l2)] X dX6_counted_40 rfl (nlt hL (by decide)) rfl ?_
    exact r_hdr [(0, rf x.2.1 l0), (1, .int l1), (2, .int l2), (3, .int 0)] [1, 2, 3, 0] rfl (fun h => HH _ h h_l0)
  · refine r_iload_n X dX6_counted_10 rfl 2 rfl ?_
    refine r_iload_n X dX6_counted_11 rfl 1 rfl ?_
    refine r_bipush (v := 7) X dX6_counted_12 (by decide) ?_
    refine r_icmp_ne 30 X dX6_counted_14 (by decide) ?_ ?_
    · refine r_aload_n X dX6_counted_17 rfl 0 rfl ?_
      refine r_getR X fl_X6_17 (by decide) h_l0 dX6_counted_18 (fun v23 h_v23 => ?_)
      refine r_iload_n X dX6_counted_21 rfl 3 rfl ?_
      refine r_iald X h_v23 dX6_counted_22 (fun v24 => ?_)
      refine r_if_lt 30 X dX6_counted_23 (by decide) ?_ ?_
      · exact r_to [(0, rf x.2.1 l0), (1, .int l1), (3, .int l3)] [0, 1, 3] rfl (sX6_counted_30 X hL Hr HH h_l0)
      · refine r_iconst (v := 1) X dX6_counted_26 (by decide) ?_
        refine r_goto 31 X dX6_counted_27 (by decide) ?_
        exact r_to [(0, rf x.2.1 l0), (1, .int l1), (3, .int l3)] [0, 1, 3] rfl (sX6_counted_31 X hL Hr HH h_l0)
    · exact r_to [(0, rf x.2.1 l0), (1, .int l1), (3, .int l3)] [0, 1, 3] rfl (sX6_counted_30 X hL Hr HH h_l0)
set_option maxRecDepth 100000 in
noncomputable def bX6_counted_0 (l0 : Nat) (l1 : Int32) (M : Mm) : Option ((Nat × Nat × Int32 × Int32 × Int32 × Mm) ⊕ Int32 × Mm) := some (.inl (1, l0, l1, 0, 0, M))
set_option maxRecDepth 100000 in
set_option maxHeartbeats 4000000 in
theorem sX6_counted_0 {x : SB} {F : ((Nat × Nat × Int32 × Int32 × Int32 × Mm) ⊕ Int32 × Mm) → Prop} (X : CX x cX6_counted RX6 3) (hL : x.2.2.2.1 = 4) (Hr : RTI x cX6_counted .int F Sum.inr) (HH : ∀ q, F (.inl q) → pX6_counted x q) {l0 : Nat} {l1 : Int32} {M : Mm} (h_l0 : sh l0 = 16) : SIM x F (bX6_counted_0 l0 l1 M) 0 [(0, rf x.2.1 l0), (1, .int l1)] [] M := by
  unfold bX6_counted_0
  refine r_iconst (v := 0) X dX6_counted_0 (by decide) ?_
  refine r_istore_n [(2, .int 0), (0, rf x.2.1 l0), (1, .int l1)] X dX6_counted_1 rfl (nlt hL (by decide)) rfl ?_
  refine r_iconst (v := 0) X dX6_counted_2 (by decide) ?_
  refine r_istore_n [(3, .int 0), (2, .int 0), (0, rf x.2.1 l0), (1, .int l1)] X dX6_counted_3 rfl (nlt hL (by decide)) rfl ?_
  exact r_hdr [(0, rf x.2.1 l0), (1, .int l1), (2, .int 0), (3, .int 0)] [2, 3, 1, 0] rfl (fun h => HH _ h h_l0)
set_option maxRecDepth 100000 in
noncomputable def gX6_counted (q : Nat × Nat × Int32 × Int32 × Int32 × Mm) : Option ((Nat × Nat × Int32 × Int32 × Int32 × Mm) ⊕ Int32 × Mm) := match q.1 with
  | 1 => bX6_counted_4 (q.2.1) (q.2.2.1) (q.2.2.2.1) (q.2.2.2.2.1) (q.2.2.2.2.2)
  | 2 => bX6_counted_41 (q.2.1) (q.2.2.1) (q.2.2.2.1) (q.2.2.2.2.1) (q.2.2.2.2.2)
  | 3 => bX6_counted_77 (q.2.1) (q.2.2.1) (q.2.2.2.1) (q.2.2.2.2.1) (q.2.2.2.2.2)
  | 4 => bX6_counted_113 (q.2.1) (q.2.2.1) (q.2.2.2.1) (q.2.2.2.2.1) (q.2.2.2.2.2)
  | _ => none
set_option maxRecDepth 100000 in
noncomputable def fX6_counted (l0 : Nat) (l1 : Int32) (M : Mm) : Option (Int32 × Mm) := fen gX6_counted (bX6_counted_0 l0 l1 M)
set_option maxRecDepth 100000 in
set_option maxHeartbeats 4000000 in
theorem okX6_counted (l : Launch) (g : GX) (hJ : IJ g) {l0 : Nat} {l1 : Int32} {M : Mm} (h_l0 : sh l0 = 16) : CT l g yX6_counted cX6_counted 4 (some .int) 3 [rf g l0, .int l1] M (fX6_counted l0 l1 M) (fun r => some (.int r)) := by
  refine ct_I rfl hJ (Nat.le_of_ble_eq_true rfl) (fun x r hg hL hl X hf Hr => ?_)
  subst hg
  have Hr2 : RTI x cX6_counted .int (Sum.elim (pX6_counted x) (fun q => q = r)) Sum.inr := fun v M h => Hr v M h
  have HP : ∀ q, fnl gX6_counted q = some r → pX6_counted x q := by
    intro q hq
    refine fnl_ind (pX6_counted x) (fun q hq => ?_) hq
    obtain ⟨n, l0, l1, l2, l3, M⟩ := q
    match n, hq with
    | 1, hq => exact fun h_l0 ls H locs hl hP hS => sX6_counted_4 X hL Hr2 (fun _ h => h) h_l0 hq ls H locs hl hP hS
    | 2, hq => exact fun h_l0 ls H locs hl hP hS => sX6_counted_41 X hL Hr2 (fun _ h => h) h_l0 hq ls H locs hl hP hS
    | 3, hq => exact fun h_l0 ls H locs hl hP hS => sX6_counted_77 X hL Hr2 (fun _ h => h) h_l0 hq ls H locs hl hP hS
    | 4, hq => exact fun h_l0 ls H locs hl hP hS => sX6_counted_113 X hL Hr2 (fun _ h => h) h_l0 hq ls H locs hl hP hS
    | 0, hq => exact trivial
    | n + 5, hq => exact trivial
  exact fun _ ls H locs hl hP hS => sX6_counted_0 X hL Hr2 (fun _ h => h) h_l0 (fen_w hf HP) ls H locs hl hP hS
/-! CrumbWoodModel.count(I)I -/
set_option maxRecDepth 100000 in
noncomputable def fX6_count (l0 : Nat) (l1 : Int32) (M : Mm) : Option (Int32 × Mm) := cal (fX6_in l1 0 10 M) fun v2 M1 => if v2 = 0 then some (((-1), M1)) else cal (fX6_counted l0 l1 M1) fun v4 M3 => some ((v4, M3))
set_option maxRecDepth 100000 in
set_option maxHeartbeats 4000000 in
theorem sX6_count_0 {x : SB} {F : (Int32 × Mm) → Prop} (X : CX x cX6_count RX6 4) (hL : x.2.2.2.1 = 2) (Hr : RTI x cX6_count .int F (fun q => q)) {l0 : Nat} {l1 : Int32} {M : Mm} (h_l0 : sh l0 = 16) : SIM x F (fX6_count l0 l1 M) 0 [(0, rf x.2.1 l0), (1, .int l1)] [] M := by
  unfold fX6_count
  refine r_iload_n X dX6_count_0 rfl 1 rfl ?_
  refine r_iconst (v := 0) X dX6_count_1 (by decide) ?_
  refine r_bipush (v := 10) X dX6_count_2 (by decide) ?_
  refine r_callSI [.int l1, .int 0, .int 10] X mt_X6_92 (by decide) (okX6_in _ _ X.J) rfl (Nat.le_of_ble_eq_true rfl) dX6_count_4 rfl (fun v2 M1 => ?_)
  refine r_if_eq 18 X dX6_count_7 (by decide) ?_ ?_
  · refine r_iconst (v := (-1)) X dX6_count_18 (by decide) ?_
    exact r_iret Hr rfl dX6_count_19
  · refine r_aload_n X dX6_count_10 rfl 0 rfl ?_
    refine r_iload_n X dX6_count_11 rfl 1 rfl ?_
    refine r_callVI [.int l1] X mt_X6_303 (by decide) h_l0 (by decide) (okX6_counted _ _ X.J h_l0) rfl (Nat.le_of_ble_eq_true rfl) dX6_count_12 rfl (fun v4 M3 => ?_)
    refine r_goto 19 X dX6_count_15 (by decide) ?_
    exact r_iret Hr rfl dX6_count_19
set_option maxRecDepth 100000 in
set_option maxHeartbeats 4000000 in
theorem okX6_count (l : Launch) (g : GX) (hJ : IJ g) {l0 : Nat} {l1 : Int32} {M : Mm} (h_l0 : sh l0 = 16) : CT l g yX6_count cX6_count 2 (some .int) 4 [rf g l0, .int l1] M (fX6_count l0 l1 M) (fun r => some (.int r)) := by
  refine ct_I rfl hJ (Nat.le_of_ble_eq_true rfl) (fun x r hg hL hl X hf Hr => ?_)
  subst hg
  exact fun _ ls H locs hl hP hS => sX6_count_0 X hL Hr h_l0 ⟨_, hf, rfl⟩ ls H locs hl hP hS
/-! CrumbWoodModel.mix(J)V -/
set_option maxRecDepth 100000 in
noncomputable def fX6_mix (l0 : Nat) (l1 : Int64) (M : Mm) : Option (Unit × Mm) := gfJ M l0 40 fun v1 => pfJ M l0 40 (((31 : Int64) * v1) + l1) fun M2 => some (((), M2))
set_option maxRecDepth 100000 in
set_option maxHeartbeats 4000000 in
theorem sX6_mix_0 {x : SB} {F : (Unit × Mm) → Prop} (X : CX x cX6_mix RX6 0) (hL : x.2.2.2.1 = 3) (Hr : RTV x cX6_mix F (fun q => q)) {l0 : Nat} {l1 : Int64} {M : Mm} (h_l0 : sh l0 = 16) : SIM x F (fX6_mix l0 l1 M) 0 [(0, rf x.2.1 l0), (1, .long l1)] [] M := by
  unfold fX6_mix
  refine r_aload_n X dX6_mix_0 rfl 0 rfl ?_
  refine r_ldc2 X dX6_mix_1 k_1289 ?_
  refine r_aload_n X dX6_mix_4 rfl 0 rfl ?_
  refine r_getJ X fl_X6_308 (by decide) h_l0 dX6_mix_5 (fun v1 => ?_)
  refine r_lmul X dX6_mix_8 ?_
  refine r_lload_n X dX6_mix_9 rfl 1 rfl ?_
  refine r_ladd X dX6_mix_10 ?_
  refine r_putJ X fl_X6_308 (by decide) h_l0 (fun _ => rfl) (fun _ => rfl) dX6_mix_11 (fun M2 => ?_)
  exact r_vret Hr dX6_mix_14
set_option maxRecDepth 100000 in
set_option maxHeartbeats 4000000 in
theorem okX6_mix (l : Launch) (g : GX) (hJ : IJ g) {l0 : Nat} {l1 : Int64} {M : Mm} (h_l0 : sh l0 = 16) : CT l g yX6_mix cX6_mix 3 none 0 [rf g l0, .long l1] M (fX6_mix l0 l1 M) (fun _ => none) := by
  refine ct_V rfl hJ (Nat.le_of_ble_eq_true rfl) (fun x r hg hL hl X hf Hr => ?_)
  subst hg
  exact fun _ ls H locs hl hP hS => sX6_mix_0 X hL Hr h_l0 ⟨_, hf, rfl⟩ ls H locs hl hP hS
/-! CrumbWoodModel.placeTells(II)I -/
set_option maxRecDepth 100000 in
noncomputable def fX6_placeTells (l0 : Nat) (l1 : Int32) (l2 : Int32) (M : Mm) : Option (Int32 × Mm) := if l2 = 0 then gfR M 0 l0 12 fun v1 => ldI M v1 l1 fun v2 => some ((v2, M)) else if l2 = 1 then gfR M 0 l0 13 fun v3 => ldI M v3 l1 fun v4 => some ((v4, M)) else if l2 = 5 then cal (fX6_seen l0 0 l1 M) fun v6 M5 => some ((v6, M5)) else cal (fX6_marks l0 0 (l2 - 2) l1 M) fun v8 M7 => some ((v8, M7))
set_option maxRecDepth 100000 in
set_option maxHeartbeats 4000000 in
theorem sX6_placeTells_0 {x : SB} {F : (Int32 × Mm) → Prop} (X : CX x cX6_placeTells RX6 3) (hL : x.2.2.2.1 = 3) (Hr : RTI x cX6_placeTells .int F (fun q => q)) {l0 : Nat} {l1 : Int32} {l2 : Int32} {M : Mm} (h_l0 : sh l0 = 16) : SIM x F (fX6_placeTells l0 l1 l2 M) 0 [(0, rf x.2.1 l0), (1, .int l1), (2, .int l2)] [] M := by
  unfold fX6_placeTells
  refine r_iload_n X dX6_placeTells_0 rfl 2 rfl ?_
  refine r_lsw 0 36 X dX6_placeTells_1 rfl rfl (by decide) ?_ (fun q0 => ?_)
  · refine r_aload_n X dX6_placeTells_36 rfl 0 rfl ?_
    refine r_getR X fl_X6_33 (by decide) h_l0 dX6_placeTells_37 (fun v1 h_v1 => ?_)
    refine r_iload_n X dX6_placeTells_40 rfl 1 rfl ?_
    refine r_iald X h_v1 dX6_placeTells_41 (fun v2 => ?_)
    exact r_iret Hr rfl dX6_placeTells_42
  refine r_lsw 1 43 X dX6_placeTells_1 rfl rfl (by decide) ?_ (fun q1 => ?_)
  · refine r_aload_n X dX6_placeTells_43 rfl 0 rfl ?_
    refine r_getR X fl_X6_36 (by decide) h_l0 dX6_placeTells_44 (fun v3 h_v3 => ?_)
    refine r_iload_n X dX6_placeTells_47 rfl 1 rfl ?_
    refine r_iald X h_v3 dX6_placeTells_48 (fun v4 => ?_)
    exact r_iret Hr rfl dX6_placeTells_49
  refine r_lsw 5 50 X dX6_placeTells_1 rfl rfl (by decide) ?_ (fun q5 => ?_)
  · refine r_aload_n X dX6_placeTells_50 rfl 0 rfl ?_
    refine r_iconst (v := 0) X dX6_placeTells_51 (by decide) ?_
    refine r_iload_n X dX6_placeTells_52 rfl 1 rfl ?_
    refine r_callVI [.int 0, .int l1] X mt_X6_208 (by decide) h_l0 (by decide) (okX6_seen _ _ X.J h_l0) rfl (Nat.le_of_ble_eq_true rfl) dX6_placeTells_53 rfl (fun v6 M5 => ?_)
    exact r_iret Hr rfl dX6_placeTells_56
  refine r_lswd 57 X dX6_placeTells_1 rfl (by simp [Op.lookupswitch.offset_cons, Op.lookupswitch.offset_nil]; rw [if_neg (fun e => i32_ne q0 (n := 0) (by decide) e.symm), if_neg (fun e => i32_ne q1 (n := 1) (by decide) e.symm), if_neg (fun e => i32_ne q5 (n := 5) (by decide) e.symm)]) (by decide) ?_
  refine r_aload_n X dX6_placeTells_57 rfl 0 rfl ?_
  refine r_iconst (v := 0) X dX6_placeTells_58 (by decide) ?_
  refine r_iload_n X dX6_placeTells_59 rfl 2 rfl ?_
  refine r_iconst (v := 2) X dX6_placeTells_60 (by decide) ?_
  refine r_isub X dX6_placeTells_61 ?_
  refine r_iload_n X dX6_placeTells_62 rfl 1 rfl ?_
  refine r_callVI [.int 0, .int (l2 - 2), .int l1] X mt_X6_184 (by decide) h_l0 (by decide) (okX6_marks _ _ X.J h_l0) rfl (Nat.le_of_ble_eq_true rfl) dX6_placeTells_63 rfl (fun v8 M7 => ?_)
  exact r_iret Hr rfl dX6_placeTells_66
set_option maxRecDepth 100000 in
set_option maxHeartbeats 4000000 in
theorem okX6_placeTells (l : Launch) (g : GX) (hJ : IJ g) {l0 : Nat} {l1 : Int32} {l2 : Int32} {M : Mm} (h_l0 : sh l0 = 16) : CT l g yX6_placeTells cX6_placeTells 3 (some .int) 3 [rf g l0, .int l1, .int l2] M (fX6_placeTells l0 l1 l2 M) (fun r => some (.int r)) := by
  refine ct_I rfl hJ (Nat.le_of_ble_eq_true rfl) (fun x r hg hL hl X hf Hr => ?_)
  subst hg
  exact fun _ ls H locs hl hP hS => sX6_placeTells_0 X hL Hr h_l0 ⟨_, hf, rfl⟩ ls H locs hl hP hS
/-! CrumbWoodModel.mixWood()V -/
set_option maxRecDepth 100000 in
def pX6_mixWood (x : SB) (q : Nat × Nat × Int32 × Int32 × Mm) : Prop := match q.1 with
  | 1 => sh q.2.1 = 16 → ∀ (ls : Array Slot) (H : Heap) (locs : List Loc), lv_has ls x.2.2.2.1 [(0, rf x.2.1 q.2.1), (1, .int q.2.2.1)] → PW x.2.1 (q.2.2.2.2) H → SH x H locs → SW x H locs 2 ls []
  | 2 => sh q.2.1 = 16 → ∀ (ls : Array Slot) (H : Heap) (locs : List Loc), lv_has ls x.2.2.2.1 [(0, rf x.2.1 q.2.1), (1, .int q.2.2.1)] → PW x.2.1 (q.2.2.2.2) H → SH x H locs → SW x H locs 28 ls []
  | 3 => sh q.2.1 = 16 → ∀ (ls : Array Slot) (H : Heap) (locs : List Loc), lv_has ls x.2.2.2.1 [(0, rf x.2.1 q.2.1), (1, .int q.2.2.1), (2, .int q.2.2.2.1)] → PW x.2.1 (q.2.2.2.2) H → SH x H locs → SW x H locs 38 ls []
  | 4 => sh q.2.1 = 16 → ∀ (ls : Array Slot) (H : Heap) (locs : List Loc), lv_has ls x.2.2.2.1 [(0, rf x.2.1 q.2.1), (1, .int q.2.2.1)] → PW x.2.1 (q.2.2.2.2) H → SH x H locs → SW x H locs 69 ls []
  | 5 => sh q.2.1 = 16 → ∀ (ls : Array Slot) (H : Heap) (locs : List Loc), lv_has ls x.2.2.2.1 [(0, rf x.2.1 q.2.1), (1, .int q.2.2.1)] → PW x.2.1 (q.2.2.2.2) H → SH x H locs → SW x H locs 98 ls []
  | 6 => sh q.2.1 = 16 → ∀ (ls : Array Slot) (H : Heap) (locs : List Loc), lv_has ls x.2.2.2.1 [(0, rf x.2.1 q.2.1), (1, .int q.2.2.1)] → PW x.2.1 (q.2.2.2.2) H → SH x H locs → SW x H locs 132 ls []
  | _ => True
set_option maxRecDepth 100000 in
noncomputable def bX6_mixWood_160 (l0 : Nat) (l1 : Int32) (s0 : Int64) (s1 : Nat) (M : Mm) : Option ((Nat × Nat × Int32 × Int32 × Mm) ⊕ Unit × Mm) := cal (fX6_mix s1 s0 M) fun _ M1 => some (.inl (6, l0, (l1 + 1), 0, M1))
set_option maxRecDepth 100000 in
set_option maxHeartbeats 4000000 in
theorem sX6_mixWood_160 {x : SB} {F : ((Nat × Nat × Int32 × Int32 × Mm) ⊕ Unit × Mm) → Prop} (X : CX x cX6_mixWood RX6 4) (hL : x.2.2.2.1 = 3) (Hr : RTV x cX6_mixWood F Sum.inr) (HH : ∀ q, F (.inl q) → pX6_mixWood x q) {l0 : Nat} {l1 : Int32} {s0 : Int64} {s1 : Nat} {M : Mm} (h_l0 : sh l0 = 16) (h_s1 : sh s1 = 16) : SIM x F (bX6_mixWood_160 l0 l1 s0 s1 M) 160 [(0, rf x.2.1 l0), (1, .int l1)] [.long s0, rf x.2.1 s1] M := by
  unfold bX6_mixWood_160
  refine r_callVV [.long s0] X mt_X6_311 (by decide) h_s1 (by decide) (okX6_mix _ _ X.J h_s1) rfl (Nat.le_of_ble_eq_true rfl) dX6_mixWood_160 rfl (fun _ M1 => ?_)
  refine r_iinc [(1, .int (l1 + 1)), (0, rf x.2.1 l0)] X dX6_mixWood_163 1 rfl rfl (nlt hL (by decide)) rfl ?_
  refine r_goto 132 X dX6_mixWood_166 (by decide) ?_
  exact r_hdr [(0, rf x.2.1 l0), (1, .int (l1 + 1))] [1, 0] rfl (fun h => HH _ h h_l0)
set_option maxRecDepth 100000 in
noncomputable def bX6_mixWood_132 (l0 : Nat) (l1 : Int32) (M : Mm) : Option ((Nat × Nat × Int32 × Int32 × Mm) ⊕ Unit × Mm) := if 3 ≤ l1 then some (.inr ((), M)) else gfR M 2 l0 27 fun v2 => ldI M v2 l1 fun v3 => if v3 = 0 then bX6_mixWood_160 l0 l1 (-1) l0 M else gfR M 0 l0 28 fun v4 => ldI M v4 l1 fun v5 => bX6_mixWood_160 l0 l1 ((v5 : Int32).toInt64) l0 M
set_option maxRecDepth 100000 in
set_option maxHeartbeats 4000000 in
theorem sX6_mixWood_132 {x : SB} {F : ((Nat × Nat × Int32 × Int32 × Mm) ⊕ Unit × Mm) → Prop} (X : CX x cX6_mixWood RX6 4) (hL : x.2.2.2.1 = 3) (Hr : RTV x cX6_mixWood F Sum.inr) (HH : ∀ q, F (.inl q) → pX6_mixWood x q) {l0 : Nat} {l1 : Int32} {M : Mm} (h_l0 : sh l0 = 16) : SIM x F (bX6_mixWood_132 l0 l1 M) 132 [(0, rf x.2.1 l0), (1, .int l1)] [] M := by
  unfold bX6_mixWood_132
  refine r_iload_n X dX6_mixWood_132 rfl 1 rfl ?_
  refine r_iconst (v := 3) X dX6_mixWood_133 (by decide) ?_
  refine r_icmp_ge 169 X dX6_mixWood_134 (by decide) ?_ ?_
  · exact r_vret Hr dX6_mixWood_169
  · refine r_aload_n X dX6_mixWood_137 rfl 0 rfl ?_
    refine r_aload_n X dX6_mixWood_138 rfl 0 rfl ?_
    refine r_getR X fl_X6_57 (by decide) h_l0 dX6_mixWood_139 (fun v2 h_v2 => ?_)
    refine r_iload_n X dX6_mixWood_142 rfl 1 rfl ?_
    refine r_zald X h_v2 dX6_mixWood_143 (fun v3 => ?_)
    refine r_if_eq 157 X dX6_mixWood_144 (by decide) ?_ ?_
    · refine r_ldc2 X dX6_mixWood_157 k_1294 ?_
      exact r_to [(0, rf x.2.1 l0), (1, .int l1)] [0, 1] rfl (sX6_mixWood_160 X hL Hr HH h_l0 h_l0)
    · refine r_aload_n X dX6_mixWood_147 rfl 0 rfl ?_
      refine r_getR X fl_X6_61 (by decide) h_l0 dX6_mixWood_148 (fun v4 h_v4 => ?_)
      refine r_iload_n X dX6_mixWood_151 rfl 1 rfl ?_
      refine r_iald X h_v4 dX6_mixWood_152 (fun v5 => ?_)
      refine r_i2l X dX6_mixWood_153 ?_
      refine r_goto 160 X dX6_mixWood_154 (by decide) ?_
      exact r_to [(0, rf x.2.1 l0), (1, .int l1)] [0, 1] rfl (sX6_mixWood_160 X hL Hr HH h_l0 h_l0)
set_option maxRecDepth 100000 in
noncomputable def bX6_mixWood_130 (l0 : Nat) (M : Mm) : Option ((Nat × Nat × Int32 × Int32 × Mm) ⊕ Unit × Mm) := some (.inl (6, l0, 0, 0, M))
set_option maxRecDepth 100000 in
set_option maxHeartbeats 4000000 in
theorem sX6_mixWood_130 {x : SB} {F : ((Nat × Nat × Int32 × Int32 × Mm) ⊕ Unit × Mm) → Prop} (X : CX x cX6_mixWood RX6 4) (hL : x.2.2.2.1 = 3) (Hr : RTV x cX6_mixWood F Sum.inr) (HH : ∀ q, F (.inl q) → pX6_mixWood x q) {l0 : Nat} {M : Mm} (h_l0 : sh l0 = 16) : SIM x F (bX6_mixWood_130 l0 M) 130 [(0, rf x.2.1 l0)] [] M := by
  unfold bX6_mixWood_130
  refine r_iconst (v := 0) X dX6_mixWood_130 (by decide) ?_
  refine r_istore_n [(1, .int 0), (0, rf x.2.1 l0)] X dX6_mixWood_131 rfl (nlt hL (by decide)) rfl ?_
  exact r_hdr [(0, rf x.2.1 l0), (1, .int 0)] [1, 0] rfl (fun h => HH _ h h_l0)
set_option maxRecDepth 100000 in
noncomputable def bX6_mixWood_98 (l0 : Nat) (l1 : Int32) (M : Mm) : Option ((Nat × Nat × Int32 × Int32 × Mm) ⊕ Unit × Mm) := gfI M l0 25 fun v6 => if v6 < l1 then bX6_mixWood_130 l0 M else gfI M l0 10 fun v7 => if v7 ≤ 0 then bX6_mixWood_130 l0 M else gfR M 0 l0 26 fun v8 => ldI M v8 l1 fun v9 => cal (fX6_mix l0 ((v9 : Int32).toInt64) M) fun _ M10 => some (.inl (5, l0, (l1 + 1), 0, M10))
set_option maxRecDepth 100000 in
set_option maxHeartbeats 4000000 in
theorem sX6_mixWood_98 {x : SB} {F : ((Nat × Nat × Int32 × Int32 × Mm) ⊕ Unit × Mm) → Prop} (X : CX x cX6_mixWood RX6 4) (hL : x.2.2.2.1 = 3) (Hr : RTV x cX6_mixWood F Sum.inr) (HH : ∀ q, F (.inl q) → pX6_mixWood x q) {l0 : Nat} {l1 : Int32} {M : Mm} (h_l0 : sh l0 = 16) : SIM x F (bX6_mixWood_98 l0 l1 M) 98 [(0, rf x.2.1 l0), (1, .int l1)] [] M := by
  unfold bX6_mixWood_98
  refine r_iload_n X dX6_mixWood_98 rfl 1 rfl ?_
  refine r_aload_n X dX6_mixWood_99 rfl 0 rfl ?_
  refine r_getI X fl_X6_177 (by decide) h_l0 dX6_mixWood_100 (fun v6 => ?_)
  refine r_icmp_gt 130 X dX6_mixWood_103 (by decide) ?_ ?_
  · exact r_to [(0, rf x.2.1 l0)] [0] rfl (sX6_mixWood_130 X hL Hr HH h_l0)
  · refine r_aload_n X dX6_mixWood_106 rfl 0 rfl ?_
    refine r_getI X fl_X6_167 (by decide) h_l0 dX6_mixWood_107 (fun v7 => ?_)
    refine r_if_le 130 X dX6_mixWood_110 (by decide) ?_ ?_
    · exact r_to [(0, rf x.2.1 l0)] [0] rfl (sX6_mixWood_130 X hL Hr HH h_l0)
    · refine r_aload_n X dX6_mixWood_113 rfl 0 rfl ?_
      refine r_aload_n X dX6_mixWood_114 rfl 0 rfl ?_
      refine r_getR X fl_X6_54 (by decide) h_l0 dX6_mixWood_115 (fun v8 h_v8 => ?_)
      refine r_iload_n X dX6_mixWood_118 rfl 1 rfl ?_
      refine r_iald X h_v8 dX6_mixWood_119 (fun v9 => ?_)
      refine r_i2l X dX6_mixWood_120 ?_
      refine r_callVV [.long ((v9 : Int32).toInt64)] X mt_X6_311 (by decide) h_l0 (by decide) (okX6_mix _ _ X.J h_l0) rfl (Nat.le_of_ble_eq_true rfl) dX6_mixWood_121 rfl (fun _ M10 => ?_)
      refine r_iinc [(1, .int (l1 + 1)), (0, rf x.2.1 l0)] X dX6_mixWood_124 1 rfl rfl (nlt hL (by decide)) rfl ?_
      refine r_goto 98 X dX6_mixWood_127 (by decide) ?_
      exact r_hdr [(0, rf x.2.1 l0), (1, .int (l1 + 1))] [1, 0] rfl (fun h => HH _ h h_l0)
set_option maxRecDepth 100000 in
noncomputable def bX6_mixWood_69 (l0 : Nat) (l1 : Int32) (M : Mm) : Option ((Nat × Nat × Int32 × Int32 × Mm) ⊕ Unit × Mm) := gfI M l0 11 fun v11 => if v11 ≤ l1 then some (.inl (5, l0, 0, 0, M)) else cal (fX6_v l0 0 32 l1 M) fun v13 M12 => cal (fX6_mix l0 ((v13 : Int32).toInt64) M12) fun _ M14 => some (.inl (4, l0, (l1 + 1), 0, M14))
set_option maxRecDepth 100000 in
set_option maxHeartbeats 4000000 in
theorem sX6_mixWood_69 {x : SB} {F : ((Nat × Nat × Int32 × Int32 × Mm) ⊕ Unit × Mm) → Prop} (X : CX x cX6_mixWood RX6 4) (hL : x.2.2.2.1 = 3) (Hr : RTV x cX6_mixWood F Sum.inr) (HH : ∀ q, F (.inl q) → pX6_mixWood x q) {l0 : Nat} {l1 : Int32} {M : Mm} (h_l0 : sh l0 = 16) : SIM x F (bX6_mixWood_69 l0 l1 M) 69 [(0, rf x.2.1 l0), (1, .int l1)] [] M := by
  unfold bX6_mixWood_69
  refine r_iload_n X dX6_mixWood_69 rfl 1 rfl ?_
  refine r_aload_n X dX6_mixWood_70 rfl 0 rfl ?_
  refine r_getI X fl_X6_170 (by decide) h_l0 dX6_mixWood_71 (fun v11 => ?_)
  refine r_icmp_ge 96 X dX6_mixWood_74 (by decide) ?_ ?_
  · refine r_iconst (v := 0) X dX6_mixWood_96 (by decide) ?_
    refine r_istore_n [(1, .int 0), (0, rf x.2.1 l0)] X dX6_mixWood_97 rfl (nlt hL (by decide)) rfl ?_
    exact r_hdr [(0, rf x.2.1 l0), (1, .int 0)] [1, 0] rfl (fun h => HH _ h h_l0)
  · refine r_aload_n X dX6_mixWood_77 rfl 0 rfl ?_
    refine r_aload_n X dX6_mixWood_78 rfl 0 rfl ?_
    refine r_iconst (v := 0) X dX6_mixWood_79 (by decide) ?_
    refine r_bipush (v := 32) X dX6_mixWood_80 (by decide) ?_
    refine r_iload_n X dX6_mixWood_82 rfl 1 rfl ?_
    refine r_callVI [.int 0, .int 32, .int l1] X mt_X6_180 (by decide) h_l0 (by decide) (okX6_v _ _ X.J h_l0) rfl (Nat.le_of_ble_eq_true rfl) dX6_mixWood_83 rfl (fun v13 M12 => ?_)
    refine r_i2l X dX6_mixWood_86 ?_
    refine r_callVV [.long ((v13 : Int32).toInt64)] X mt_X6_311 (by decide) h_l0 (by decide) (okX6_mix _ _ X.J h_l0) rfl (Nat.le_of_ble_eq_true rfl) dX6_mixWood_87 rfl (fun _ M14 => ?_)
    refine r_iinc [(1, .int (l1 + 1)), (0, rf x.2.1 l0)] X dX6_mixWood_90 1 rfl rfl (nlt hL (by decide)) rfl ?_
    refine r_goto 69 X dX6_mixWood_93 (by decide) ?_
    exact r_hdr [(0, rf x.2.1 l0), (1, .int (l1 + 1))] [1, 0] rfl (fun h => HH _ h h_l0)
set_option maxRecDepth 100000 in
noncomputable def bX6_mixWood_38 (l0 : Nat) (l1 : Int32) (l2 : Int32) (M : Mm) : Option ((Nat × Nat × Int32 × Int32 × Mm) ⊕ Unit × Mm) := if 6 ≤ l2 then some (.inl (2, l0, (l1 + 1), 0, M)) else cal (fX6_placeTells l0 l1 l2 M) fun v16 M15 => cal (fX6_mix l0 ((v16 : Int32).toInt64) M15) fun _ M17 => some (.inl (3, l0, l1, (l2 + 1), M17))
set_option maxRecDepth 100000 in
set_option maxHeartbeats 4000000 in
theorem sX6_mixWood_38 {x : SB} {F : ((Nat × Nat × Int32 × Int32 × Mm) ⊕ Unit × Mm) → Prop} (X : CX x cX6_mixWood RX6 4) (hL : x.2.2.2.1 = 3) (Hr : RTV x cX6_mixWood F Sum.inr) (HH : ∀ q, F (.inl q) → pX6_mixWood x q) {l0 : Nat} {l1 : Int32} {l2 : Int32} {M : Mm} (h_l0 : sh l0 = 16) : SIM x F (bX6_mixWood_38 l0 l1 l2 M) 38 [(0, rf x.2.1 l0), (1, .int l1), (2, .int l2)] [] M := by
  unfold bX6_mixWood_38
  refine r_iload_n X dX6_mixWood_38 rfl 2 rfl ?_
  refine r_bipush (v := 6) X dX6_mixWood_39 (by decide) ?_
  refine r_icmp_ge 61 X dX6_mixWood_41 (by decide) ?_ ?_
  · refine r_iinc [(1, .int (l1 + 1)), (0, rf x.2.1 l0), (2, .int l2)] X dX6_mixWood_61 1 rfl rfl (nlt hL (by decide)) rfl ?_
    refine r_goto 28 X dX6_mixWood_64 (by decide) ?_
    exact r_hdr [(0, rf x.2.1 l0), (1, .int (l1 + 1))] [1, 0] rfl (fun h => HH _ h h_l0)
  · refine r_aload_n X dX6_mixWood_44 rfl 0 rfl ?_
    refine r_aload_n X dX6_mixWood_45 rfl 0 rfl ?_
    refine r_iload_n X dX6_mixWood_46 rfl 1 rfl ?_
    refine r_iload_n X dX6_mixWood_47 rfl 2 rfl ?_
    refine r_callVI [.int l1, .int l2] X mt_X6_214 (by decide) h_l0 (by decide) (okX6_placeTells _ _ X.J h_l0) rfl (Nat.le_of_ble_eq_true rfl) dX6_mixWood_48 rfl (fun v16 M15 => ?_)
    refine r_i2l X dX6_mixWood_51 ?_
    refine r_callVV [.long ((v16 : Int32).toInt64)] X mt_X6_311 (by decide) h_l0 (by decide) (okX6_mix _ _ X.J h_l0) rfl (Nat.le_of_ble_eq_true rfl) dX6_mixWood_52 rfl (fun _ M17 => ?_)
    refine r_iinc [(2, .int (l2 + 1)), (0, rf x.2.1 l0), (1, .int l1)] X dX6_mixWood_55 2 rfl rfl (nlt hL (by decide)) rfl ?_
    refine r_goto 38 X dX6_mixWood_58 (by decide) ?_
    exact r_hdr [(0, rf x.2.1 l0), (1, .int l1), (2, .int (l2 + 1))] [1, 2, 0] rfl (fun h => HH _ h h_l0)
set_option maxRecDepth 100000 in
noncomputable def bX6_mixWood_28 (l0 : Nat) (l1 : Int32) (M : Mm) : Option ((Nat × Nat × Int32 × Int32 × Mm) ⊕ Unit × Mm) := gfI M l0 10 fun v18 => if v18 ≤ l1 then some (.inl (4, l0, 0, 0, M)) else some (.inl (3, l0, l1, 0, M))
set_option maxRecDepth 100000 in
set_option maxHeartbeats 4000000 in
theorem sX6_mixWood_28 {x : SB} {F : ((Nat × Nat × Int32 × Int32 × Mm) ⊕ Unit × Mm) → Prop} (X : CX x cX6_mixWood RX6 4) (hL : x.2.2.2.1 = 3) (Hr : RTV x cX6_mixWood F Sum.inr) (HH : ∀ q, F (.inl q) → pX6_mixWood x q) {l0 : Nat} {l1 : Int32} {M : Mm} (h_l0 : sh l0 = 16) : SIM x F (bX6_mixWood_28 l0 l1 M) 28 [(0, rf x.2.1 l0), (1, .int l1)] [] M := by
  unfold bX6_mixWood_28
  refine r_iload_n X dX6_mixWood_28 rfl 1 rfl ?_
  refine r_aload_n X dX6_mixWood_29 rfl 0 rfl ?_
  refine r_getI X fl_X6_167 (by decide) h_l0 dX6_mixWood_30 (fun v18 => ?_)
  refine r_icmp_ge 67 X dX6_mixWood_33 (by decide) ?_ ?_
  · refine r_iconst (v := 0) X dX6_mixWood_67 (by decide) ?_
    refine r_istore_n [(1, .int 0), (0, rf x.2.1 l0)] X dX6_mixWood_68 rfl (nlt hL (by decide)) rfl ?_
    exact r_hdr [(0, rf x.2.1 l0), (1, .int 0)] [1, 0] rfl (fun h => HH _ h h_l0)
  · refine r_iconst (v := 0) X dX6_mixWood_36 (by decide) ?_
    refine r_istore_n [(2, .int 0), (0, rf x.2.1 l0), (1, .int l1)] X dX6_mixWood_37 rfl (nlt hL (by decide)) rfl ?_
    exact r_hdr [(0, rf x.2.1 l0), (1, .int l1), (2, .int 0)] [1, 2, 0] rfl (fun h => HH _ h h_l0)
set_option maxRecDepth 100000 in
noncomputable def bX6_mixWood_2 (l0 : Nat) (l1 : Int32) (M : Mm) : Option ((Nat × Nat × Int32 × Int32 × Mm) ⊕ Unit × Mm) := if 3 ≤ l1 then some (.inl (2, l0, 0, 0, M)) else cal (fX6_v l0 0 36 l1 M) fun v20 M19 => cal (fX6_mix l0 ((v20 : Int32).toInt64) M19) fun _ M21 => some (.inl (1, l0, (l1 + 1), 0, M21))
set_option maxRecDepth 100000 in
set_option maxHeartbeats 4000000 in
theorem sX6_mixWood_2 {x : SB} {F : ((Nat × Nat × Int32 × Int32 × Mm) ⊕ Unit × Mm) → Prop} (X : CX x cX6_mixWood RX6 4) (hL : x.2.2.2.1 = 3) (Hr : RTV x cX6_mixWood F Sum.inr) (HH : ∀ q, F (.inl q) → pX6_mixWood x q) {l0 : Nat} {l1 : Int32} {M : Mm} (h_l0 : sh l0 = 16) : SIM x F (bX6_mixWood_2 l0 l1 M) 2 [(0, rf x.2.1 l0), (1, .int l1)] [] M := by
  unfold bX6_mixWood_2
  refine r_iload_n X dX6_mixWood_2 rfl 1 rfl ?_
  refine r_iconst (v := 3) X dX6_mixWood_3 (by decide) ?_
  refine r_icmp_ge 26 X dX6_mixWood_4 (by decide) ?_ ?_
  · refine r_iconst (v := 0) X dX6_mixWood_26 (by decide) ?_
    refine r_istore_n [(1, .int 0), (0, rf x.2.1 l0)] X dX6_mixWood_27 rfl (nlt hL (by decide)) rfl ?_
    exact r_hdr [(0, rf x.2.1 l0), (1, .int 0)] [1, 0] rfl (fun h => HH _ h h_l0)
  · refine r_aload_n X dX6_mixWood_7 rfl 0 rfl ?_
    refine r_aload_n X dX6_mixWood_8 rfl 0 rfl ?_
    refine r_iconst (v := 0) X dX6_mixWood_9 (by decide) ?_
    refine r_bipush (v := 36) X dX6_mixWood_10 (by decide) ?_
    refine r_iload_n X dX6_mixWood_12 rfl 1 rfl ?_
    refine r_callVI [.int 0, .int 36, .int l1] X mt_X6_180 (by decide) h_l0 (by decide) (okX6_v _ _ X.J h_l0) rfl (Nat.le_of_ble_eq_true rfl) dX6_mixWood_13 rfl (fun v20 M19 => ?_)
    refine r_i2l X dX6_mixWood_16 ?_
    refine r_callVV [.long ((v20 : Int32).toInt64)] X mt_X6_311 (by decide) h_l0 (by decide) (okX6_mix _ _ X.J h_l0) rfl (Nat.le_of_ble_eq_true rfl) dX6_mixWood_17 rfl (fun _ M21 => ?_)
    refine r_iinc [(1, .int (l1 + 1)), (0, rf x.2.1 l0)] X dX6_mixWood_20 1 rfl rfl (nlt hL (by decide)) rfl ?_
    refine r_goto 2 X dX6_mixWood_23 (by decide) ?_
    exact r_hdr [(0, rf x.2.1 l0), (1, .int (l1 + 1))] [1, 0] rfl (fun h => HH _ h h_l0)
set_option maxRecDepth 100000 in
noncomputable def bX6_mixWood_0 (l0 : Nat) (M : Mm) : Option ((Nat × Nat × Int32 × Int32 × Mm) ⊕ Unit × Mm) := some (.inl (1, l0, 0, 0, M))
set_option maxRecDepth 100000 in
set_option maxHeartbeats 4000000 in
theorem sX6_mixWood_0 {x : SB} {F : ((Nat × Nat × Int32 × Int32 × Mm) ⊕ Unit × Mm) → Prop} (X : CX x cX6_mixWood RX6 4) (hL : x.2.2.2.1 = 3) (Hr : RTV x cX6_mixWood F Sum.inr) (HH : ∀ q, F (.inl q) → pX6_mixWood x q) {l0 : Nat} {M : Mm} (h_l0 : sh l0 = 16) : SIM x F (bX6_mixWood_0 l0 M) 0 [(0, rf x.2.1 l0)] [] M := by
  unfold bX6_mixWood_0
  refine r_iconst (v := 0) X dX6_mixWood_0 (by decide) ?_
  refine r_istore_n [(1, .int 0), (0, rf x.2.1 l0)] X dX6_mixWood_1 rfl (nlt hL (by decide)) rfl ?_
  exact r_hdr [(0, rf x.2.1 l0), (1, .int 0)] [1, 0] rfl (fun h => HH _ h h_l0)
set_option maxRecDepth 100000 in
noncomputable def gX6_mixWood (q : Nat × Nat × Int32 × Int32 × Mm) : Option ((Nat × Nat × Int32 × Int32 × Mm) ⊕ Unit × Mm) := match q.1 with
  | 1 => bX6_mixWood_2 (q.2.1) (q.2.2.1) (q.2.2.2.2)
  | 2 => bX6_mixWood_28 (q.2.1) (q.2.2.1) (q.2.2.2.2)
  | 3 => bX6_mixWood_38 (q.2.1) (q.2.2.1) (q.2.2.2.1) (q.2.2.2.2)
  | 4 => bX6_mixWood_69 (q.2.1) (q.2.2.1) (q.2.2.2.2)
  | 5 => bX6_mixWood_98 (q.2.1) (q.2.2.1) (q.2.2.2.2)
  | 6 => bX6_mixWood_132 (q.2.1) (q.2.2.1) (q.2.2.2.2)
  | _ => none
set_option maxRecDepth 100000 in
noncomputable def fX6_mixWood (l0 : Nat) (M : Mm) : Option (Unit × Mm) := fen gX6_mixWood (bX6_mixWood_0 l0 M)
set_option maxRecDepth 100000 in
set_option maxHeartbeats 4000000 in
theorem okX6_mixWood (l : Launch) (g : GX) (hJ : IJ g) {l0 : Nat} {M : Mm} (h_l0 : sh l0 = 16) : CT l g yX6_mixWood cX6_mixWood 3 none 4 [rf g l0] M (fX6_mixWood l0 M) (fun _ => none) := by
  refine ct_V rfl hJ (Nat.le_of_ble_eq_true rfl) (fun x r hg hL hl X hf Hr => ?_)
  subst hg
  have Hr2 : RTV x cX6_mixWood (Sum.elim (pX6_mixWood x) (fun q => q = r)) Sum.inr := fun M h => Hr M h
  have HP : ∀ q, fnl gX6_mixWood q = some r → pX6_mixWood x q := by
    intro q hq
    refine fnl_ind (pX6_mixWood x) (fun q hq => ?_) hq
    obtain ⟨n, l0, l1, l2, M⟩ := q
    match n, hq with
    | 1, hq => exact fun h_l0 ls H locs hl hP hS => sX6_mixWood_2 X hL Hr2 (fun _ h => h) h_l0 hq ls H locs hl hP hS
    | 2, hq => exact fun h_l0 ls H locs hl hP hS => sX6_mixWood_28 X hL Hr2 (fun _ h => h) h_l0 hq ls H locs hl hP hS
    | 3, hq => exact fun h_l0 ls H locs hl hP hS => sX6_mixWood_38 X hL Hr2 (fun _ h => h) h_l0 hq ls H locs hl hP hS
    | 4, hq => exact fun h_l0 ls H locs hl hP hS => sX6_mixWood_69 X hL Hr2 (fun _ h => h) h_l0 hq ls H locs hl hP hS
    | 5, hq => exact fun h_l0 ls H locs hl hP hS => sX6_mixWood_98 X hL Hr2 (fun _ h => h) h_l0 hq ls H locs hl hP hS
    | 6, hq => exact fun h_l0 ls H locs hl hP hS => sX6_mixWood_132 X hL Hr2 (fun _ h => h) h_l0 hq ls H locs hl hP hS
    | 0, hq => exact trivial
    | n + 7, hq => exact trivial
  exact fun _ ls H locs hl hP hS => sX6_mixWood_0 X hL Hr2 (fun _ h => h) h_l0 (fen_w hf HP) ls H locs hl hP hS
/-! CrumbWoodModel.digest()J -/
set_option maxRecDepth 100000 in
def pX6_digest (x : SB) (q : Nat × Nat × Int32 × Int32 × Mm) : Prop := match q.1 with
  | 1 => sh q.2.1 = 16 → ∀ (ls : Array Slot) (H : Heap) (locs : List Loc), lv_has ls x.2.2.2.1 [(0, rf x.2.1 q.2.1), (1, .int q.2.2.1)] → PW x.2.1 (q.2.2.2.2) H → SH x H locs → SW x H locs 9 ls []
  | 2 => sh q.2.1 = 16 → ∀ (ls : Array Slot) (H : Heap) (locs : List Loc), lv_has ls x.2.2.2.1 [(0, rf x.2.1 q.2.1), (1, .int q.2.2.1)] → PW x.2.1 (q.2.2.2.2) H → SH x H locs → SW x H locs 37 ls []
  | 3 => sh q.2.1 = 16 → ∀ (ls : Array Slot) (H : Heap) (locs : List Loc), lv_has ls x.2.2.2.1 [(0, rf x.2.1 q.2.1), (1, .int q.2.2.1), (2, .int q.2.2.2.1)] → PW x.2.1 (q.2.2.2.2) H → SH x H locs → SW x H locs 56 ls []
  | 4 => sh q.2.1 = 16 → ∀ (ls : Array Slot) (H : Heap) (locs : List Loc), lv_has ls x.2.2.2.1 [(0, rf x.2.1 q.2.1), (1, .int q.2.2.1)] → PW x.2.1 (q.2.2.2.2) H → SH x H locs → SW x H locs 91 ls []
  | 5 => sh q.2.1 = 16 → ∀ (ls : Array Slot) (H : Heap) (locs : List Loc), lv_has ls x.2.2.2.1 [(0, rf x.2.1 q.2.1), (1, .int q.2.2.1), (2, .int q.2.2.2.1)] → PW x.2.1 (q.2.2.2.2) H → SH x H locs → SW x H locs 109 ls []
  | _ => True
set_option maxRecDepth 100000 in
noncomputable def bX6_digest_109 (l0 : Nat) (l1 : Int32) (l2 : Int32) (M : Mm) : Option ((Nat × Nat × Int32 × Int32 × Mm) ⊕ Int64 × Mm) := gfR M 0 l0 8 fun v1 => ldI M v1 l1 fun v2 => if v2 ≤ l2 then some (.inl (4, l0, (l1 + 1), 0, M)) else cal (fX6_byteAt l0 l1 l2 M) fun v4 M3 => cal (fX6_mix l0 ((v4 : Int32).toInt64) M3) fun _ M5 => some (.inl (5, l0, l1, (l2 + 1), M5))
set_option maxRecDepth 100000 in
set_option maxHeartbeats 4000000 in
theorem sX6_digest_109 {x : SB} {F : ((Nat × Nat × Int32 × Int32 × Mm) ⊕ Int64 × Mm) → Prop} (X : CX x cX6_digest RX6 5) (hL : x.2.2.2.1 = 3) (Hr : RTJ x cX6_digest F Sum.inr) (HH : ∀ q, F (.inl q) → pX6_digest x q) {l0 : Nat} {l1 : Int32} {l2 : Int32} {M : Mm} (h_l0 : sh l0 = 16) : SIM x F (bX6_digest_109 l0 l1 l2 M) 109 [(0, rf x.2.1 l0), (1, .int l1), (2, .int l2)] [] M := by
  unfold bX6_digest_109
  refine r_iload_n X dX6_digest_109 rfl 2 rfl ?_
  refine r_aload_n X dX6_digest_110 rfl 0 rfl ?_
  refine r_getR X fl_X6_26 (by decide) h_l0 dX6_digest_111 (fun v1 h_v1 => ?_)
  refine r_iload_n X dX6_digest_114 rfl 1 rfl ?_
  refine r_iald X h_v1 dX6_digest_115 (fun v2 => ?_)
  refine r_icmp_ge 136 X dX6_digest_116 (by decide) ?_ ?_
  · refine r_iinc [(1, .int (l1 + 1)), (0, rf x.2.1 l0), (2, .int l2)] X dX6_digest_136 1 rfl rfl (nlt hL (by decide)) rfl ?_
    refine r_goto 91 X dX6_digest_139 (by decide) ?_
    exact r_hdr [(0, rf x.2.1 l0), (1, .int (l1 + 1))] [1, 0] rfl (fun h => HH _ h h_l0)
  · refine r_aload_n X dX6_digest_119 rfl 0 rfl ?_
    refine r_aload_n X dX6_digest_120 rfl 0 rfl ?_
    refine r_iload_n X dX6_digest_121 rfl 1 rfl ?_
    refine r_iload_n X dX6_digest_122 rfl 2 rfl ?_
    refine r_callVI [.int l1, .int l2] X mt_X6_123 (by decide) h_l0 (by decide) (okX6_byteAt _ _ X.J h_l0) rfl (Nat.le_of_ble_eq_true rfl) dX6_digest_123 rfl (fun v4 M3 => ?_)
    refine r_i2l X dX6_digest_126 ?_
    refine r_callVV [.long ((v4 : Int32).toInt64)] X mt_X6_311 (by decide) h_l0 (by decide) (okX6_mix _ _ X.J h_l0) rfl (Nat.le_of_ble_eq_true rfl) dX6_digest_127 rfl (fun _ M5 => ?_)
    refine r_iinc [(2, .int (l2 + 1)), (0, rf x.2.1 l0), (1, .int l1)] X dX6_digest_130 2 rfl rfl (nlt hL (by decide)) rfl ?_
    refine r_goto 109 X dX6_digest_133 (by decide) ?_
    exact r_hdr [(0, rf x.2.1 l0), (1, .int l1), (2, .int (l2 + 1))] [1, 2, 0] rfl (fun h => HH _ h h_l0)
set_option maxRecDepth 100000 in
noncomputable def bX6_digest_91 (l0 : Nat) (l1 : Int32) (M : Mm) : Option ((Nat × Nat × Int32 × Int32 × Mm) ⊕ Int64 × Mm) := if 4 ≤ l1 then gfJ M l0 40 fun v6 => some (.inr (v6, M)) else gfR M 0 l0 8 fun v7 => ldI M v7 l1 fun v8 => cal (fX6_mix l0 ((v8 : Int32).toInt64) M) fun _ M9 => some (.inl (5, l0, l1, 0, M9))
set_option maxRecDepth 100000 in
set_option maxHeartbeats 4000000 in
theorem sX6_digest_91 {x : SB} {F : ((Nat × Nat × Int32 × Int32 × Mm) ⊕ Int64 × Mm) → Prop} (X : CX x cX6_digest RX6 5) (hL : x.2.2.2.1 = 3) (Hr : RTJ x cX6_digest F Sum.inr) (HH : ∀ q, F (.inl q) → pX6_digest x q) {l0 : Nat} {l1 : Int32} {M : Mm} (h_l0 : sh l0 = 16) : SIM x F (bX6_digest_91 l0 l1 M) 91 [(0, rf x.2.1 l0), (1, .int l1)] [] M := by
  unfold bX6_digest_91
  refine r_iload_n X dX6_digest_91 rfl 1 rfl ?_
  refine r_iconst (v := 4) X dX6_digest_92 (by decide) ?_
  refine r_icmp_ge 142 X dX6_digest_93 (by decide) ?_ ?_
  · refine r_aload_n X dX6_digest_142 rfl 0 rfl ?_
    refine r_getJ X fl_X6_308 (by decide) h_l0 dX6_digest_143 (fun v6 => ?_)
    exact r_lret Hr dX6_digest_146
  · refine r_aload_n X dX6_digest_96 rfl 0 rfl ?_
    refine r_aload_n X dX6_digest_97 rfl 0 rfl ?_
    refine r_getR X fl_X6_26 (by decide) h_l0 dX6_digest_98 (fun v7 h_v7 => ?_)
    refine r_iload_n X dX6_digest_101 rfl 1 rfl ?_
    refine r_iald X h_v7 dX6_digest_102 (fun v8 => ?_)
    refine r_i2l X dX6_digest_103 ?_
    refine r_callVV [.long ((v8 : Int32).toInt64)] X mt_X6_311 (by decide) h_l0 (by decide) (okX6_mix _ _ X.J h_l0) rfl (Nat.le_of_ble_eq_true rfl) dX6_digest_104 rfl (fun _ M9 => ?_)
    refine r_iconst (v := 0) X dX6_digest_107 (by decide) ?_
    refine r_istore_n [(2, .int 0), (0, rf x.2.1 l0), (1, .int l1)] X dX6_digest_108 rfl (nlt hL (by decide)) rfl ?_
    exact r_hdr [(0, rf x.2.1 l0), (1, .int l1), (2, .int 0)] [1, 2, 0] rfl (fun h => HH _ h h_l0)
set_option maxRecDepth 100000 in
noncomputable def bX6_digest_56 (l0 : Nat) (l1 : Int32) (l2 : Int32) (M : Mm) : Option ((Nat × Nat × Int32 × Int32 × Mm) ⊕ Int64 × Mm) := gfR M 0 l0 5 fun v10 => ldI M v10 l1 fun v11 => if v11 ≤ l2 then some (.inl (2, l0, (l1 + 1), 0, M)) else cal (fX6_rowAt l0 l1 l2 M) fun v13 M12 => cal (fX6_mix l0 ((v13 : Int32).toInt64) M12) fun _ M14 => some (.inl (3, l0, l1, (l2 + 1), M14))
set_option maxRecDepth 100000 in
set_option maxHeartbeats 4000000 in
theorem sX6_digest_56 {x : SB} {F : ((Nat × Nat × Int32 × Int32 × Mm) ⊕ Int64 × Mm) → Prop} (X : CX x cX6_digest RX6 5) (hL : x.2.2.2.1 = 3) (Hr : RTJ x cX6_digest F Sum.inr) (HH : ∀ q, F (.inl q) → pX6_digest x q) {l0 : Nat} {l1 : Int32} {l2 : Int32} {M : Mm} (h_l0 : sh l0 = 16) : SIM x F (bX6_digest_56 l0 l1 l2 M) 56 [(0, rf x.2.1 l0), (1, .int l1), (2, .int l2)] [] M := by
  unfold bX6_digest_56
  refine r_iload_n X dX6_digest_56 rfl 2 rfl ?_
  refine r_aload_n X dX6_digest_57 rfl 0 rfl ?_
  refine r_getR X fl_X6_17 (by decide) h_l0 dX6_digest_58 (fun v10 h_v10 => ?_)
  refine r_iload_n X dX6_digest_61 rfl 1 rfl ?_
  refine r_iald X h_v10 dX6_digest_62 (fun v11 => ?_)
  refine r_icmp_ge 83 X dX6_digest_63 (by decide) ?_ ?_
  · refine r_iinc [(1, .int (l1 + 1)), (0, rf x.2.1 l0), (2, .int l2)] X dX6_digest_83 1 rfl rfl (nlt hL (by decide)) rfl ?_
    refine r_goto 37 X dX6_digest_86 (by decide) ?_
    exact r_hdr [(0, rf x.2.1 l0), (1, .int (l1 + 1))] [1, 0] rfl (fun h => HH _ h h_l0)
  · refine r_aload_n X dX6_digest_66 rfl 0 rfl ?_
    refine r_aload_n X dX6_digest_67 rfl 0 rfl ?_
    refine r_iload_n X dX6_digest_68 rfl 1 rfl ?_
    refine r_iload_n X dX6_digest_69 rfl 2 rfl ?_
    refine r_callVI [.int l1, .int l2] X mt_X6_110 (by decide) h_l0 (by decide) (okX6_rowAt _ _ X.J h_l0) rfl (Nat.le_of_ble_eq_true rfl) dX6_digest_70 rfl (fun v13 M12 => ?_)
    refine r_i2l X dX6_digest_73 ?_
    refine r_callVV [.long ((v13 : Int32).toInt64)] X mt_X6_311 (by decide) h_l0 (by decide) (okX6_mix _ _ X.J h_l0) rfl (Nat.le_of_ble_eq_true rfl) dX6_digest_74 rfl (fun _ M14 => ?_)
    refine r_iinc [(2, .int (l2 + 1)), (0, rf x.2.1 l0), (1, .int l1)] X dX6_digest_77 2 rfl rfl (nlt hL (by decide)) rfl ?_
    refine r_goto 56 X dX6_digest_80 (by decide) ?_
    exact r_hdr [(0, rf x.2.1 l0), (1, .int l1), (2, .int (l2 + 1))] [1, 2, 0] rfl (fun h => HH _ h h_l0)
set_option maxRecDepth 100000 in
noncomputable def bX6_digest_37 (l0 : Nat) (l1 : Int32) (M : Mm) : Option ((Nat × Nat × Int32 × Int32 × Mm) ⊕ Int64 × Mm) := if 6 ≤ l1 then some (.inl (4, l0, 0, 0, M)) else gfR M 0 l0 5 fun v15 => ldI M v15 l1 fun v16 => cal (fX6_mix l0 ((v16 : Int32).toInt64) M) fun _ M17 => some (.inl (3, l0, l1, 0, M17))
set_option maxRecDepth 100000 in
set_option maxHeartbeats 4000000 in
theorem sX6_digest_37 {x : SB} {F : ((Nat × Nat × Int32 × Int32 × Mm) ⊕ Int64 × Mm) → Prop} (X : CX x cX6_digest RX6 5) (hL : x.2.2.2.1 = 3) (Hr : RTJ x cX6_digest F Sum.inr) (HH : ∀ q, F (.inl q) → pX6_digest x q) {l0 : Nat} {l1 : Int32} {M : Mm} (h_l0 : sh l0 = 16) : SIM x F (bX6_digest_37 l0 l1 M) 37 [(0, rf x.2.1 l0), (1, .int l1)] [] M := by
  unfold bX6_digest_37
  refine r_iload_n X dX6_digest_37 rfl 1 rfl ?_
  refine r_bipush (v := 6) X dX6_digest_38 (by decide) ?_
  refine r_icmp_ge 89 X dX6_digest_40 (by decide) ?_ ?_
  · refine r_iconst (v := 0) X dX6_digest_89 (by decide) ?_
    refine r_istore_n [(1, .int 0), (0, rf x.2.1 l0)] X dX6_digest_90 rfl (nlt hL (by decide)) rfl ?_
    exact r_hdr [(0, rf x.2.1 l0), (1, .int 0)] [1, 0] rfl (fun h => HH _ h h_l0)
  · refine r_aload_n X dX6_digest_43 rfl 0 rfl ?_
    refine r_aload_n X dX6_digest_44 rfl 0 rfl ?_
    refine r_getR X fl_X6_17 (by decide) h_l0 dX6_digest_45 (fun v15 h_v15 => ?_)
    refine r_iload_n X dX6_digest_48 rfl 1 rfl ?_
    refine r_iald X h_v15 dX6_digest_49 (fun v16 => ?_)
    refine r_i2l X dX6_digest_50 ?_
    refine r_callVV [.long ((v16 : Int32).toInt64)] X mt_X6_311 (by decide) h_l0 (by decide) (okX6_mix _ _ X.J h_l0) rfl (Nat.le_of_ble_eq_true rfl) dX6_digest_51 rfl (fun _ M17 => ?_)
    refine r_iconst (v := 0) X dX6_digest_54 (by decide) ?_
    refine r_istore_n [(2, .int 0), (0, rf x.2.1 l0), (1, .int l1)] X dX6_digest_55 rfl (nlt hL (by decide)) rfl ?_
    exact r_hdr [(0, rf x.2.1 l0), (1, .int l1), (2, .int 0)] [1, 2, 0] rfl (fun h => HH _ h h_l0)
set_option maxRecDepth 100000 in
noncomputable def bX6_digest_9 (l0 : Nat) (l1 : Int32) (M : Mm) : Option ((Nat × Nat × Int32 × Int32 × Mm) ⊕ Int64 × Mm) := if 11 ≤ l1 then cal (fX6_mixWood l0 M) fun _ M18 => some (.inl (2, l0, 0, 0, M18)) else cal (fX6_counted l0 l1 M) fun v20 M19 => cal (fX6_mix l0 ((v20 : Int32).toInt64) M19) fun _ M21 => some (.inl (1, l0, (l1 + 1), 0, M21))
set_option maxRecDepth 100000 in
set_option maxHeartbeats 4000000 in
theorem sX6_digest_9 {x : SB} {F : ((Nat × Nat × Int32 × Int32 × Mm) ⊕ Int64 × Mm) → Prop} (X : CX x cX6_digest RX6 5) (hL : x.2.2.2.1 = 3) (Hr : RTJ x cX6_digest F Sum.inr) (HH : ∀ q, F (.inl q) → pX6_digest x q) {l0 : Nat} {l1 : Int32} {M : Mm} (h_l0 : sh l0 = 16) : SIM x F (bX6_digest_9 l0 l1 M) 9 [(0, rf x.2.1 l0), (1, .int l1)] [] M := by
  unfold bX6_digest_9
  refine r_iload_n X dX6_digest_9 rfl 1 rfl ?_
  refine r_bipush (v := 11) X dX6_digest_10 (by decide) ?_
  refine r_icmp_ge 31 X dX6_digest_12 (by decide) ?_ ?_
  · refine r_aload_n X dX6_digest_31 rfl 0 rfl ?_
    refine r_callVV [] X mt_X6_319 (by decide) h_l0 (by decide) (okX6_mixWood _ _ X.J h_l0) rfl (Nat.le_of_ble_eq_true rfl) dX6_digest_32 rfl (fun _ M18 => ?_)
    refine r_iconst (v := 0) X dX6_digest_35 (by decide) ?_
    refine r_istore_n [(1, .int 0), (0, rf x.2.1 l0)] X dX6_digest_36 rfl (nlt hL (by decide)) rfl ?_
    exact r_hdr [(0, rf x.2.1 l0), (1, .int 0)] [1, 0] rfl (fun h => HH _ h h_l0)
  · refine r_aload_n X dX6_digest_15 rfl 0 rfl ?_
    refine r_aload_n X dX6_digest_16 rfl 0 rfl ?_
    refine r_iload_n X dX6_digest_17 rfl 1 rfl ?_
    refine r_callVI [.int l1] X mt_X6_303 (by decide) h_l0 (by decide) (okX6_counted _ _ X.J h_l0) rfl (Nat.le_of_ble_eq_true rfl) dX6_digest_18 rfl (fun v20 M19 => ?_)
    refine r_i2l X dX6_digest_21 ?_
    refine r_callVV [.long ((v20 : Int32).toInt64)] X mt_X6_311 (by decide) h_l0 (by decide) (okX6_mix _ _ X.J h_l0) rfl (Nat.le_of_ble_eq_true rfl) dX6_digest_22 rfl (fun _ M21 => ?_)
    refine r_iinc [(1, .int (l1 + 1)), (0, rf x.2.1 l0)] X dX6_digest_25 1 rfl rfl (nlt hL (by decide)) rfl ?_
    refine r_goto 9 X dX6_digest_28 (by decide) ?_
    exact r_hdr [(0, rf x.2.1 l0), (1, .int (l1 + 1))] [1, 0] rfl (fun h => HH _ h h_l0)
set_option maxRecDepth 100000 in
noncomputable def bX6_digest_0 (l0 : Nat) (M : Mm) : Option ((Nat × Nat × Int32 × Int32 × Mm) ⊕ Int64 × Mm) := pfJ M l0 40 17 fun M22 => some (.inl (1, l0, 0, 0, M22))
set_option maxRecDepth 100000 in
set_option maxHeartbeats 4000000 in
theorem sX6_digest_0 {x : SB} {F : ((Nat × Nat × Int32 × Int32 × Mm) ⊕ Int64 × Mm) → Prop} (X : CX x cX6_digest RX6 5) (hL : x.2.2.2.1 = 3) (Hr : RTJ x cX6_digest F Sum.inr) (HH : ∀ q, F (.inl q) → pX6_digest x q) {l0 : Nat} {M : Mm} (h_l0 : sh l0 = 16) : SIM x F (bX6_digest_0 l0 M) 0 [(0, rf x.2.1 l0)] [] M := by
  unfold bX6_digest_0
  refine r_aload_n X dX6_digest_0 rfl 0 rfl ?_
  refine r_ldc2 X dX6_digest_1 k_1284 ?_
  refine r_putJ X fl_X6_308 (by decide) h_l0 (fun _ => rfl) (fun _ => rfl) dX6_digest_4 (fun M22 => ?_)
  refine r_iconst (v := 0) X dX6_digest_7 (by decide) ?_
  refine r_istore_n [(1, .int 0), (0, rf x.2.1 l0)] X dX6_digest_8 rfl (nlt hL (by decide)) rfl ?_
  exact r_hdr [(0, rf x.2.1 l0), (1, .int 0)] [1, 0] rfl (fun h => HH _ h h_l0)
set_option maxRecDepth 100000 in
noncomputable def gX6_digest (q : Nat × Nat × Int32 × Int32 × Mm) : Option ((Nat × Nat × Int32 × Int32 × Mm) ⊕ Int64 × Mm) := match q.1 with
  | 1 => bX6_digest_9 (q.2.1) (q.2.2.1) (q.2.2.2.2)
  | 2 => bX6_digest_37 (q.2.1) (q.2.2.1) (q.2.2.2.2)
  | 3 => bX6_digest_56 (q.2.1) (q.2.2.1) (q.2.2.2.1) (q.2.2.2.2)
  | 4 => bX6_digest_91 (q.2.1) (q.2.2.1) (q.2.2.2.2)
  | 5 => bX6_digest_109 (q.2.1) (q.2.2.1) (q.2.2.2.1) (q.2.2.2.2)
  | _ => none
set_option maxRecDepth 100000 in
noncomputable def fX6_digest (l0 : Nat) (M : Mm) : Option (Int64 × Mm) := fen gX6_digest (bX6_digest_0 l0 M)
set_option maxRecDepth 100000 in
set_option maxHeartbeats 4000000 in
theorem okX6_digest (l : Launch) (g : GX) (hJ : IJ g) {l0 : Nat} {M : Mm} (h_l0 : sh l0 = 16) : CT l g yX6_digest cX6_digest 3 (some .long) 5 [rf g l0] M (fX6_digest l0 M) (fun r => some (.long r)) := by
  refine ct_J rfl hJ (Nat.le_of_ble_eq_true rfl) (fun x r hg hL hl X hf Hr => ?_)
  subst hg
  have Hr2 : RTJ x cX6_digest (Sum.elim (pX6_digest x) (fun q => q = r)) Sum.inr := fun v M h => Hr v M h
  have HP : ∀ q, fnl gX6_digest q = some r → pX6_digest x q := by
    intro q hq
    refine fnl_ind (pX6_digest x) (fun q hq => ?_) hq
    obtain ⟨n, l0, l1, l2, M⟩ := q
    match n, hq with
    | 1, hq => exact fun h_l0 ls H locs hl hP hS => sX6_digest_9 X hL Hr2 (fun _ h => h) h_l0 hq ls H locs hl hP hS
    | 2, hq => exact fun h_l0 ls H locs hl hP hS => sX6_digest_37 X hL Hr2 (fun _ h => h) h_l0 hq ls H locs hl hP hS
    | 3, hq => exact fun h_l0 ls H locs hl hP hS => sX6_digest_56 X hL Hr2 (fun _ h => h) h_l0 hq ls H locs hl hP hS
    | 4, hq => exact fun h_l0 ls H locs hl hP hS => sX6_digest_91 X hL Hr2 (fun _ h => h) h_l0 hq ls H locs hl hP hS
    | 5, hq => exact fun h_l0 ls H locs hl hP hS => sX6_digest_109 X hL Hr2 (fun _ h => h) h_l0 hq ls H locs hl hP hS
    | 0, hq => exact trivial
    | n + 6, hq => exact trivial
  exact fun _ ls H locs hl hP hS => sX6_digest_0 X hL Hr2 (fun _ h => h) h_l0 (fen_w hf HP) ls H locs hl hP hS
/-! CrumbWoodModel.drop(I)I -/
set_option maxRecDepth 100000 in
noncomputable def fX6_drop (l0 : Nat) (l1 : Int32) (M : Mm) : Option (Int32 × Mm) := cal (fX6_in l1 0 2 M) fun v2 M1 => if v2 = 0 then some (((-1), M1)) else cal (fX6_v l0 0 36 l1 M1) fun v4 M3 => if v4 = 0 then some (((-4), M3)) else cal (fX6_set l0 0 36 l1 (v4 - 1) M3) fun _ M5 => cal (fX6_hereNow l0 M5) fun v7 M6 => cal (fX6_drops l0 0 l1 v7 M6) fun _ M8 => some (((v4 - 1), M8))
set_option maxRecDepth 100000 in
set_option maxHeartbeats 4000000 in
theorem sX6_drop_0 {x : SB} {F : (Int32 × Mm) → Prop} (X : CX x cX6_drop RX6 3) (hL : x.2.2.2.1 = 3) (Hr : RTI x cX6_drop .int F (fun q => q)) {l0 : Nat} {l1 : Int32} {M : Mm} (h_l0 : sh l0 = 16) : SIM x F (fX6_drop l0 l1 M) 0 [(0, rf x.2.1 l0), (1, .int l1)] [] M := by
  unfold fX6_drop
  refine r_iload_n X dX6_drop_0 rfl 1 rfl ?_
  refine r_iconst (v := 0) X dX6_drop_1 (by decide) ?_
  refine r_iconst (v := 2) X dX6_drop_2 (by decide) ?_
  refine r_callSI [.int l1, .int 0, .int 2] X mt_X6_92 (by decide) (okX6_in _ _ X.J) rfl (Nat.le_of_ble_eq_true rfl) dX6_drop_3 rfl (fun v2 M1 => ?_)
  refine r_if_ne 11 X dX6_drop_6 (by decide) ?_ ?_
  · refine r_iconst (v := (-1)) X dX6_drop_9 (by decide) ?_
    exact r_iret Hr rfl dX6_drop_10
  · refine r_aload_n X dX6_drop_11 rfl 0 rfl ?_
    refine r_iconst (v := 0) X dX6_drop_12 (by decide) ?_
    refine r_bipush (v := 36) X dX6_drop_13 (by decide) ?_
    refine r_iload_n X dX6_drop_15 rfl 1 rfl ?_
    refine r_callVI [.int 0, .int 36, .int l1] X mt_X6_180 (by decide) h_l0 (by decide) (okX6_v _ _ X.J h_l0) rfl (Nat.le_of_ble_eq_true rfl) dX6_drop_16 rfl (fun v4 M3 => ?_)
    refine r_istore_n [(2, .int v4), (0, rf x.2.1 l0), (1, .int l1)] X dX6_drop_19 rfl (nlt hL (by decide)) rfl ?_
    refine r_iload_n X dX6_drop_20 rfl 0 rfl ?_
    refine r_if_ne 27 X dX6_drop_21 (by decide) ?_ ?_
    · refine r_bipush (v := (-4)) X dX6_drop_24 (by decide) ?_
      exact r_iret Hr rfl dX6_drop_26
    · refine r_aload_n X dX6_drop_27 rfl 1 rfl ?_
      refine r_iconst (v := 0) X dX6_drop_28 (by decide) ?_
      refine r_bipush (v := 36) X dX6_drop_29 (by decide) ?_
      refine r_iload_n X dX6_drop_31 rfl 2 rfl ?_
      refine r_iload_n X dX6_drop_32 rfl 0 rfl ?_
      refine r_iconst (v := 1) X dX6_drop_33 (by decide) ?_
      refine r_isub X dX6_drop_34 ?_
      refine r_callVV [.int 0, .int 36, .int l1, .int (v4 - 1)] X mt_X6_173 (by decide) h_l0 (by decide) (okX6_set _ _ X.J h_l0) rfl (Nat.le_of_ble_eq_true rfl) dX6_drop_35 rfl (fun _ M5 => ?_)
      refine r_aload_n X dX6_drop_38 rfl 1 rfl ?_
      refine r_iconst (v := 0) X dX6_drop_39 (by decide) ?_
      refine r_iload_n X dX6_drop_40 rfl 2 rfl ?_
      refine r_aload_n X dX6_drop_41 rfl 1 rfl ?_
      refine r_callVI [] X mt_X6_223 (by decide) h_l0 (by decide) (okX6_hereNow _ _ X.J h_l0) rfl (Nat.le_of_ble_eq_true rfl) dX6_drop_42 rfl (fun v7 M6 => ?_)
      refine r_callVV [.int 0, .int l1, .int v7] X mt_X6_227 (by decide) h_l0 (by decide) (okX6_drops _ _ X.J h_l0) rfl (Nat.le_of_ble_eq_true rfl) dX6_drop_45 rfl (fun _ M8 => ?_)
      refine r_iload_n X dX6_drop_48 rfl 0 rfl ?_
      refine r_iconst (v := 1) X dX6_drop_49 (by decide) ?_
      refine r_isub X dX6_drop_50 ?_
      exact r_iret Hr rfl dX6_drop_51
set_option maxRecDepth 100000 in
set_option maxHeartbeats 4000000 in
theorem okX6_drop (l : Launch) (g : GX) (hJ : IJ g) {l0 : Nat} {l1 : Int32} {M : Mm} (h_l0 : sh l0 = 16) : CT l g yX6_drop cX6_drop 3 (some .int) 3 [rf g l0, .int l1] M (fX6_drop l0 l1 M) (fun r => some (.int r)) := by
  refine ct_I rfl hJ (Nat.le_of_ble_eq_true rfl) (fun x r hg hL hl X hf Hr => ?_)
  subst hg
  exact fun _ ls H locs hl hP hS => sX6_drop_0 X hL Hr h_l0 ⟨_, hf, rfl⟩ ls H locs hl hP hS
/-! CrumbWoodModel.figure(II)Z -/
set_option maxRecDepth 100000 in
noncomputable def bX6_figure_40 (l3 : Int32) (s0 : Int32) (s1 : Int32) (s2 : Nat) (M : Mm) : Option (Int32 × Mm) := pfI M s2 14 (s1 + s0) fun M1 => rz l3 (some ((l3, M1)))
set_option maxRecDepth 100000 in
set_option maxHeartbeats 4000000 in
theorem sX6_figure_40 {x : SB} {F : (Int32 × Mm) → Prop} (X : CX x cX6_figure RX6 1) (hL : x.2.2.2.1 = 4) (Hr : RTI x cX6_figure .boolean F (fun q => q)) {l3 : Int32} {s0 : Int32} {s1 : Int32} {s2 : Nat} {M : Mm} (h_s2 : sh s2 = 16) : SIM x F (bX6_figure_40 l3 s0 s1 s2 M) 40 [(3, .int l3)] [.int s0, .int s1, rf x.2.1 s2] M := by
  unfold bX6_figure_40
  refine r_iadd X dX6_figure_40 ?_
  refine r_putI X fl_X6_120 (by decide) h_s2 (fun _ => rfl) (fun _ => rfl) dX6_figure_41 (fun M1 => ?_)
  refine r_iload_n X dX6_figure_44 rfl 0 rfl ?_
  exact r_zret Hr dX6_figure_45
set_option maxRecDepth 100000 in
noncomputable def fX6_figure (l0 : Nat) (l1 : Int32) (l2 : Int32) (M : Mm) : Option (Int32 × Mm) := gfI M l0 14 fun v2 => cal (fX6_byteAt l0 l1 v2 M) fun v4 M3 => pfI M3 l0 23 (v4 - 48) fun M5 => gfI M5 l0 23 fun v6 => cal (fX6_in v6 0 l2 M5) fun v8 M7 => gfI M7 l0 14 fun v9 => if v8 = 0 then bX6_figure_40 v8 0 v9 l0 M7 else bX6_figure_40 v8 1 v9 l0 M7
set_option maxRecDepth 100000 in
set_option maxHeartbeats 4000000 in
theorem sX6_figure_0 {x : SB} {F : (Int32 × Mm) → Prop} (X : CX x cX6_figure RX6 1) (hL : x.2.2.2.1 = 4) (Hr : RTI x cX6_figure .boolean F (fun q => q)) {l0 : Nat} {l1 : Int32} {l2 : Int32} {M : Mm} (h_l0 : sh l0 = 16) : SIM x F (fX6_figure l0 l1 l2 M) 0 [(0, rf x.2.1 l0), (1, .int l1), (2, .int l2)] [] M := by
  unfold fX6_figure
  refine r_aload_n X dX6_figure_0 rfl 0 rfl ?_
  refine r_aload_n X dX6_figure_1 rfl 0 rfl ?_
  refine r_iload_n X dX6_figure_2 rfl 1 rfl ?_
  refine r_aload_n X dX6_figure_3 rfl 0 rfl ?_
  refine r_getI X fl_X6_120 (by decide) h_l0 dX6_figure_4 (fun v2 => ?_)
  refine r_callVI [.int l1, .int v2] X mt_X6_123 (by decide) h_l0 (by decide) (okX6_byteAt _ _ X.J h_l0) rfl (Nat.le_of_ble_eq_true rfl) dX6_figure_7 rfl (fun v4 M3 => ?_)
  refine r_bipush (v := 48) X dX6_figure_10 (by decide) ?_
  refine r_isub X dX6_figure_12 ?_
  refine r_putI X fl_X6_126 (by decide) h_l0 (fun _ => rfl) (fun _ => rfl) dX6_figure_13 (fun M5 => ?_)
  refine r_aload_n X dX6_figure_16 rfl 0 rfl ?_
  refine r_getI X fl_X6_126 (by decide) h_l0 dX6_figure_17 (fun v6 => ?_)
  refine r_iconst (v := 0) X dX6_figure_20 (by decide) ?_
  refine r_iload_n X dX6_figure_21 rfl 2 rfl ?_
  refine r_callSI [.int v6, .int 0, .int l2] X mt_X6_92 (by decide) (okX6_in _ _ X.J) rfl (Nat.le_of_ble_eq_true rfl) dX6_figure_22 rfl (fun v8 M7 => ?_)
  refine r_istore_n [(3, .int v8), (0, rf x.2.1 l0), (1, .int l1), (2, .int l2)] X dX6_figure_25 rfl (nlt hL (by decide)) rfl ?_
  refine r_aload_n X dX6_figure_26 rfl 1 rfl ?_
  refine r_dup X dX6_figure_27 rfl ?_
  refine r_getI X fl_X6_120 (by decide) h_l0 dX6_figure_28 (fun v9 => ?_)
  refine r_iload_n X dX6_figure_31 rfl 0 rfl ?_
  refine r_if_eq 39 X dX6_figure_32 (by decide) ?_ ?_
  · refine r_iconst (v := 0) X dX6_figure_39 (by decide) ?_
    exact r_to [(3, .int v8)] [0] rfl (sX6_figure_40 X hL Hr h_l0)
  · refine r_iconst (v := 1) X dX6_figure_35 (by decide) ?_
    refine r_goto 40 X dX6_figure_36 (by decide) ?_
    exact r_to [(3, .int v8)] [0] rfl (sX6_figure_40 X hL Hr h_l0)
set_option maxRecDepth 100000 in
set_option maxHeartbeats 4000000 in
theorem okX6_figure (l : Launch) (g : GX) (hJ : IJ g) {l0 : Nat} {l1 : Int32} {l2 : Int32} {M : Mm} (h_l0 : sh l0 = 16) : CT l g yX6_figure cX6_figure 4 (some .boolean) 1 [rf g l0, .int l1, .int l2] M (fX6_figure l0 l1 l2 M) (fun r => some (.int r)) := by
  refine ct_I rfl hJ (Nat.le_of_ble_eq_true rfl) (fun x r hg hL hl X hf Hr => ?_)
  subst hg
  exact fun _ ls H locs hl hP hS => sX6_figure_0 X hL Hr h_l0 ⟨_, hf, rfl⟩ ls H locs hl hP hS
/-! CrumbWoodModel.readsBird(I)Z -/
set_option maxRecDepth 100000 in
noncomputable def bX6_readsBird_16  (M : Mm) : Option (Int32 × Mm) := some ((0, M))
set_option maxRecDepth 100000 in
set_option maxHeartbeats 4000000 in
theorem sX6_readsBird_16 {x : SB} {F : (Int32 × Mm) → Prop} (X : CX x cX6_readsBird RX6 2) (hL : x.2.2.2.1 = 2) (Hr : RTI x cX6_readsBird .boolean F (fun q => q))  {M : Mm}  : SIM x F (bX6_readsBird_16  M) 16 [] [] M := by
  unfold bX6_readsBird_16
  refine r_iconst (v := 0) X dX6_readsBird_16 (by decide) ?_
  exact r_iret Hr rfl dX6_readsBird_17
set_option maxRecDepth 100000 in
noncomputable def fX6_readsBird (l0 : Nat) (l1 : Int32) (M : Mm) : Option (Int32 × Mm) := gfI M l0 15 fun v1 => if v1 < 2 then bX6_readsBird_16 M else gfI M l0 17 fun v2 => if v2 = 4 then bX6_readsBird_16 M else gfI M l0 14 fun v3 => pfI M l0 14 (v3 + 1) fun M4 => gfI M4 l0 15 fun v5 => cal (fX6_figure l0 l1 (v5 - 1) M4) fun v7 M6 => if v7 = 0 then some ((0, M6)) else gfR M6 0 l0 21 fun v8 => gfI M6 l0 17 fun v9 => gfI M6 l0 23 fun v10 => stI M6 v8 v9 v10 fun M11 => gfI M11 l0 17 fun v12 => pfI M11 l0 17 (v12 + 1) fun M13 => some ((1, M13))
set_option maxRecDepth 100000 in
set_option maxHeartbeats 4000000 in
theorem sX6_readsBird_0 {x : SB} {F : (Int32 × Mm) → Prop} (X : CX x cX6_readsBird RX6 2) (hL : x.2.2.2.1 = 2) (Hr : RTI x cX6_readsBird .boolean F (fun q => q)) {l0 : Nat} {l1 : Int32} {M : Mm} (h_l0 : sh l0 = 16) : SIM x F (fX6_readsBird l0 l1 M) 0 [(0, rf x.2.1 l0), (1, .int l1)] [] M := by
  unfold fX6_readsBird
  refine r_aload_n X dX6_readsBird_0 rfl 0 rfl ?_
  refine r_getI X fl_X6_132 (by decide) h_l0 dX6_readsBird_1 (fun v1 => ?_)
  refine r_iconst (v := 2) X dX6_readsBird_4 (by decide) ?_
  refine r_icmp_lt 16 X dX6_readsBird_5 (by decide) ?_ ?_
  · exact r_to [] [] rfl (sX6_readsBird_16 X hL Hr)
  · refine r_aload_n X dX6_readsBird_8 rfl 0 rfl ?_
    refine r_getI X fl_X6_138 (by decide) h_l0 dX6_readsBird_9 (fun v2 => ?_)
    refine r_iconst (v := 4) X dX6_readsBird_12 (by decide) ?_
    refine r_icmp_ne 18 X dX6_readsBird_13 (by decide) ?_ ?_
    · exact r_to [] [] rfl (sX6_readsBird_16 X hL Hr)
    · refine r_aload_n X dX6_readsBird_18 rfl 0 rfl ?_
      refine r_dup X dX6_readsBird_19 rfl ?_
      refine r_getI X fl_X6_120 (by decide) h_l0 dX6_readsBird_20 (fun v3 => ?_)
      refine r_iconst (v := 1) X dX6_readsBird_23 (by decide) ?_
      refine r_iadd X dX6_readsBird_24 ?_
      refine r_putI X fl_X6_120 (by decide) h_l0 (fun _ => rfl) (fun _ => rfl) dX6_readsBird_25 (fun M4 => ?_)
      refine r_aload_n X dX6_readsBird_28 rfl 0 rfl ?_
      refine r_iload_n X dX6_readsBird_29 rfl 1 rfl ?_
      refine r_aload_n X dX6_readsBird_30 rfl 0 rfl ?_
      refine r_getI X fl_X6_132 (by decide) h_l0 dX6_readsBird_31 (fun v5 => ?_)
      refine r_iconst (v := 1) X dX6_readsBird_34 (by decide) ?_
      refine r_isub X dX6_readsBird_35 ?_
      refine r_callVI [.int l1, .int (v5 - 1)] X mt_X6_141 (by decide) h_l0 (by decide) (okX6_figure _ _ X.J h_l0) rfl (Nat.le_of_ble_eq_true rfl) dX6_readsBird_36 rfl (fun v7 M6 => ?_)
      refine r_if_ne 44 X dX6_readsBird_39 (by decide) ?_ ?_
      · refine r_iconst (v := 0) X dX6_readsBird_42 (by decide) ?_
        exact r_iret Hr rfl dX6_readsBird_43
      · refine r_aload_n X dX6_readsBird_44 rfl 0 rfl ?_
        refine r_getR X fl_X6_45 (by decide) h_l0 dX6_readsBird_45 (fun v8 h_v8 => ?_)
        refine r_aload_n X dX6_readsBird_48 rfl 0 rfl ?_
        refine r_getI X fl_X6_138 (by decide) h_l0 dX6_readsBird_49 (fun v9 => ?_)
        refine r_aload_n X dX6_readsBird_52 rfl 0 rfl ?_
        refine r_getI X fl_X6_126 (by decide) h_l0 dX6_readsBird_53 (fun v10 => ?_)
        refine r_iast X h_v8 dX6_readsBird_56 (fun M11 => ?_)
        refine r_aload_n X dX6_readsBird_57 rfl 0 rfl ?_
        refine r_dup X dX6_readsBird_58 rfl ?_
        refine r_getI X fl_X6_138 (by decide) h_l0 dX6_readsBird_59 (fun v12 => ?_)
        refine r_iconst (v := 1) X dX6_readsBird_62 (by decide) ?_
        refine r_iadd X dX6_readsBird_63 ?_
        refine r_putI X fl_X6_138 (by decide) h_l0 (fun _ => rfl) (fun _ => rfl) dX6_readsBird_64 (fun M13 => ?_)
        refine r_iconst (v := 1) X dX6_readsBird_67 (by decide) ?_
        exact r_iret Hr rfl dX6_readsBird_68
set_option maxRecDepth 100000 in
set_option maxHeartbeats 4000000 in
theorem okX6_readsBird (l : Launch) (g : GX) (hJ : IJ g) {l0 : Nat} {l1 : Int32} {M : Mm} (h_l0 : sh l0 = 16) : CT l g yX6_readsBird cX6_readsBird 2 (some .boolean) 2 [rf g l0, .int l1] M (fX6_readsBird l0 l1 M) (fun r => some (.int r)) := by
  refine ct_I rfl hJ (Nat.le_of_ble_eq_true rfl) (fun x r hg hL hl X hf Hr => ?_)
  subst hg
  exact fun _ ls H locs hl hP hS => sX6_readsBird_0 X hL Hr h_l0 ⟨_, hf, rfl⟩ ls H locs hl hP hS
/-! CrumbWoodModel.readsPath(I)Z -/
set_option maxRecDepth 100000 in
noncomputable def bX6_readsPath_102  (M : Mm) : Option (Int32 × Mm) := some ((0, M))
set_option maxRecDepth 100000 in
set_option maxHeartbeats 4000000 in
theorem sX6_readsPath_102 {x : SB} {F : (Int32 × Mm) → Prop} (X : CX x cX6_readsPath RX6 2) (hL : x.2.2.2.1 = 4) (Hr : RTI x cX6_readsPath .boolean F (fun q => q))  {M : Mm}  : SIM x F (bX6_readsPath_102  M) 102 [] [] M := by
  unfold bX6_readsPath_102
  refine r_iconst (v := 0) X dX6_readsPath_102 (by decide) ?_
  exact r_iret Hr rfl dX6_readsPath_103
set_option maxRecDepth 100000 in
noncomputable def bX6_readsPath_24  (M : Mm) : Option (Int32 × Mm) := some ((0, M))
set_option maxRecDepth 100000 in
set_option maxHeartbeats 4000000 in
theorem sX6_readsPath_24 {x : SB} {F : (Int32 × Mm) → Prop} (X : CX x cX6_readsPath RX6 2) (hL : x.2.2.2.1 = 4) (Hr : RTI x cX6_readsPath .boolean F (fun q => q))  {M : Mm}  : SIM x F (bX6_readsPath_24  M) 24 [] [] M := by
  unfold bX6_readsPath_24
  refine r_iconst (v := 0) X dX6_readsPath_24 (by decide) ?_
  exact r_iret Hr rfl dX6_readsPath_25
set_option maxRecDepth 100000 in
noncomputable def fX6_readsPath (l0 : Nat) (l1 : Int32) (M : Mm) : Option (Int32 × Mm) := gfI M l0 15 fun v1 => if v1 < 2 then bX6_readsPath_24 M else gfI M l0 16 fun v2 => if v2 = 14 then bX6_readsPath_24 M else gfI M l0 17 fun v3 => if v3 ≤ 0 then gfI M l0 14 fun v4 => pfI M l0 14 (v4 + 1) fun M5 => gfI M5 l0 15 fun v6 => cal (fX6_figure l0 l1 (v6 - 1) M5) fun v8 M7 => if v8 = 0 then some ((0, M7)) else gfI M7 l0 23 fun v9 => gfI M7 l0 14 fun v10 => cal (fX6_byteAt l0 l1 v10 M7) fun v12 M11 => ltI (v12 - 48) fun v13 => gfI M11 l0 15 fun v14 => cal (fX6_in v13 0 (v14 - 1) M11) fun v16 M15 => if v16 = 0 then bX6_readsPath_102 M15 else if v13 = v9 then bX6_readsPath_102 M15 else gfR M15 0 l0 20 fun v17 => ldI M15 v17 v9 fun v18 => cal (fX6_has v18 v13 M15) fun v20 M19 => if v20 = 0 then gfI M19 l0 14 fun v21 => pfI M19 l0 14 (v21 + 1) fun M22 => gfR M22 0 l0 20 fun v23 => ldI M22 v23 v9 fun v24 => stI M22 v23 v9 (v24 ||| ((1 : Int32) <<< (v13 &&& 31))) fun M25 => gfR M25 0 l0 20 fun v26 => ldI M25 v26 v13 fun v27 => stI M25 v26 v13 (v27 ||| ((1 : Int32) <<< (v9 &&& 31))) fun M28 => gfI M28 l0 16 fun v29 => pfI M28 l0 16 (v29 + 1) fun M30 => some ((1, M30)) else bX6_readsPath_102 M19 else bX6_readsPath_24 M
set_option maxRecDepth 100000 in
set_option maxHeartbeats 4000000 in
theorem sX6_readsPath_0 {x : SB} {F : (Int32 × Mm) → Prop} (X : CX x cX6_readsPath RX6 2) (hL : x.2.2.2.1 = 4) (Hr : RTI x cX6_readsPath .boolean F (fun q => q)) {l0 : Nat} {l1 : Int32} {M : Mm} (h_l0 : sh l0 = 16) : SIM x F (fX6_readsPath l0 l1 M) 0 [(0, rf x.2.1 l0), (1, .int l1)] [] M := by
  unfold fX6_readsPath
  refine r_aload_n X dX6_readsPath_0 rfl 0 rfl ?_
  refine r_getI X fl_X6_132 (by decide) h_l0 dX6_readsPath_1 (fun v1 => ?_)
  refine r_iconst (v := 2) X dX6_readsPath_4 (by decide) ?_
  refine r_icmp_lt 24 X dX6_readsPath_5 (by decide) ?_ ?_
  · exact r_to [] [] rfl (sX6_readsPath_24 X hL Hr)
  · refine r_aload_n X dX6_readsPath_8 rfl 0 rfl ?_
    refine r_getI X fl_X6_135 (by decide) h_l0 dX6_readsPath_9 (fun v2 => ?_)
    refine r_bipush (v := 14) X dX6_readsPath_12 (by decide) ?_
    refine r_icmp_eq 24 X dX6_readsPath_14 (by decide) ?_ ?_
    · exact r_to [] [] rfl (sX6_readsPath_24 X hL Hr)
    · refine r_aload_n X dX6_readsPath_17 rfl 0 rfl ?_
      refine r_getI X fl_X6_138 (by decide) h_l0 dX6_readsPath_18 (fun v3 => ?_)
      refine r_if_le 26 X dX6_readsPath_21 (by decide) ?_ ?_
      · refine r_aload_n X dX6_readsPath_26 rfl 0 rfl ?_
        refine r_dup X dX6_readsPath_27 rfl ?_
        refine r_getI X fl_X6_120 (by decide) h_l0 dX6_readsPath_28 (fun v4 => ?_)
        refine r_iconst (v := 1) X dX6_readsPath_31 (by decide) ?_
        refine r_iadd X dX6_readsPath_32 ?_
        refine r_putI X fl_X6_120 (by decide) h_l0 (fun _ => rfl) (fun _ => rfl) dX6_readsPath_33 (fun M5 => ?_)
        refine r_aload_n X dX6_readsPath_36 rfl 0 rfl ?_
        refine r_iload_n X dX6_readsPath_37 rfl 1 rfl ?_
        refine r_aload_n X dX6_readsPath_38 rfl 0 rfl ?_
        refine r_getI X fl_X6_132 (by decide) h_l0 dX6_readsPath_39 (fun v6 => ?_)
        refine r_iconst (v := 1) X dX6_readsPath_42 (by decide) ?_
        refine r_isub X dX6_readsPath_43 ?_
        refine r_callVI [.int l1, .int (v6 - 1)] X mt_X6_141 (by decide) h_l0 (by decide) (okX6_figure _ _ X.J h_l0) rfl (Nat.le_of_ble_eq_true rfl) dX6_readsPath_44 rfl (fun v8 M7 => ?_)
        refine r_if_ne 52 X dX6_readsPath_47 (by decide) ?_ ?_
        · refine r_iconst (v := 0) X dX6_readsPath_50 (by decide) ?_
          exact r_iret Hr rfl dX6_readsPath_51
        · refine r_aload_n X dX6_readsPath_52 rfl 0 rfl ?_
          refine r_getI X fl_X6_126 (by decide) h_l0 dX6_readsPath_53 (fun v9 => ?_)
          refine r_istore_n [(2, .int v9), (0, rf x.2.1 l0), (1, .int l1)] X dX6_readsPath_56 rfl (nlt hL (by decide)) rfl ?_
          refine r_aload_n X dX6_readsPath_57 rfl 1 rfl ?_
          refine r_iload_n X dX6_readsPath_58 rfl 2 rfl ?_
          refine r_aload_n X dX6_readsPath_59 rfl 1 rfl ?_
          refine r_getI X fl_X6_120 (by decide) h_l0 dX6_readsPath_60 (fun v10 => ?_)
          refine r_callVI [.int l1, .int v10] X mt_X6_123 (by decide) h_l0 (by decide) (okX6_byteAt _ _ X.J h_l0) rfl (Nat.le_of_ble_eq_true rfl) dX6_readsPath_63 rfl (fun v12 M11 => ?_)
          refine r_bipush (v := 48) X dX6_readsPath_66 (by decide) ?_
          refine r_isub X dX6_readsPath_68 ?_
          refine r_letI (fun v13 => ?_)
          refine r_istore_n [(3, .int v13), (2, .int v9), (0, rf x.2.1 l0), (1, .int l1)] X dX6_readsPath_69 rfl (nlt hL (by decide)) rfl ?_
          refine r_iload_n X dX6_readsPath_70 rfl 0 rfl ?_
          refine r_iconst (v := 0) X dX6_readsPath_71 (by decide) ?_
          refine r_aload_n X dX6_readsPath_72 rfl 2 rfl ?_
          refine r_getI X fl_X6_132 (by decide) h_l0 dX6_readsPath_73 (fun v14 => ?_)
          refine r_iconst (v := 1) X dX6_readsPath_76 (by decide) ?_
          refine r_isub X dX6_readsPath_77 ?_
          refine r_callSI [.int v13, .int 0, .int (v14 - 1)] X mt_X6_92 (by decide) (okX6_in _ _ X.J) rfl (Nat.le_of_ble_eq_true rfl) dX6_readsPath_78 rfl (fun v16 M15 => ?_)
          refine r_if_eq 102 X dX6_readsPath_81 (by decide) ?_ ?_
          · exact r_to [] [] rfl (sX6_readsPath_102 X hL Hr)
          · refine r_iload_n X dX6_readsPath_84 rfl 0 rfl ?_
            refine r_iload_n X dX6_readsPath_85 rfl 1 rfl ?_
            refine r_icmp_eq 102 X dX6_readsPath_86 (by decide) ?_ ?_
            · exact r_to [] [] rfl (sX6_readsPath_102 X hL Hr)
            · refine r_aload_n X dX6_readsPath_89 rfl 2 rfl ?_
              refine r_getR X fl_X6_42 (by decide) h_l0 dX6_readsPath_90 (fun v17 h_v17 => ?_)
              refine r_iload_n X dX6_readsPath_93 rfl 1 rfl ?_
              refine r_iald X h_v17 dX6_readsPath_94 (fun v18 => ?_)
              refine r_iload_n X dX6_readsPath_95 rfl 0 rfl ?_
              refine r_callSI [.int v18, .int v13] X mt_X6_145 (by decide) (okX6_has _ _ X.J) rfl (Nat.le_of_ble_eq_true rfl) dX6_readsPath_96 rfl (fun v20 M19 => ?_)
              refine r_if_eq 104 X dX6_readsPath_99 (by decide) ?_ ?_
              · refine r_aload_n X dX6_readsPath_104 rfl 2 rfl ?_
                refine r_dup X dX6_readsPath_105 rfl ?_
                refine r_getI X fl_X6_120 (by decide) h_l0 dX6_readsPath_106 (fun v21 => ?_)
                refine r_iconst (v := 1) X dX6_readsPath_109 (by decide) ?_
                refine r_iadd X dX6_readsPath_110 ?_
                refine r_putI X fl_X6_120 (by decide) h_l0 (fun _ => rfl) (fun _ => rfl) dX6_readsPath_111 (fun M22 => ?_)
                refine r_aload_n X dX6_readsPath_114 rfl 2 rfl ?_
                refine r_getR X fl_X6_42 (by decide) h_l0 dX6_readsPath_115 (fun v23 h_v23 => ?_)
                refine r_iload_n X dX6_readsPath_118 rfl 1 rfl ?_
                refine r_dup2 X dX6_readsPath_119 rfl rfl ?_
                refine r_iald X h_v23 dX6_readsPath_120 (fun v24 => ?_)
                refine r_iconst (v := 1) X dX6_readsPath_121 (by decide) ?_
                refine r_iload_n X dX6_readsPath_122 rfl 0 rfl ?_
                refine r_ishl X dX6_readsPath_123 ?_
                refine r_ior X dX6_readsPath_124 ?_
                refine r_iast X h_v23 dX6_readsPath_125 (fun M25 => ?_)
                refine r_aload_n X dX6_readsPath_126 rfl 2 rfl ?_
                refine r_getR X fl_X6_42 (by decide) h_l0 dX6_readsPath_127 (fun v26 h_v26 => ?_)
                refine r_iload_n X dX6_readsPath_130 rfl 0 rfl ?_
                refine r_dup2 X dX6_readsPath_131 rfl rfl ?_
                refine r_iald X h_v26 dX6_readsPath_132 (fun v27 => ?_)
                refine r_iconst (v := 1) X dX6_readsPath_133 (by decide) ?_
                refine r_iload_n X dX6_readsPath_134 rfl 1 rfl ?_
                refine r_ishl X dX6_readsPath_135 ?_
                refine r_ior X dX6_readsPath_136 ?_
                refine r_iast X h_v26 dX6_readsPath_137 (fun M28 => ?_)
                refine r_aload_n X dX6_readsPath_138 rfl 2 rfl ?_
                refine r_dup X dX6_readsPath_139 rfl ?_
                refine r_getI X fl_X6_135 (by decide) h_l0 dX6_readsPath_140 (fun v29 => ?_)
                refine r_iconst (v := 1) X dX6_readsPath_143 (by decide) ?_
                refine r_iadd X dX6_readsPath_144 ?_
                refine r_putI X fl_X6_135 (by decide) h_l0 (fun _ => rfl) (fun _ => rfl) dX6_readsPath_145 (fun M30 => ?_)
                refine r_iconst (v := 1) X dX6_readsPath_148 (by decide) ?_
                exact r_iret Hr rfl dX6_readsPath_149
              · exact r_to [] [] rfl (sX6_readsPath_102 X hL Hr)
      · exact r_to [] [] rfl (sX6_readsPath_24 X hL Hr)
set_option maxRecDepth 100000 in
set_option maxHeartbeats 4000000 in
theorem okX6_readsPath (l : Launch) (g : GX) (hJ : IJ g) {l0 : Nat} {l1 : Int32} {M : Mm} (h_l0 : sh l0 = 16) : CT l g yX6_readsPath cX6_readsPath 4 (some .boolean) 2 [rf g l0, .int l1] M (fX6_readsPath l0 l1 M) (fun r => some (.int r)) := by
  refine ct_I rfl hJ (Nat.le_of_ble_eq_true rfl) (fun x r hg hL hl X hf Hr => ?_)
  subst hg
  exact fun _ ls H locs hl hP hS => sX6_readsPath_0 X hL Hr h_l0 ⟨_, hf, rfl⟩ ls H locs hl hP hS
/-! CrumbWoodModel.kindOf(I)I -/
set_option maxRecDepth 100000 in
noncomputable def fX6_kindOf (l0 : Int32) (M : Mm) : Option (Int32 × Mm) := if l0 = 98 then some ((3, M)) else if l0 = 99 then some ((5, M)) else if l0 = 100 then some (((-9), M)) else if l0 = 101 then some (((-9), M)) else if l0 = 102 then some (((-9), M)) else if l0 = 103 then some ((1, M)) else if l0 = 104 then some (((-9), M)) else if l0 = 105 then some (((-9), M)) else if l0 = 106 then some (((-9), M)) else if l0 = 107 then some (((-9), M)) else if l0 = 108 then some (((-9), M)) else if l0 = 109 then some ((4, M)) else if l0 = 110 then some (((-9), M)) else if l0 = 111 then some (((-9), M)) else if l0 = 112 then some ((0, M)) else if l0 = 113 then some (((-9), M)) else if l0 = 114 then some (((-9), M)) else if l0 = 115 then some (((-9), M)) else if l0 = 116 then some ((2, M)) else some (((-9), M))
set_option maxRecDepth 100000 in
set_option maxHeartbeats 4000000 in
theorem sX6_kindOf_0 {x : SB} {F : (Int32 × Mm) → Prop} (X : CX x cX6_kindOf RX6 0) (hL : x.2.2.2.1 = 1) (Hr : RTI x cX6_kindOf .int F (fun q => q)) {l0 : Int32} {M : Mm}  : SIM x F (fX6_kindOf l0 M) 0 [(0, .int l0)] [] M := by
  unfold fX6_kindOf
  refine r_iload_n X dX6_kindOf_0 rfl 0 rfl ?_
  refine r_tsw 98 98 X dX6_kindOf_1 (by decide) (by decide) rfl (by decide) ?_ (fun q98 => ?_)
  · refine r_iconst (v := 3) X dX6_kindOf_98 (by decide) ?_
    exact r_iret Hr rfl dX6_kindOf_99
  refine r_tsw 99 102 X dX6_kindOf_1 (by decide) (by decide) rfl (by decide) ?_ (fun q99 => ?_)
  · refine r_iconst (v := 5) X dX6_kindOf_102 (by decide) ?_
    exact r_iret Hr rfl dX6_kindOf_103
  refine r_tsw 100 104 X dX6_kindOf_1 (by decide) (by decide) rfl (by decide) ?_ (fun q100 => ?_)
  · refine r_bipush (v := (-9)) X dX6_kindOf_104 (by decide) ?_
    exact r_iret Hr rfl dX6_kindOf_106
  refine r_tsw 101 104 X dX6_kindOf_1 (by decide) (by decide) rfl (by decide) ?_ (fun q101 => ?_)
  · refine r_bipush (v := (-9)) X dX6_kindOf_104 (by decide) ?_
    exact r_iret Hr rfl dX6_kindOf_106
  refine r_tsw 102 104 X dX6_kindOf_1 (by decide) (by decide) rfl (by decide) ?_ (fun q102 => ?_)
  · refine r_bipush (v := (-9)) X dX6_kindOf_104 (by decide) ?_
    exact r_iret Hr rfl dX6_kindOf_106
  refine r_tsw 103 94 X dX6_kindOf_1 (by decide) (by decide) rfl (by decide) ?_ (fun q103 => ?_)
  · refine r_iconst (v := 1) X dX6_kindOf_94 (by decide) ?_
    exact r_iret Hr rfl dX6_kindOf_95
  refine r_tsw 104 104 X dX6_kindOf_1 (by decide) (by decide) rfl (by decide) ?_ (fun q104 => ?_)
  · refine r_bipush (v := (-9)) X dX6_kindOf_104 (by decide) ?_
    exact r_iret Hr rfl dX6_kindOf_106
  refine r_tsw 105 104 X dX6_kindOf_1 (by decide) (by decide) rfl (by decide) ?_ (fun q105 => ?_)
  · refine r_bipush (v := (-9)) X dX6_kindOf_104 (by decide) ?_
    exact r_iret Hr rfl dX6_kindOf_106
  refine r_tsw 106 104 X dX6_kindOf_1 (by decide) (by decide) rfl (by decide) ?_ (fun q106 => ?_)
  · refine r_bipush (v := (-9)) X dX6_kindOf_104 (by decide) ?_
    exact r_iret Hr rfl dX6_kindOf_106
  refine r_tsw 107 104 X dX6_kindOf_1 (by decide) (by decide) rfl (by decide) ?_ (fun q107 => ?_)
  · refine r_bipush (v := (-9)) X dX6_kindOf_104 (by decide) ?_
    exact r_iret Hr rfl dX6_kindOf_106
  refine r_tsw 108 104 X dX6_kindOf_1 (by decide) (by decide) rfl (by decide) ?_ (fun q108 => ?_)
  · refine r_bipush (v := (-9)) X dX6_kindOf_104 (by decide) ?_
    exact r_iret Hr rfl dX6_kindOf_106
  refine r_tsw 109 100 X dX6_kindOf_1 (by decide) (by decide) rfl (by decide) ?_ (fun q109 => ?_)
  · refine r_iconst (v := 4) X dX6_kindOf_100 (by decide) ?_
    exact r_iret Hr rfl dX6_kindOf_101
  refine r_tsw 110 104 X dX6_kindOf_1 (by decide) (by decide) rfl (by decide) ?_ (fun q110 => ?_)
  · refine r_bipush (v := (-9)) X dX6_kindOf_104 (by decide) ?_
    exact r_iret Hr rfl dX6_kindOf_106
  refine r_tsw 111 104 X dX6_kindOf_1 (by decide) (by decide) rfl (by decide) ?_ (fun q111 => ?_)
  · refine r_bipush (v := (-9)) X dX6_kindOf_104 (by decide) ?_
    exact r_iret Hr rfl dX6_kindOf_106
  refine r_tsw 112 92 X dX6_kindOf_1 (by decide) (by decide) rfl (by decide) ?_ (fun q112 => ?_)
  · refine r_iconst (v := 0) X dX6_kindOf_92 (by decide) ?_
    exact r_iret Hr rfl dX6_kindOf_93
  refine r_tsw 113 104 X dX6_kindOf_1 (by decide) (by decide) rfl (by decide) ?_ (fun q113 => ?_)
  · refine r_bipush (v := (-9)) X dX6_kindOf_104 (by decide) ?_
    exact r_iret Hr rfl dX6_kindOf_106
  refine r_tsw 114 104 X dX6_kindOf_1 (by decide) (by decide) rfl (by decide) ?_ (fun q114 => ?_)
  · refine r_bipush (v := (-9)) X dX6_kindOf_104 (by decide) ?_
    exact r_iret Hr rfl dX6_kindOf_106
  refine r_tsw 115 104 X dX6_kindOf_1 (by decide) (by decide) rfl (by decide) ?_ (fun q115 => ?_)
  · refine r_bipush (v := (-9)) X dX6_kindOf_104 (by decide) ?_
    exact r_iret Hr rfl dX6_kindOf_106
  refine r_tsw 116 96 X dX6_kindOf_1 (by decide) (by decide) rfl (by decide) ?_ (fun q116 => ?_)
  · refine r_iconst (v := 2) X dX6_kindOf_96 (by decide) ?_
    exact r_iret Hr rfl dX6_kindOf_97
  refine r_tswd 104 X dX6_kindOf_1 (by have := i32_ne q98 (n := 98) (by decide); have := i32_ne q99 (n := 99) (by decide); have := i32_ne q100 (n := 100) (by decide); have := i32_ne q101 (n := 101) (by decide); have := i32_ne q102 (n := 102) (by decide); have := i32_ne q103 (n := 103) (by decide); have := i32_ne q104 (n := 104) (by decide); have := i32_ne q105 (n := 105) (by decide); have := i32_ne q106 (n := 106) (by decide); have := i32_ne q107 (n := 107) (by decide); have := i32_ne q108 (n := 108) (by decide); have := i32_ne q109 (n := 109) (by decide); have := i32_ne q110 (n := 110) (by decide); have := i32_ne q111 (n := 111) (by decide); have := i32_ne q112 (n := 112) (by decide); have := i32_ne q113 (n := 113) (by decide); have := i32_ne q114 (n := 114) (by decide); have := i32_ne q115 (n := 115) (by decide); have := i32_ne q116 (n := 116) (by decide); omega) (by decide) ?_
  refine r_bipush (v := (-9)) X dX6_kindOf_104 (by decide) ?_
  exact r_iret Hr rfl dX6_kindOf_106
set_option maxRecDepth 100000 in
set_option maxHeartbeats 4000000 in
theorem okX6_kindOf (l : Launch) (g : GX) (hJ : IJ g) {l0 : Int32} {M : Mm}  : CT l g yX6_kindOf cX6_kindOf 1 (some .int) 0 [.int l0] M (fX6_kindOf l0 M) (fun r => some (.int r)) := by
  refine ct_I rfl hJ (Nat.le_of_ble_eq_true rfl) (fun x r hg hL hl X hf Hr => ?_)
  subst hg
  exact fun _ ls H locs hl hP hS => sX6_kindOf_0 X hL Hr ⟨_, hf, rfl⟩ ls H locs hl hP hS
/-! CrumbWoodModel.readsPlace(I)Z -/
set_option maxRecDepth 100000 in
noncomputable def bX6_readsPlace_32  (M : Mm) : Option (Int32 × Mm) := some ((0, M))
set_option maxRecDepth 100000 in
set_option maxHeartbeats 4000000 in
theorem sX6_readsPlace_32 {x : SB} {F : (Int32 × Mm) → Prop} (X : CX x cX6_readsPlace RX6 1) (hL : x.2.2.2.1 = 3) (Hr : RTI x cX6_readsPlace .boolean F (fun q => q))  {M : Mm}  : SIM x F (bX6_readsPlace_32  M) 32 [] [] M := by
  unfold bX6_readsPlace_32
  refine r_iconst (v := 0) X dX6_readsPlace_32 (by decide) ?_
  exact r_iret Hr rfl dX6_readsPlace_33
set_option maxRecDepth 100000 in
noncomputable def fX6_readsPlace (l0 : Nat) (l1 : Int32) (M : Mm) : Option (Int32 × Mm) := cal (fX6_kindOf l1 M) fun v2 M1 => if v2 = (-9) then bX6_readsPlace_32 M1 else gfI M1 l0 15 fun v3 => if v3 = 8 then bX6_readsPlace_32 M1 else gfI M1 l0 16 fun v4 => gfI M1 l0 17 fun v5 => if (v4 + v5) ≤ 0 then gfR M1 0 l0 19 fun v6 => gfI M1 l0 15 fun v7 => stI M1 v6 v7 v2 fun M8 => gfR M8 0 l0 20 fun v9 => gfI M8 l0 15 fun v10 => stI M8 v9 v10 0 fun M11 => gfI M11 l0 15 fun v12 => pfI M11 l0 15 (v12 + 1) fun M13 => gfI M13 l0 14 fun v14 => pfI M13 l0 14 (v14 + 1) fun M15 => some ((1, M15)) else bX6_readsPlace_32 M1
set_option maxRecDepth 100000 in
set_option maxHeartbeats 4000000 in
theorem sX6_readsPlace_0 {x : SB} {F : (Int32 × Mm) → Prop} (X : CX x cX6_readsPlace RX6 1) (hL : x.2.2.2.1 = 3) (Hr : RTI x cX6_readsPlace .boolean F (fun q => q)) {l0 : Nat} {l1 : Int32} {M : Mm} (h_l0 : sh l0 = 16) : SIM x F (fX6_readsPlace l0 l1 M) 0 [(0, rf x.2.1 l0), (1, .int l1)] [] M := by
  unfold fX6_readsPlace
  refine r_iload_n X dX6_readsPlace_0 rfl 1 rfl ?_
  refine r_callSI [.int l1] X mt_X6_129 (by decide) (okX6_kindOf _ _ X.J) rfl (Nat.le_of_ble_eq_true rfl) dX6_readsPlace_1 rfl (fun v2 M1 => ?_)
  refine r_istore_n [(2, .int v2), (0, rf x.2.1 l0), (1, .int l1)] X dX6_readsPlace_4 rfl (nlt hL (by decide)) rfl ?_
  refine r_iload_n X dX6_readsPlace_5 rfl 0 rfl ?_
  refine r_bipush (v := (-9)) X dX6_readsPlace_6 (by decide) ?_
  refine r_icmp_eq 32 X dX6_readsPlace_8 (by decide) ?_ ?_
  · exact r_to [] [] rfl (sX6_readsPlace_32 X hL Hr)
  · refine r_aload_n X dX6_readsPlace_11 rfl 1 rfl ?_
    refine r_getI X fl_X6_132 (by decide) h_l0 dX6_readsPlace_12 (fun v3 => ?_)
    refine r_bipush (v := 8) X dX6_readsPlace_15 (by decide) ?_
    refine r_icmp_eq 32 X dX6_readsPlace_17 (by decide) ?_ ?_
    · exact r_to [] [] rfl (sX6_readsPlace_32 X hL Hr)
    · refine r_aload_n X dX6_readsPlace_20 rfl 1 rfl ?_
      refine r_getI X fl_X6_135 (by decide) h_l0 dX6_readsPlace_21 (fun v4 => ?_)
      refine r_aload_n X dX6_readsPlace_24 rfl 1 rfl ?_
      refine r_getI X fl_X6_138 (by decide) h_l0 dX6_readsPlace_25 (fun v5 => ?_)
      refine r_iadd X dX6_readsPlace_28 ?_
      refine r_if_le 34 X dX6_readsPlace_29 (by decide) ?_ ?_
      · refine r_aload_n X dX6_readsPlace_34 rfl 1 rfl ?_
        refine r_getR X fl_X6_39 (by decide) h_l0 dX6_readsPlace_35 (fun v6 h_v6 => ?_)
        refine r_aload_n X dX6_readsPlace_38 rfl 1 rfl ?_
        refine r_getI X fl_X6_132 (by decide) h_l0 dX6_readsPlace_39 (fun v7 => ?_)
        refine r_iload_n X dX6_readsPlace_42 rfl 0 rfl ?_
        refine r_iast X h_v6 dX6_readsPlace_43 (fun M8 => ?_)
        refine r_aload_n X dX6_readsPlace_44 rfl 1 rfl ?_
        refine r_getR X fl_X6_42 (by decide) h_l0 dX6_readsPlace_45 (fun v9 h_v9 => ?_)
        refine r_aload_n X dX6_readsPlace_48 rfl 1 rfl ?_
        refine r_getI X fl_X6_132 (by decide) h_l0 dX6_readsPlace_49 (fun v10 => ?_)
        refine r_iconst (v := 0) X dX6_readsPlace_52 (by decide) ?_
        refine r_iast X h_v9 dX6_readsPlace_53 (fun M11 => ?_)
        refine r_aload_n X dX6_readsPlace_54 rfl 1 rfl ?_
        refine r_dup X dX6_readsPlace_55 rfl ?_
        refine r_getI X fl_X6_132 (by decide) h_l0 dX6_readsPlace_56 (fun v12 => ?_)
        refine r_iconst (v := 1) X dX6_readsPlace_59 (by decide) ?_
        refine r_iadd X dX6_readsPlace_60 ?_
        refine r_putI X fl_X6_132 (by decide) h_l0 (fun _ => rfl) (fun _ => rfl) dX6_readsPlace_61 (fun M13 => ?_)
        refine r_aload_n X dX6_readsPlace_64 rfl 1 rfl ?_
        refine r_dup X dX6_readsPlace_65 rfl ?_
        refine r_getI X fl_X6_120 (by decide) h_l0 dX6_readsPlace_66 (fun v14 => ?_)
        refine r_iconst (v := 1) X dX6_readsPlace_69 (by decide) ?_
        refine r_iadd X dX6_readsPlace_70 ?_
        refine r_putI X fl_X6_120 (by decide) h_l0 (fun _ => rfl) (fun _ => rfl) dX6_readsPlace_71 (fun M15 => ?_)
        refine r_iconst (v := 1) X dX6_readsPlace_74 (by decide) ?_
        exact r_iret Hr rfl dX6_readsPlace_75
      · exact r_to [] [] rfl (sX6_readsPlace_32 X hL Hr)
set_option maxRecDepth 100000 in
set_option maxHeartbeats 4000000 in
theorem okX6_readsPlace (l : Launch) (g : GX) (hJ : IJ g) {l0 : Nat} {l1 : Int32} {M : Mm} (h_l0 : sh l0 = 16) : CT l g yX6_readsPlace cX6_readsPlace 3 (some .boolean) 1 [rf g l0, .int l1] M (fX6_readsPlace l0 l1 M) (fun r => some (.int r)) := by
  refine ct_I rfl hJ (Nat.le_of_ble_eq_true rfl) (fun x r hg hL hl X hf Hr => ?_)
  subst hg
  exact fun _ ls H locs hl hP hS => sX6_readsPlace_0 X hL Hr h_l0 ⟨_, hf, rfl⟩ ls H locs hl hP hS
/-! CrumbWoodModel.readsPockets(I)Z -/
set_option maxRecDepth 100000 in
def pX6_readsPockets (x : SB) (q : Nat × Nat × Int32 × Int32 × Mm) : Prop := match q.1 with
  | 1 => sh q.2.1 = 16 → ∀ (ls : Array Slot) (H : Heap) (locs : List Loc), lv_has ls x.2.2.2.1 [(0, rf x.2.1 q.2.1), (1, .int q.2.2.1), (2, .int q.2.2.2.1)] → PW x.2.1 (q.2.2.2.2) H → SH x H locs → SW x H locs 22 ls []
  | _ => True
set_option maxRecDepth 100000 in
noncomputable def bX6_readsPockets_22 (l0 : Nat) (l1 : Int32) (l2 : Int32) (M : Mm) : Option ((Nat × Nat × Int32 × Int32 × Mm) ⊕ Int32 × Mm) := if 3 ≤ l2 then pfI M l0 18 1 fun M1 => some (.inr (1, M1)) else cal (fX6_figure l0 l1 9 M) fun v3 M2 => if v3 = 0 then some (.inr (0, M2)) else gfR M2 0 l0 22 fun v4 => gfI M2 l0 23 fun v5 => stI M2 v4 l2 v5 fun M6 => some (.inl (1, l0, l1, (l2 + 1), M6))
set_option maxRecDepth 100000 in
set_option maxHeartbeats 4000000 in
theorem sX6_readsPockets_22 {x : SB} {F : ((Nat × Nat × Int32 × Int32 × Mm) ⊕ Int32 × Mm) → Prop} (X : CX x cX6_readsPockets RX6 2) (hL : x.2.2.2.1 = 3) (Hr : RTI x cX6_readsPockets .boolean F Sum.inr) (HH : ∀ q, F (.inl q) → pX6_readsPockets x q) {l0 : Nat} {l1 : Int32} {l2 : Int32} {M : Mm} (h_l0 : sh l0 = 16) : SIM x F (bX6_readsPockets_22 l0 l1 l2 M) 22 [(0, rf x.2.1 l0), (1, .int l1), (2, .int l2)] [] M := by
  unfold bX6_readsPockets_22
  refine r_iload_n X dX6_readsPockets_22 rfl 2 rfl ?_
  refine r_iconst (v := 3) X dX6_readsPockets_23 (by decide) ?_
  refine r_icmp_ge 55 X dX6_readsPockets_24 (by decide) ?_ ?_
  · refine r_aload_n X dX6_readsPockets_55 rfl 0 rfl ?_
    refine r_iconst (v := 1) X dX6_readsPockets_56 (by decide) ?_
    refine r_putI X fl_X6_148 (by decide) h_l0 (fun _ => rfl) (fun _ => rfl) dX6_readsPockets_57 (fun M1 => ?_)
    refine r_iconst (v := 1) X dX6_readsPockets_60 (by decide) ?_
    exact r_iret Hr rfl dX6_readsPockets_61
  · refine r_aload_n X dX6_readsPockets_27 rfl 0 rfl ?_
    refine r_iload_n X dX6_readsPockets_28 rfl 1 rfl ?_
    refine r_bipush (v := 9) X dX6_readsPockets_29 (by decide) ?_
    refine r_callVI [.int l1, .int 9] X mt_X6_141 (by decide) h_l0 (by decide) (okX6_figure _ _ X.J h_l0) rfl (Nat.le_of_ble_eq_true rfl) dX6_readsPockets_31 rfl (fun v3 M2 => ?_)
    refine r_if_ne 39 X dX6_readsPockets_34 (by decide) ?_ ?_
    · refine r_iconst (v := 0) X dX6_readsPockets_37 (by decide) ?_
      exact r_iret Hr rfl dX6_readsPockets_38
    · refine r_aload_n X dX6_readsPockets_39 rfl 0 rfl ?_
      refine r_getR X fl_X6_48 (by decide) h_l0 dX6_readsPockets_40 (fun v4 h_v4 => ?_)
      refine r_iload_n X dX6_readsPockets_43 rfl 2 rfl ?_
      refine r_aload_n X dX6_readsPockets_44 rfl 0 rfl ?_
      refine r_getI X fl_X6_126 (by decide) h_l0 dX6_readsPockets_45 (fun v5 => ?_)
      refine r_iast X h_v4 dX6_readsPockets_48 (fun M6 => ?_)
      refine r_iinc [(2, .int (l2 + 1)), (0, rf x.2.1 l0), (1, .int l1)] X dX6_readsPockets_49 2 rfl rfl (nlt hL (by decide)) rfl ?_
      refine r_goto 22 X dX6_readsPockets_52 (by decide) ?_
      exact r_hdr [(0, rf x.2.1 l0), (1, .int l1), (2, .int (l2 + 1))] [1, 2, 0] rfl (fun h => HH _ h h_l0)
set_option maxRecDepth 100000 in
noncomputable def bX6_readsPockets_0 (l0 : Nat) (l1 : Int32) (M : Mm) : Option ((Nat × Nat × Int32 × Int32 × Mm) ⊕ Int32 × Mm) := gfI M l0 15 fun v7 => if 2 ≤ v7 then gfI M l0 14 fun v8 => pfI M l0 14 (v8 + 1) fun M9 => some (.inl (1, l0, l1, 0, M9)) else some (.inr (0, M))
set_option maxRecDepth 100000 in
set_option maxHeartbeats 4000000 in
theorem sX6_readsPockets_0 {x : SB} {F : ((Nat × Nat × Int32 × Int32 × Mm) ⊕ Int32 × Mm) → Prop} (X : CX x cX6_readsPockets RX6 2) (hL : x.2.2.2.1 = 3) (Hr : RTI x cX6_readsPockets .boolean F Sum.inr) (HH : ∀ q, F (.inl q) → pX6_readsPockets x q) {l0 : Nat} {l1 : Int32} {M : Mm} (h_l0 : sh l0 = 16) : SIM x F (bX6_readsPockets_0 l0 l1 M) 0 [(0, rf x.2.1 l0), (1, .int l1)] [] M := by
  unfold bX6_readsPockets_0
  refine r_aload_n X dX6_readsPockets_0 rfl 0 rfl ?_
  refine r_getI X fl_X6_132 (by decide) h_l0 dX6_readsPockets_1 (fun v7 => ?_)
  refine r_iconst (v := 2) X dX6_readsPockets_4 (by decide) ?_
  refine r_icmp_ge 10 X dX6_readsPockets_5 (by decide) ?_ ?_
  · refine r_aload_n X dX6_readsPockets_10 rfl 0 rfl ?_
    refine r_dup X dX6_readsPockets_11 rfl ?_
    refine r_getI X fl_X6_120 (by decide) h_l0 dX6_readsPockets_12 (fun v8 => ?_)
    refine r_iconst (v := 1) X dX6_readsPockets_15 (by decide) ?_
    refine r_iadd X dX6_readsPockets_16 ?_
    refine r_putI X fl_X6_120 (by decide) h_l0 (fun _ => rfl) (fun _ => rfl) dX6_readsPockets_17 (fun M9 => ?_)
    refine r_iconst (v := 0) X dX6_readsPockets_20 (by decide) ?_
    refine r_istore_n [(2, .int 0), (0, rf x.2.1 l0), (1, .int l1)] X dX6_readsPockets_21 rfl (nlt hL (by decide)) rfl ?_
    exact r_hdr [(0, rf x.2.1 l0), (1, .int l1), (2, .int 0)] [1, 2, 0] rfl (fun h => HH _ h h_l0)
  · refine r_iconst (v := 0) X dX6_readsPockets_8 (by decide) ?_
    exact r_iret Hr rfl dX6_readsPockets_9
set_option maxRecDepth 100000 in
noncomputable def gX6_readsPockets (q : Nat × Nat × Int32 × Int32 × Mm) : Option ((Nat × Nat × Int32 × Int32 × Mm) ⊕ Int32 × Mm) := match q.1 with
  | 1 => bX6_readsPockets_22 (q.2.1) (q.2.2.1) (q.2.2.2.1) (q.2.2.2.2)
  | _ => none
set_option maxRecDepth 100000 in
noncomputable def fX6_readsPockets (l0 : Nat) (l1 : Int32) (M : Mm) : Option (Int32 × Mm) := fen gX6_readsPockets (bX6_readsPockets_0 l0 l1 M)
set_option maxRecDepth 100000 in
set_option maxHeartbeats 4000000 in
theorem okX6_readsPockets (l : Launch) (g : GX) (hJ : IJ g) {l0 : Nat} {l1 : Int32} {M : Mm} (h_l0 : sh l0 = 16) : CT l g yX6_readsPockets cX6_readsPockets 3 (some .boolean) 2 [rf g l0, .int l1] M (fX6_readsPockets l0 l1 M) (fun r => some (.int r)) := by
  refine ct_I rfl hJ (Nat.le_of_ble_eq_true rfl) (fun x r hg hL hl X hf Hr => ?_)
  subst hg
  have Hr2 : RTI x cX6_readsPockets .boolean (Sum.elim (pX6_readsPockets x) (fun q => q = r)) Sum.inr := fun v M h => Hr v M h
  have HP : ∀ q, fnl gX6_readsPockets q = some r → pX6_readsPockets x q := by
    intro q hq
    refine fnl_ind (pX6_readsPockets x) (fun q hq => ?_) hq
    obtain ⟨n, l0, l1, l2, M⟩ := q
    match n, hq with
    | 1, hq => exact fun h_l0 ls H locs hl hP hS => sX6_readsPockets_22 X hL Hr2 (fun _ h => h) h_l0 hq ls H locs hl hP hS
    | 0, hq => exact trivial
    | n + 2, hq => exact trivial
  exact fun _ ls H locs hl hP hS => sX6_readsPockets_0 X hL Hr2 (fun _ h => h) h_l0 (fen_w hf HP) ls H locs hl hP hS
/-! CrumbWoodModel.faultOf(I)I -/
set_option maxRecDepth 100000 in
def pX6_faultOf (x : SB) (q : Nat × Nat × Int32 × Mm) : Prop := match q.1 with
  | 1 => sh q.2.1 = 16 → ∀ (ls : Array Slot) (H : Heap) (locs : List Loc), lv_has ls x.2.2.2.1 [(0, rf x.2.1 q.2.1), (1, .int q.2.2.1)] → PW x.2.1 (q.2.2.2) H → SH x H locs → SW x H locs 25 ls []
  | _ => True
set_option maxRecDepth 100000 in
noncomputable def bX6_faultOf_138 (l0 : Nat) (l1 : Int32) (M : Mm) : Option ((Nat × Nat × Int32 × Mm) ⊕ Int32 × Mm) := some (.inl (1, l0, l1, M))
set_option maxRecDepth 100000 in
set_option maxHeartbeats 4000000 in
theorem sX6_faultOf_138 {x : SB} {F : ((Nat × Nat × Int32 × Mm) ⊕ Int32 × Mm) → Prop} (X : CX x cX6_faultOf RX6 3) (hL : x.2.2.2.1 = 3) (Hr : RTI x cX6_faultOf .int F Sum.inr) (HH : ∀ q, F (.inl q) → pX6_faultOf x q) {l0 : Nat} {l1 : Int32} {M : Mm} (h_l0 : sh l0 = 16) : SIM x F (bX6_faultOf_138 l0 l1 M) 138 [(0, rf x.2.1 l0), (1, .int l1)] [] M := by
  unfold bX6_faultOf_138
  refine r_goto 25 X dX6_faultOf_138 (by decide) ?_
  exact r_hdr [(0, rf x.2.1 l0), (1, .int l1)] [0, 1] rfl (fun h => HH _ h h_l0)
set_option maxRecDepth 100000 in
noncomputable def bX6_faultOf_133 (l0 : Nat) (M : Mm) : Option ((Nat × Nat × Int32 × Mm) ⊕ Int32 × Mm) := gfI M l0 14 fun v1 => some (.inr (v1, M))
set_option maxRecDepth 100000 in
set_option maxHeartbeats 4000000 in
theorem sX6_faultOf_133 {x : SB} {F : ((Nat × Nat × Int32 × Mm) ⊕ Int32 × Mm) → Prop} (X : CX x cX6_faultOf RX6 3) (hL : x.2.2.2.1 = 3) (Hr : RTI x cX6_faultOf .int F Sum.inr) (HH : ∀ q, F (.inl q) → pX6_faultOf x q) {l0 : Nat} {M : Mm} (h_l0 : sh l0 = 16) : SIM x F (bX6_faultOf_133 l0 M) 133 [(0, rf x.2.1 l0)] [] M := by
  unfold bX6_faultOf_133
  refine r_aload_n X dX6_faultOf_133 rfl 0 rfl ?_
  refine r_getI X fl_X6_120 (by decide) h_l0 dX6_faultOf_134 (fun v1 => ?_)
  exact r_iret Hr rfl dX6_faultOf_137
set_option maxRecDepth 100000 in
noncomputable def bX6_faultOf_25 (l0 : Nat) (l1 : Int32) (M : Mm) : Option ((Nat × Nat × Int32 × Mm) ⊕ Int32 × Mm) := gfI M l0 14 fun v2 => gfR M 0 l0 8 fun v3 => ldI M v3 l1 fun v4 => if v4 ≤ v2 then gfI M l0 18 fun v5 => if v5 = 0 then gfR M 0 l0 8 fun v6 => ldI M v6 l1 fun v7 => some (.inr (v7, M)) else some (.inr ((-9), M)) else gfI M l0 14 fun v8 => cal (fX6_byteAt l0 l1 v8 M) fun v10 M9 => if v10 = 32 then gfI M9 l0 14 fun v20 => pfI M9 l0 14 (v20 + 1) fun M21 => bX6_faultOf_138 l0 l1 M21 else gfI M9 l0 18 fun v11 => if v11 = 0 then if v10 = 45 then cal (fX6_readsPath l0 l1 M9) fun v19 M18 => if v19 = 0 then bX6_faultOf_133 l0 M18 else bX6_faultOf_138 l0 l1 M18 else if v10 = 118 then cal (fX6_readsBird l0 l1 M9) fun v17 M16 => if v17 = 0 then bX6_faultOf_133 l0 M16 else bX6_faultOf_138 l0 l1 M16 else if v10 = 107 then cal (fX6_readsPockets l0 l1 M9) fun v15 M14 => if v15 = 0 then bX6_faultOf_133 l0 M14 else bX6_faultOf_138 l0 l1 M14 else cal (fX6_readsPlace l0 v10 M9) fun v13 M12 => if v13 = 0 then bX6_faultOf_133 l0 M12 else bX6_faultOf_138 l0 l1 M12 else bX6_faultOf_133 l0 M9
set_option maxRecDepth 100000 in
set_option maxHeartbeats 4000000 in
theorem sX6_faultOf_25 {x : SB} {F : ((Nat × Nat × Int32 × Mm) ⊕ Int32 × Mm) → Prop} (X : CX x cX6_faultOf RX6 3) (hL : x.2.2.2.1 = 3) (Hr : RTI x cX6_faultOf .int F Sum.inr) (HH : ∀ q, F (.inl q) → pX6_faultOf x q) {l0 : Nat} {l1 : Int32} {M : Mm} (h_l0 : sh l0 = 16) : SIM x F (bX6_faultOf_25 l0 l1 M) 25 [(0, rf x.2.1 l0), (1, .int l1)] [] M := by
  unfold bX6_faultOf_25
  refine r_aload_n X dX6_faultOf_25 rfl 0 rfl ?_
  refine r_getI X fl_X6_120 (by decide) h_l0 dX6_faultOf_26 (fun v2 => ?_)
  refine r_aload_n X dX6_faultOf_29 rfl 0 rfl ?_
  refine r_getR X fl_X6_26 (by decide) h_l0 dX6_faultOf_30 (fun v3 h_v3 => ?_)
  refine r_iload_n X dX6_faultOf_33 rfl 1 rfl ?_
  refine r_iald X h_v3 dX6_faultOf_34 (fun v4 => ?_)
  refine r_icmp_ge 141 X dX6_faultOf_35 (by decide) ?_ ?_
  · refine r_aload_n X dX6_faultOf_141 rfl 0 rfl ?_
    refine r_getI X fl_X6_148 (by decide) h_l0 dX6_faultOf_142 (fun v5 => ?_)
    refine r_if_eq 153 X dX6_faultOf_145 (by decide) ?_ ?_
    · refine r_aload_n X dX6_faultOf_153 rfl 0 rfl ?_
      refine r_getR X fl_X6_26 (by decide) h_l0 dX6_faultOf_154 (fun v6 h_v6 => ?_)
      refine r_iload_n X dX6_faultOf_157 rfl 1 rfl ?_
      refine r_iald X h_v6 dX6_faultOf_158 (fun v7 => ?_)
      exact r_iret Hr rfl dX6_faultOf_159
    · refine r_bipush (v := (-9)) X dX6_faultOf_148 (by decide) ?_
      refine r_goto 159 X dX6_faultOf_150 (by decide) ?_
      exact r_iret Hr rfl dX6_faultOf_159
  · refine r_aload_n X dX6_faultOf_38 rfl 0 rfl ?_
    refine r_iload_n X dX6_faultOf_39 rfl 1 rfl ?_
    refine r_aload_n X dX6_faultOf_40 rfl 0 rfl ?_
    refine r_getI X fl_X6_120 (by decide) h_l0 dX6_faultOf_41 (fun v8 => ?_)
    refine r_callVI [.int l1, .int v8] X mt_X6_123 (by decide) h_l0 (by decide) (okX6_byteAt _ _ X.J h_l0) rfl (Nat.le_of_ble_eq_true rfl) dX6_faultOf_44 rfl (fun v10 M9 => ?_)
    refine r_istore_n [(2, .int v10), (0, rf x.2.1 l0), (1, .int l1)] X dX6_faultOf_47 rfl (nlt hL (by decide)) rfl ?_
    refine r_iload_n X dX6_faultOf_48 rfl 0 rfl ?_
    refine r_bipush (v := 32) X dX6_faultOf_49 (by decide) ?_
    refine r_icmp_ne 67 X dX6_faultOf_51 (by decide) ?_ ?_
    · refine r_aload_n X dX6_faultOf_54 rfl 1 rfl ?_
      refine r_dup X dX6_faultOf_55 rfl ?_
      refine r_getI X fl_X6_120 (by decide) h_l0 dX6_faultOf_56 (fun v20 => ?_)
      refine r_iconst (v := 1) X dX6_faultOf_59 (by decide) ?_
      refine r_iadd X dX6_faultOf_60 ?_
      refine r_putI X fl_X6_120 (by decide) h_l0 (fun _ => rfl) (fun _ => rfl) dX6_faultOf_61 (fun M21 => ?_)
      refine r_goto 138 X dX6_faultOf_64 (by decide) ?_
      exact r_to [(0, rf x.2.1 l0), (1, .int l1)] [1, 2] rfl (sX6_faultOf_138 X hL Hr HH h_l0)
    · refine r_aload_n X dX6_faultOf_67 rfl 1 rfl ?_
      refine r_getI X fl_X6_148 (by decide) h_l0 dX6_faultOf_68 (fun v11 => ?_)
      refine r_if_ne 133 X dX6_faultOf_71 (by decide) ?_ ?_
      · refine r_iload_n X dX6_faultOf_74 rfl 0 rfl ?_
        refine r_bipush (v := 45) X dX6_faultOf_75 (by decide) ?_
        refine r_icmp_ne 91 X dX6_faultOf_77 (by decide) ?_ ?_
        · refine r_aload_n X dX6_faultOf_80 rfl 1 rfl ?_
          refine r_iload_n X dX6_faultOf_81 rfl 2 rfl ?_
          refine r_callVI [.int l1] X mt_X6_152 (by decide) h_l0 (by decide) (okX6_readsPath _ _ X.J h_l0) rfl (Nat.le_of_ble_eq_true rfl) dX6_faultOf_82 rfl (fun v19 M18 => ?_)
          refine r_if_eq 133 X dX6_faultOf_85 (by decide) ?_ ?_
          · exact r_to [(0, rf x.2.1 l0)] [1] rfl (sX6_faultOf_133 X hL Hr HH h_l0)
          · refine r_goto 138 X dX6_faultOf_88 (by decide) ?_
            exact r_to [(0, rf x.2.1 l0), (1, .int l1)] [1, 2] rfl (sX6_faultOf_138 X hL Hr HH h_l0)
        · refine r_iload_n X dX6_faultOf_91 rfl 0 rfl ?_
          refine r_bipush (v := 118) X dX6_faultOf_92 (by decide) ?_
          refine r_icmp_ne 108 X dX6_faultOf_94 (by decide) ?_ ?_
          · refine r_aload_n X dX6_faultOf_97 rfl 1 rfl ?_
            refine r_iload_n X dX6_faultOf_98 rfl 2 rfl ?_
            refine r_callVI [.int l1] X mt_X6_155 (by decide) h_l0 (by decide) (okX6_readsBird _ _ X.J h_l0) rfl (Nat.le_of_ble_eq_true rfl) dX6_faultOf_99 rfl (fun v17 M16 => ?_)
            refine r_if_eq 133 X dX6_faultOf_102 (by decide) ?_ ?_
            · exact r_to [(0, rf x.2.1 l0)] [1] rfl (sX6_faultOf_133 X hL Hr HH h_l0)
            · refine r_goto 138 X dX6_faultOf_105 (by decide) ?_
              exact r_to [(0, rf x.2.1 l0), (1, .int l1)] [1, 2] rfl (sX6_faultOf_138 X hL Hr HH h_l0)
          · refine r_iload_n X dX6_faultOf_108 rfl 0 rfl ?_
            refine r_bipush (v := 107) X dX6_faultOf_109 (by decide) ?_
            refine r_icmp_ne 125 X dX6_faultOf_111 (by decide) ?_ ?_
            · refine r_aload_n X dX6_faultOf_114 rfl 1 rfl ?_
              refine r_iload_n X dX6_faultOf_115 rfl 2 rfl ?_
              refine r_callVI [.int l1] X mt_X6_158 (by decide) h_l0 (by decide) (okX6_readsPockets _ _ X.J h_l0) rfl (Nat.le_of_ble_eq_true rfl) dX6_faultOf_116 rfl (fun v15 M14 => ?_)
              refine r_if_eq 133 X dX6_faultOf_119 (by decide) ?_ ?_
              · exact r_to [(0, rf x.2.1 l0)] [1] rfl (sX6_faultOf_133 X hL Hr HH h_l0)
              · refine r_goto 138 X dX6_faultOf_122 (by decide) ?_
                exact r_to [(0, rf x.2.1 l0), (1, .int l1)] [1, 2] rfl (sX6_faultOf_138 X hL Hr HH h_l0)
            · refine r_aload_n X dX6_faultOf_125 rfl 1 rfl ?_
              refine r_iload_n X dX6_faultOf_126 rfl 0 rfl ?_
              refine r_callVI [.int v10] X mt_X6_161 (by decide) h_l0 (by decide) (okX6_readsPlace _ _ X.J h_l0) rfl (Nat.le_of_ble_eq_true rfl) dX6_faultOf_127 rfl (fun v13 M12 => ?_)
              refine r_if_ne 138 X dX6_faultOf_130 (by decide) ?_ ?_
              · exact r_to [(0, rf x.2.1 l0)] [1] rfl (sX6_faultOf_133 X hL Hr HH h_l0)
              · exact r_to [(0, rf x.2.1 l0), (1, .int l1)] [1, 2] rfl (sX6_faultOf_138 X hL Hr HH h_l0)
      · exact r_to [(0, rf x.2.1 l0)] [1] rfl (sX6_faultOf_133 X hL Hr HH h_l0)
set_option maxRecDepth 100000 in
noncomputable def bX6_faultOf_0 (l0 : Nat) (l1 : Int32) (M : Mm) : Option ((Nat × Nat × Int32 × Mm) ⊕ Int32 × Mm) := pfI M l0 14 0 fun M22 => pfI M22 l0 15 0 fun M23 => pfI M23 l0 16 0 fun M24 => pfI M24 l0 17 0 fun M25 => pfI M25 l0 18 0 fun M26 => some (.inl (1, l0, l1, M26))
set_option maxRecDepth 100000 in
set_option maxHeartbeats 4000000 in
theorem sX6_faultOf_0 {x : SB} {F : ((Nat × Nat × Int32 × Mm) ⊕ Int32 × Mm) → Prop} (X : CX x cX6_faultOf RX6 3) (hL : x.2.2.2.1 = 3) (Hr : RTI x cX6_faultOf .int F Sum.inr) (HH : ∀ q, F (.inl q) → pX6_faultOf x q) {l0 : Nat} {l1 : Int32} {M : Mm} (h_l0 : sh l0 = 16) : SIM x F (bX6_faultOf_0 l0 l1 M) 0 [(0, rf x.2.1 l0), (1, .int l1)] [] M := by
  unfold bX6_faultOf_0
  refine r_aload_n X dX6_faultOf_0 rfl 0 rfl ?_
  refine r_iconst (v := 0) X dX6_faultOf_1 (by decide) ?_
  refine r_putI X fl_X6_120 (by decide) h_l0 (fun _ => rfl) (fun _ => rfl) dX6_faultOf_2 (fun M22 => ?_)
  refine r_aload_n X dX6_faultOf_5 rfl 0 rfl ?_
  refine r_iconst (v := 0) X dX6_faultOf_6 (by decide) ?_
  refine r_putI X fl_X6_132 (by decide) h_l0 (fun _ => rfl) (fun _ => rfl) dX6_faultOf_7 (fun M23 => ?_)
  refine r_aload_n X dX6_faultOf_10 rfl 0 rfl ?_
  refine r_iconst (v := 0) X dX6_faultOf_11 (by decide) ?_
  refine r_putI X fl_X6_135 (by decide) h_l0 (fun _ => rfl) (fun _ => rfl) dX6_faultOf_12 (fun M24 => ?_)
  refine r_aload_n X dX6_faultOf_15 rfl 0 rfl ?_
  refine r_iconst (v := 0) X dX6_faultOf_16 (by decide) ?_
  refine r_putI X fl_X6_138 (by decide) h_l0 (fun _ => rfl) (fun _ => rfl) dX6_faultOf_17 (fun M25 => ?_)
  refine r_aload_n X dX6_faultOf_20 rfl 0 rfl ?_
  refine r_iconst (v := 0) X dX6_faultOf_21 (by decide) ?_
  refine r_putI X fl_X6_148 (by decide) h_l0 (fun _ => rfl) (fun _ => rfl) dX6_faultOf_22 (fun M26 => ?_)
  exact r_hdr [(0, rf x.2.1 l0), (1, .int l1)] [0, 1] rfl (fun h => HH _ h h_l0)
set_option maxRecDepth 100000 in
noncomputable def gX6_faultOf (q : Nat × Nat × Int32 × Mm) : Option ((Nat × Nat × Int32 × Mm) ⊕ Int32 × Mm) := match q.1 with
  | 1 => bX6_faultOf_25 (q.2.1) (q.2.2.1) (q.2.2.2)
  | _ => none
set_option maxRecDepth 100000 in
noncomputable def fX6_faultOf (l0 : Nat) (l1 : Int32) (M : Mm) : Option (Int32 × Mm) := fen gX6_faultOf (bX6_faultOf_0 l0 l1 M)
set_option maxRecDepth 100000 in
set_option maxHeartbeats 4000000 in
theorem okX6_faultOf (l : Launch) (g : GX) (hJ : IJ g) {l0 : Nat} {l1 : Int32} {M : Mm} (h_l0 : sh l0 = 16) : CT l g yX6_faultOf cX6_faultOf 3 (some .int) 3 [rf g l0, .int l1] M (fX6_faultOf l0 l1 M) (fun r => some (.int r)) := by
  refine ct_I rfl hJ (Nat.le_of_ble_eq_true rfl) (fun x r hg hL hl X hf Hr => ?_)
  subst hg
  have Hr2 : RTI x cX6_faultOf .int (Sum.elim (pX6_faultOf x) (fun q => q = r)) Sum.inr := fun v M h => Hr v M h
  have HP : ∀ q, fnl gX6_faultOf q = some r → pX6_faultOf x q := by
    intro q hq
    refine fnl_ind (pX6_faultOf x) (fun q hq => ?_) hq
    obtain ⟨n, l0, l1, M⟩ := q
    match n, hq with
    | 1, hq => exact fun h_l0 ls H locs hl hP hS => sX6_faultOf_25 X hL Hr2 (fun _ h => h) h_l0 hq ls H locs hl hP hS
    | 0, hq => exact trivial
    | n + 2, hq => exact trivial
  exact fun _ ls H locs hl hP hS => sX6_faultOf_0 X hL Hr2 (fun _ h => h) h_l0 (fen_w hf HP) ls H locs hl hP hS
/-! CrumbWoodModel.isText(I)Z -/
set_option maxRecDepth 100000 in
noncomputable def fX6_isText (l0 : Int32) (M : Mm) : Option (Int32 × Mm) := cal (fX6_in l0 0 3 M) fun v2 M1 => rz v2 (some ((v2, M1)))
set_option maxRecDepth 100000 in
set_option maxHeartbeats 4000000 in
theorem sX6_isText_0 {x : SB} {F : (Int32 × Mm) → Prop} (X : CX x cX6_isText RX6 1) (hL : x.2.2.2.1 = 1) (Hr : RTI x cX6_isText .boolean F (fun q => q)) {l0 : Int32} {M : Mm}  : SIM x F (fX6_isText l0 M) 0 [(0, .int l0)] [] M := by
  unfold fX6_isText
  refine r_iload_n X dX6_isText_0 rfl 0 rfl ?_
  refine r_iconst (v := 0) X dX6_isText_1 (by decide) ?_
  refine r_iconst (v := 3) X dX6_isText_2 (by decide) ?_
  refine r_callSI [.int l0, .int 0, .int 3] X mt_X6_92 (by decide) (okX6_in _ _ X.J) rfl (Nat.le_of_ble_eq_true rfl) dX6_isText_3 rfl (fun v2 M1 => ?_)
  exact r_zret Hr dX6_isText_6
set_option maxRecDepth 100000 in
set_option maxHeartbeats 4000000 in
theorem okX6_isText (l : Launch) (g : GX) (hJ : IJ g) {l0 : Int32} {M : Mm}  : CT l g yX6_isText cX6_isText 1 (some .boolean) 1 [.int l0] M (fX6_isText l0 M) (fun r => some (.int r)) := by
  refine ct_I rfl hJ (Nat.le_of_ble_eq_true rfl) (fun x r hg hL hl X hf Hr => ?_)
  subst hg
  exact fun _ ls H locs hl hP hS => sX6_isText_0 X hL Hr ⟨_, hf, rfl⟩ ls H locs hl hP hS
/-! CrumbWoodModel.fault(I)I -/
set_option maxRecDepth 100000 in
noncomputable def fX6_fault (l0 : Nat) (l1 : Int32) (M : Mm) : Option (Int32 × Mm) := cal (fX6_isText l1 M) fun v2 M1 => if v2 = 0 then some (((-1), M1)) else gfR M1 0 l0 8 fun v3 => ldI M1 v3 l1 fun v4 => if 0 ≤ v4 then cal (fX6_faultOf l0 l1 M1) fun v6 M5 => some ((v6, M5)) else cal (fX6_meets l0 1 M1) fun v8 M7 => some ((v8, M7))
set_option maxRecDepth 100000 in
set_option maxHeartbeats 4000000 in
theorem sX6_fault_0 {x : SB} {F : (Int32 × Mm) → Prop} (X : CX x cX6_fault RX6 4) (hL : x.2.2.2.1 = 2) (Hr : RTI x cX6_fault .int F (fun q => q)) {l0 : Nat} {l1 : Int32} {M : Mm} (h_l0 : sh l0 = 16) : SIM x F (fX6_fault l0 l1 M) 0 [(0, rf x.2.1 l0), (1, .int l1)] [] M := by
  unfold fX6_fault
  refine r_iload_n X dX6_fault_0 rfl 1 rfl ?_
  refine r_callSI [.int l1] X mt_X6_117 (by decide) (okX6_isText _ _ X.J) rfl (Nat.le_of_ble_eq_true rfl) dX6_fault_1 rfl (fun v2 M1 => ?_)
  refine r_if_ne 9 X dX6_fault_4 (by decide) ?_ ?_
  · refine r_iconst (v := (-1)) X dX6_fault_7 (by decide) ?_
    exact r_iret Hr rfl dX6_fault_8
  · refine r_aload_n X dX6_fault_9 rfl 0 rfl ?_
    refine r_getR X fl_X6_26 (by decide) h_l0 dX6_fault_10 (fun v3 h_v3 => ?_)
    refine r_iload_n X dX6_fault_13 rfl 1 rfl ?_
    refine r_iald X h_v3 dX6_fault_14 (fun v4 => ?_)
    refine r_if_ge 26 X dX6_fault_15 (by decide) ?_ ?_
    · refine r_aload_n X dX6_fault_26 rfl 0 rfl ?_
      refine r_iload_n X dX6_fault_27 rfl 1 rfl ?_
      refine r_callVI [.int l1] X mt_X6_164 (by decide) h_l0 (by decide) (okX6_faultOf _ _ X.J h_l0) rfl (Nat.le_of_ble_eq_true rfl) dX6_fault_28 rfl (fun v6 M5 => ?_)
      exact r_iret Hr rfl dX6_fault_31
    · refine r_aload_n X dX6_fault_18 rfl 0 rfl ?_
      refine r_iconst (v := 1) X dX6_fault_19 (by decide) ?_
      refine r_callVI [.int 1] X mt_X6_106 (by decide) h_l0 (by decide) (okX6_meets _ _ X.J h_l0) rfl (Nat.le_of_ble_eq_true rfl) dX6_fault_20 rfl (fun v8 M7 => ?_)
      refine r_goto 31 X dX6_fault_23 (by decide) ?_
      exact r_iret Hr rfl dX6_fault_31
set_option maxRecDepth 100000 in
set_option maxHeartbeats 4000000 in
theorem okX6_fault (l : Launch) (g : GX) (hJ : IJ g) {l0 : Nat} {l1 : Int32} {M : Mm} (h_l0 : sh l0 = 16) : CT l g yX6_fault cX6_fault 2 (some .int) 4 [rf g l0, .int l1] M (fX6_fault l0 l1 M) (fun r => some (.int r)) := by
  refine ct_I rfl hJ (Nat.le_of_ble_eq_true rfl) (fun x r hg hL hl X hf Hr => ?_)
  subst hg
  exact fun _ ls H locs hl hP hS => sX6_fault_0 X hL Hr h_l0 ⟨_, hf, rfl⟩ ls H locs hl hP hS
/-! CrumbWoodModel.isPlace(I)Z -/
set_option maxRecDepth 100000 in
noncomputable def fX6_isPlace (l0 : Nat) (l1 : Int32) (M : Mm) : Option (Int32 × Mm) := gfI M l0 10 fun v1 => cal (fX6_in l1 0 (v1 - 1) M) fun v3 M2 => rz v3 (some ((v3, M2)))
set_option maxRecDepth 100000 in
set_option maxHeartbeats 4000000 in
theorem sX6_isPlace_0 {x : SB} {F : (Int32 × Mm) → Prop} (X : CX x cX6_isPlace RX6 1) (hL : x.2.2.2.1 = 2) (Hr : RTI x cX6_isPlace .boolean F (fun q => q)) {l0 : Nat} {l1 : Int32} {M : Mm} (h_l0 : sh l0 = 16) : SIM x F (fX6_isPlace l0 l1 M) 0 [(0, rf x.2.1 l0), (1, .int l1)] [] M := by
  unfold fX6_isPlace
  refine r_iload_n X dX6_isPlace_0 rfl 1 rfl ?_
  refine r_iconst (v := 0) X dX6_isPlace_1 (by decide) ?_
  refine r_aload_n X dX6_isPlace_2 rfl 0 rfl ?_
  refine r_getI X fl_X6_167 (by decide) h_l0 dX6_isPlace_3 (fun v1 => ?_)
  refine r_iconst (v := 1) X dX6_isPlace_6 (by decide) ?_
  refine r_isub X dX6_isPlace_7 ?_
  refine r_callSI [.int l1, .int 0, .int (v1 - 1)] X mt_X6_92 (by decide) (okX6_in _ _ X.J) rfl (Nat.le_of_ble_eq_true rfl) dX6_isPlace_8 rfl (fun v3 M2 => ?_)
  exact r_zret Hr dX6_isPlace_11
set_option maxRecDepth 100000 in
set_option maxHeartbeats 4000000 in
theorem okX6_isPlace (l : Launch) (g : GX) (hJ : IJ g) {l0 : Nat} {l1 : Int32} {M : Mm} (h_l0 : sh l0 = 16) : CT l g yX6_isPlace cX6_isPlace 2 (some .boolean) 1 [rf g l0, .int l1] M (fX6_isPlace l0 l1 M) (fun r => some (.int r)) := by
  refine ct_I rfl hJ (Nat.le_of_ble_eq_true rfl) (fun x r hg hL hl X hf Hr => ?_)
  subst hg
  exact fun _ ls H locs hl hP hS => sX6_isPlace_0 X hL Hr h_l0 ⟨_, hf, rfl⟩ ls H locs hl hP hS
/-! CrumbWoodModel.needPlan(II)I -/
set_option maxRecDepth 100000 in
def pX6_needPlan (x : SB) (q : Nat × Nat × Int32 × Int32 × Mm) : Prop := match q.1 with
  | 1 => sh q.2.1 = 16 → ∀ (ls : Array Slot) (H : Heap) (locs : List Loc), lv_has ls x.2.2.2.1 [(0, rf x.2.1 q.2.1), (1, .int q.2.2.1), (3, .int q.2.2.2.1)] → PW x.2.1 (q.2.2.2.2) H → SH x H locs → SW x H locs 81 ls []
  | _ => True
set_option maxRecDepth 100000 in
noncomputable def bX6_needPlan_125 (l0 : Nat) (M : Mm) : Option ((Nat × Nat × Int32 × Int32 × Mm) ⊕ Int32 × Mm) := cal (fX6_meets l0 3 M) fun v2 M1 => some (.inr (v2, M1))
set_option maxRecDepth 100000 in
set_option maxHeartbeats 4000000 in
theorem sX6_needPlan_125 {x : SB} {F : ((Nat × Nat × Int32 × Int32 × Mm) ⊕ Int32 × Mm) → Prop} (X : CX x cX6_needPlan RX6 2) (hL : x.2.2.2.1 = 5) (Hr : RTI x cX6_needPlan .int F Sum.inr) (HH : ∀ q, F (.inl q) → pX6_needPlan x q) {l0 : Nat} {M : Mm} (h_l0 : sh l0 = 16) : SIM x F (bX6_needPlan_125 l0 M) 125 [(0, rf x.2.1 l0)] [] M := by
  unfold bX6_needPlan_125
  refine r_aload_n X dX6_needPlan_125 rfl 0 rfl ?_
  refine r_iconst (v := 3) X dX6_needPlan_126 (by decide) ?_
  refine r_callVI [.int 3] X mt_X6_106 (by decide) h_l0 (by decide) (okX6_meets _ _ X.J h_l0) rfl (Nat.le_of_ble_eq_true rfl) dX6_needPlan_127 rfl (fun v2 M1 => ?_)
  exact r_iret Hr rfl dX6_needPlan_130
set_option maxRecDepth 100000 in
noncomputable def bX6_needPlan_81 (l0 : Nat) (l1 : Int32) (l3 : Int32) (M : Mm) : Option ((Nat × Nat × Int32 × Int32 × Mm) ⊕ Int32 × Mm) := gfR M 0 l0 5 fun v3 => ldI M v3 l1 fun v4 => if v4 ≤ l3 then some (.inr (0, M)) else cal (fX6_rowAt l0 l1 l3 M) fun v6 M5 => cal (fX6_isPlace l0 v6 M5) fun v8 M7 => if v8 = 0 then bX6_needPlan_125 l0 M7 else gfR M7 0 l0 13 fun v9 => gfI M7 l0 38 fun v10 => ldI M7 v9 v10 fun v11 => cal (fX6_has v11 v6 M7) fun v13 M12 => if v13 = 0 then bX6_needPlan_125 l0 M12 else pfI M12 l0 38 v6 fun M14 => gfI M14 l0 37 fun v15 => pfI M14 l0 37 (v15 ||| ((1 : Int32) <<< (v6 &&& 31))) fun M16 => some (.inl (1, l0, l1, (l3 + 1), M16))
set_option maxRecDepth 100000 in
set_option maxHeartbeats 4000000 in
theorem sX6_needPlan_81 {x : SB} {F : ((Nat × Nat × Int32 × Int32 × Mm) ⊕ Int32 × Mm) → Prop} (X : CX x cX6_needPlan RX6 2) (hL : x.2.2.2.1 = 5) (Hr : RTI x cX6_needPlan .int F Sum.inr) (HH : ∀ q, F (.inl q) → pX6_needPlan x q) {l0 : Nat} {l1 : Int32} {l3 : Int32} {M : Mm} (h_l0 : sh l0 = 16) : SIM x F (bX6_needPlan_81 l0 l1 l3 M) 81 [(0, rf x.2.1 l0), (1, .int l1), (3, .int l3)] [] M := by
  unfold bX6_needPlan_81
  refine r_iload_n X dX6_needPlan_81 rfl 2 rfl ?_
  refine r_aload_n X dX6_needPlan_82 rfl 0 rfl ?_
  refine r_getR X fl_X6_17 (by decide) h_l0 dX6_needPlan_83 (fun v3 h_v3 => ?_)
  refine r_iload_n X dX6_needPlan_86 rfl 1 rfl ?_
  refine r_iald X h_v3 dX6_needPlan_87 (fun v4 => ?_)
  refine r_icmp_ge 156 X dX6_needPlan_88 (by decide) ?_ ?_
  · refine r_iconst (v := 0) X dX6_needPlan_156 (by decide) ?_
    exact r_iret Hr rfl dX6_needPlan_157
  · refine r_aload_n X dX6_needPlan_91 rfl 0 rfl ?_
    refine r_iload_n X dX6_needPlan_92 rfl 1 rfl ?_
    refine r_iload_n X dX6_needPlan_93 rfl 2 rfl ?_
    refine r_callVI [.int l1, .int l3] X mt_X6_110 (by decide) h_l0 (by decide) (okX6_rowAt _ _ X.J h_l0) rfl (Nat.le_of_ble_eq_true rfl) dX6_needPlan_94 rfl (fun v6 M5 => ?_)
    refine r_istore [(4, .int v6), (0, rf x.2.1 l0), (1, .int l1), (3, .int l3)] X dX6_needPlan_97 (nlt hL (by decide)) rfl ?_
    refine r_aload_n X dX6_needPlan_99 rfl 1 rfl ?_
    refine r_iload X dX6_needPlan_100 0 rfl ?_
    refine r_callVI [.int v6] X mt_X6_211 (by decide) h_l0 (by decide) (okX6_isPlace _ _ X.J h_l0) rfl (Nat.le_of_ble_eq_true rfl) dX6_needPlan_102 rfl (fun v8 M7 => ?_)
    refine r_if_eq 125 X dX6_needPlan_105 (by decide) ?_ ?_
    · exact r_to [(0, rf x.2.1 l0)] [1] rfl (sX6_needPlan_125 X hL Hr HH h_l0)
    · refine r_aload_n X dX6_needPlan_108 rfl 1 rfl ?_
      refine r_getR X fl_X6_36 (by decide) h_l0 dX6_needPlan_109 (fun v9 h_v9 => ?_)
      refine r_aload_n X dX6_needPlan_112 rfl 1 rfl ?_
      refine r_getI X fl_X6_251 (by decide) h_l0 dX6_needPlan_113 (fun v10 => ?_)
      refine r_iald X h_v9 dX6_needPlan_116 (fun v11 => ?_)
      refine r_iload X dX6_needPlan_117 0 rfl ?_
      refine r_callSI [.int v11, .int v6] X mt_X6_145 (by decide) (okX6_has _ _ X.J) rfl (Nat.le_of_ble_eq_true rfl) dX6_needPlan_119 rfl (fun v13 M12 => ?_)
      refine r_if_ne 131 X dX6_needPlan_122 (by decide) ?_ ?_
      · exact r_to [(0, rf x.2.1 l0)] [1] rfl (sX6_needPlan_125 X hL Hr HH h_l0)
      · refine r_aload_n X dX6_needPlan_131 rfl 1 rfl ?_
        refine r_iload X dX6_needPlan_132 0 rfl ?_
        refine r_putI X fl_X6_251 (by decide) h_l0 (fun _ => rfl) (fun _ => rfl) dX6_needPlan_134 (fun M14 => ?_)
        refine r_aload_n X dX6_needPlan_137 rfl 1 rfl ?_
        refine r_dup X dX6_needPlan_138 rfl ?_
        refine r_getI X fl_X6_254 (by decide) h_l0 dX6_needPlan_139 (fun v15 => ?_)
        refine r_iconst (v := 1) X dX6_needPlan_142 (by decide) ?_
        refine r_iload X dX6_needPlan_143 0 rfl ?_
        refine r_ishl X dX6_needPlan_145 ?_
        refine r_ior X dX6_needPlan_146 ?_
        refine r_putI X fl_X6_254 (by decide) h_l0 (fun _ => rfl) (fun _ => rfl) dX6_needPlan_147 (fun M16 => ?_)
        refine r_iinc [(3, .int (l3 + 1)), (4, .int v6), (0, rf x.2.1 l0), (1, .int l1)] X dX6_needPlan_150 3 rfl rfl (nlt hL (by decide)) rfl ?_
        refine r_goto 81 X dX6_needPlan_153 (by decide) ?_
        exact r_hdr [(0, rf x.2.1 l0), (1, .int l1), (3, .int (l3 + 1))] [2, 3, 0] rfl (fun h => HH _ h h_l0)
set_option maxRecDepth 100000 in
noncomputable def bX6_needPlan_17  (M : Mm) : Option ((Nat × Nat × Int32 × Int32 × Mm) ⊕ Int32 × Mm) := some (.inr ((-1), M))
set_option maxRecDepth 100000 in
set_option maxHeartbeats 4000000 in
theorem sX6_needPlan_17 {x : SB} {F : ((Nat × Nat × Int32 × Int32 × Mm) ⊕ Int32 × Mm) → Prop} (X : CX x cX6_needPlan RX6 2) (hL : x.2.2.2.1 = 5) (Hr : RTI x cX6_needPlan .int F Sum.inr) (HH : ∀ q, F (.inl q) → pX6_needPlan x q)  {M : Mm}  : SIM x F (bX6_needPlan_17  M) 17 [] [] M := by
  unfold bX6_needPlan_17
  refine r_iconst (v := (-1)) X dX6_needPlan_17 (by decide) ?_
  exact r_iret Hr rfl dX6_needPlan_18
set_option maxRecDepth 100000 in
noncomputable def bX6_needPlan_0 (l0 : Nat) (l1 : Int32) (l2 : Int32) (M : Mm) : Option ((Nat × Nat × Int32 × Int32 × Mm) ⊕ Int32 × Mm) := cal (fX6_isRow l1 M) fun v18 M17 => if v18 = 0 then bX6_needPlan_17 M17 else cal (fX6_in l2 0 40 M17) fun v20 M19 => if v20 = 0 then bX6_needPlan_17 M19 else gfI M19 l0 10 fun v21 => if v21 = 0 then some (.inr ((-4), M19)) else gfR M19 0 l0 5 fun v22 => ldI M19 v22 l1 fun v23 => if 0 ≤ v23 then gfR M19 0 l0 5 fun v24 => ldI M19 v24 l1 fun v25 => if v25 ≤ 8 then cal (fX6_hereNow l0 M19) fun v27 M26 => pfI M26 l0 38 v27 fun M28 => gfI M28 l0 38 fun v29 => pfI M28 l0 37 ((1 : Int32) <<< (v29 &&& 31)) fun M30 => some (.inl (1, l0, l1, 0, M30)) else cal (fX6_meets l0 5 M19) fun v32 M31 => some (.inr (v32, M31)) else cal (fX6_meets l0 1 M19) fun v34 M33 => some (.inr (v34, M33))
set_option maxRecDepth 100000 in
set_option maxHeartbeats 4000000 in
theorem sX6_needPlan_0 {x : SB} {F : ((Nat × Nat × Int32 × Int32 × Mm) ⊕ Int32 × Mm) → Prop} (X : CX x cX6_needPlan RX6 2) (hL : x.2.2.2.1 = 5) (Hr : RTI x cX6_needPlan .int F Sum.inr) (HH : ∀ q, F (.inl q) → pX6_needPlan x q) {l0 : Nat} {l1 : Int32} {l2 : Int32} {M : Mm} (h_l0 : sh l0 = 16) : SIM x F (bX6_needPlan_0 l0 l1 l2 M) 0 [(0, rf x.2.1 l0), (1, .int l1), (2, .int l2)] [] M := by
  unfold bX6_needPlan_0
  refine r_iload_n X dX6_needPlan_0 rfl 1 rfl ?_
  refine r_callSI [.int l1] X mt_X6_102 (by decide) (okX6_isRow _ _ X.J) rfl (Nat.le_of_ble_eq_true rfl) dX6_needPlan_1 rfl (fun v18 M17 => ?_)
  refine r_if_eq 17 X dX6_needPlan_4 (by decide) ?_ ?_
  · exact r_to [] [] rfl (sX6_needPlan_17 X hL Hr HH)
  · refine r_iload_n X dX6_needPlan_7 rfl 2 rfl ?_
    refine r_iconst (v := 0) X dX6_needPlan_8 (by decide) ?_
    refine r_bipush (v := 40) X dX6_needPlan_9 (by decide) ?_
    refine r_callSI [.int l2, .int 0, .int 40] X mt_X6_92 (by decide) (okX6_in _ _ X.J) rfl (Nat.le_of_ble_eq_true rfl) dX6_needPlan_11 rfl (fun v20 M19 => ?_)
    refine r_if_ne 19 X dX6_needPlan_14 (by decide) ?_ ?_
    · exact r_to [] [] rfl (sX6_needPlan_17 X hL Hr HH)
    · refine r_aload_n X dX6_needPlan_19 rfl 0 rfl ?_
      refine r_getI X fl_X6_167 (by decide) h_l0 dX6_needPlan_20 (fun v21 => ?_)
      refine r_if_ne 29 X dX6_needPlan_23 (by decide) ?_ ?_
      · refine r_bipush (v := (-4)) X dX6_needPlan_26 (by decide) ?_
        exact r_iret Hr rfl dX6_needPlan_28
      · refine r_aload_n X dX6_needPlan_29 rfl 0 rfl ?_
        refine r_getR X fl_X6_17 (by decide) h_l0 dX6_needPlan_30 (fun v22 h_v22 => ?_)
        refine r_iload_n X dX6_needPlan_33 rfl 1 rfl ?_
        refine r_iald X h_v22 dX6_needPlan_34 (fun v23 => ?_)
        refine r_if_ge 44 X dX6_needPlan_35 (by decide) ?_ ?_
        · refine r_aload_n X dX6_needPlan_44 rfl 0 rfl ?_
          refine r_getR X fl_X6_17 (by decide) h_l0 dX6_needPlan_45 (fun v24 h_v24 => ?_)
          refine r_iload_n X dX6_needPlan_48 rfl 1 rfl ?_
          refine r_iald X h_v24 dX6_needPlan_49 (fun v25 => ?_)
          refine r_bipush (v := 8) X dX6_needPlan_50 (by decide) ?_
          refine r_icmp_le 61 X dX6_needPlan_52 (by decide) ?_ ?_
          · refine r_aload_n X dX6_needPlan_61 rfl 0 rfl ?_
            refine r_aload_n X dX6_needPlan_62 rfl 0 rfl ?_
            refine r_callVI [] X mt_X6_223 (by decide) h_l0 (by decide) (okX6_hereNow _ _ X.J h_l0) rfl (Nat.le_of_ble_eq_true rfl) dX6_needPlan_63 rfl (fun v27 M26 => ?_)
            refine r_putI X fl_X6_251 (by decide) h_l0 (fun _ => rfl) (fun _ => rfl) dX6_needPlan_66 (fun M28 => ?_)
            refine r_aload_n X dX6_needPlan_69 rfl 0 rfl ?_
            refine r_iconst (v := 1) X dX6_needPlan_70 (by decide) ?_
            refine r_aload_n X dX6_needPlan_71 rfl 0 rfl ?_
            refine r_getI X fl_X6_251 (by decide) h_l0 dX6_needPlan_72 (fun v29 => ?_)
            refine r_ishl X dX6_needPlan_75 ?_
            refine r_putI X fl_X6_254 (by decide) h_l0 (fun _ => rfl) (fun _ => rfl) dX6_needPlan_76 (fun M30 => ?_)
            refine r_iconst (v := 0) X dX6_needPlan_79 (by decide) ?_
            refine r_istore_n [(3, .int 0), (0, rf x.2.1 l0), (1, .int l1), (2, .int l2)] X dX6_needPlan_80 rfl (nlt hL (by decide)) rfl ?_
            exact r_hdr [(0, rf x.2.1 l0), (1, .int l1), (3, .int 0)] [1, 2, 0] rfl (fun h => HH _ h h_l0)
          · refine r_aload_n X dX6_needPlan_55 rfl 0 rfl ?_
            refine r_iconst (v := 5) X dX6_needPlan_56 (by decide) ?_
            refine r_callVI [.int 5] X mt_X6_106 (by decide) h_l0 (by decide) (okX6_meets _ _ X.J h_l0) rfl (Nat.le_of_ble_eq_true rfl) dX6_needPlan_57 rfl (fun v32 M31 => ?_)
            exact r_iret Hr rfl dX6_needPlan_60
        · refine r_aload_n X dX6_needPlan_38 rfl 0 rfl ?_
          refine r_iconst (v := 1) X dX6_needPlan_39 (by decide) ?_
          refine r_callVI [.int 1] X mt_X6_106 (by decide) h_l0 (by decide) (okX6_meets _ _ X.J h_l0) rfl (Nat.le_of_ble_eq_true rfl) dX6_needPlan_40 rfl (fun v34 M33 => ?_)
          exact r_iret Hr rfl dX6_needPlan_43
set_option maxRecDepth 100000 in
noncomputable def gX6_needPlan (q : Nat × Nat × Int32 × Int32 × Mm) : Option ((Nat × Nat × Int32 × Int32 × Mm) ⊕ Int32 × Mm) := match q.1 with
  | 1 => bX6_needPlan_81 (q.2.1) (q.2.2.1) (q.2.2.2.1) (q.2.2.2.2)
  | _ => none
set_option maxRecDepth 100000 in
noncomputable def fX6_needPlan (l0 : Nat) (l1 : Int32) (l2 : Int32) (M : Mm) : Option (Int32 × Mm) := fen gX6_needPlan (bX6_needPlan_0 l0 l1 l2 M)
set_option maxRecDepth 100000 in
set_option maxHeartbeats 4000000 in
theorem okX6_needPlan (l : Launch) (g : GX) (hJ : IJ g) {l0 : Nat} {l1 : Int32} {l2 : Int32} {M : Mm} (h_l0 : sh l0 = 16) : CT l g yX6_needPlan cX6_needPlan 5 (some .int) 2 [rf g l0, .int l1, .int l2] M (fX6_needPlan l0 l1 l2 M) (fun r => some (.int r)) := by
  refine ct_I rfl hJ (Nat.le_of_ble_eq_true rfl) (fun x r hg hL hl X hf Hr => ?_)
  subst hg
  have Hr2 : RTI x cX6_needPlan .int (Sum.elim (pX6_needPlan x) (fun q => q = r)) Sum.inr := fun v M h => Hr v M h
  have HP : ∀ q, fnl gX6_needPlan q = some r → pX6_needPlan x q := by
    intro q hq
    refine fnl_ind (pX6_needPlan x) (fun q hq => ?_) hq
    obtain ⟨n, l0, l1, l3, M⟩ := q
    match n, hq with
    | 1, hq => exact fun h_l0 ls H locs hl hP hS => sX6_needPlan_81 X hL Hr2 (fun _ h => h) h_l0 hq ls H locs hl hP hS
    | 0, hq => exact trivial
    | n + 2, hq => exact trivial
  exact fun _ ls H locs hl hP hS => sX6_needPlan_0 X hL Hr2 (fun _ h => h) h_l0 (fen_w hf HP) ls H locs hl hP hS
/-! CrumbWoodModel.stonesFor(IZ)I -/
set_option maxRecDepth 100000 in
def pX6_stonesFor (x : SB) (q : Nat × Nat × Int32 × Int32 × Int32 × Int32 × Mm) : Prop := match q.1 with
  | 1 => sh q.2.1 = 16 → ∀ (ls : Array Slot) (H : Heap) (locs : List Loc), lv_has ls x.2.2.2.1 [(0, rf x.2.1 q.2.1), (1, .int q.2.2.1), (2, .int q.2.2.2.1), (3, .int q.2.2.2.2.1), (4, .int q.2.2.2.2.2.1)] → PW x.2.1 (q.2.2.2.2.2.2) H → SH x H locs → SW x H locs 6 ls []
  | _ => True
set_option maxRecDepth 100000 in
noncomputable def bX6_stonesFor_74 (l0 : Nat) (l1 : Int32) (l2 : Int32) (l4 : Int32) (s0 : Int32) (M : Mm) : Option ((Nat × Nat × Int32 × Int32 × Int32 × Int32 × Mm) ⊕ Int32 × Mm) := some (.inl (1, l0, l1, l2, s0, (l4 + 1), M))
set_option maxRecDepth 100000 in
set_option maxHeartbeats 4000000 in
theorem sX6_stonesFor_74 {x : SB} {F : ((Nat × Nat × Int32 × Int32 × Int32 × Int32 × Mm) ⊕ Int32 × Mm) → Prop} (X : CX x cX6_stonesFor RX6 6) (hL : x.2.2.2.1 = 6) (Hr : RTI x cX6_stonesFor .int F Sum.inr) (HH : ∀ q, F (.inl q) → pX6_stonesFor x q) {l0 : Nat} {l1 : Int32} {l2 : Int32} {l4 : Int32} {s0 : Int32} {M : Mm} (h_l0 : sh l0 = 16) : SIM x F (bX6_stonesFor_74 l0 l1 l2 l4 s0 M) 74 [(0, rf x.2.1 l0), (1, .int l1), (2, .int l2), (4, .int l4)] [.int s0] M := by
  unfold bX6_stonesFor_74
  refine r_istore_n [(3, .int s0), (0, rf x.2.1 l0), (1, .int l1), (2, .int l2), (4, .int l4)] X dX6_stonesFor_74 rfl (nlt hL (by decide)) rfl ?_
  refine r_iinc [(4, .int (l4 + 1)), (3, .int s0), (0, rf x.2.1 l0), (1, .int l1), (2, .int l2)] X dX6_stonesFor_75 4 rfl rfl (nlt hL (by decide)) rfl ?_
  refine r_goto 6 X dX6_stonesFor_78 (by decide) ?_
  exact r_hdr [(0, rf x.2.1 l0), (1, .int l1), (2, .int l2), (3, .int s0), (4, .int (l4 + 1))] [2, 3, 4, 1, 0] rfl (fun h => HH _ h h_l0)
set_option maxRecDepth 100000 in
noncomputable def bX6_stonesFor_73 (l0 : Nat) (l1 : Int32) (l2 : Int32) (l3 : Int32) (l4 : Int32) (M : Mm) : Option ((Nat × Nat × Int32 × Int32 × Int32 × Int32 × Mm) ⊕ Int32 × Mm) := bX6_stonesFor_74 l0 l1 l2 l4 l3 M
set_option maxRecDepth 100000 in
set_option maxHeartbeats 4000000 in
theorem sX6_stonesFor_73 {x : SB} {F : ((Nat × Nat × Int32 × Int32 × Int32 × Int32 × Mm) ⊕ Int32 × Mm) → Prop} (X : CX x cX6_stonesFor RX6 6) (hL : x.2.2.2.1 = 6) (Hr : RTI x cX6_stonesFor .int F Sum.inr) (HH : ∀ q, F (.inl q) → pX6_stonesFor x q) {l0 : Nat} {l1 : Int32} {l2 : Int32} {l3 : Int32} {l4 : Int32} {M : Mm} (h_l0 : sh l0 = 16) : SIM x F (bX6_stonesFor_73 l0 l1 l2 l3 l4 M) 73 [(0, rf x.2.1 l0), (1, .int l1), (2, .int l2), (3, .int l3), (4, .int l4)] [] M := by
  unfold bX6_stonesFor_73
  refine r_iload_n X dX6_stonesFor_73 rfl 3 rfl ?_
  exact r_to [(0, rf x.2.1 l0), (1, .int l1), (2, .int l2), (4, .int l4)] [0, 1, 2, 4] rfl (sX6_stonesFor_74 X hL Hr HH h_l0)
set_option maxRecDepth 100000 in
noncomputable def bX6_stonesFor_38 (l0 : Nat) (l1 : Int32) (l2 : Int32) (l3 : Int32) (l4 : Int32) (s0 : Int32) (M : Mm) : Option ((Nat × Nat × Int32 × Int32 × Int32 × Int32 × Mm) ⊕ Int32 × Mm) := gfI M l0 37 fun v1 => if (l4 &&& (v1 ^^^ (-1))) = 0 then if s0 = 0 then bX6_stonesFor_73 l0 l1 l2 l3 l4 M else cal (fX6_bringsHome l0 l4 l1 l2 M) fun v3 M2 => if v3 = 0 then bX6_stonesFor_73 l0 l1 l2 l3 l4 M2 else bX6_stonesFor_74 l0 l1 l2 l4 l4 M2 else bX6_stonesFor_73 l0 l1 l2 l3 l4 M
set_option maxRecDepth 100000 in
set_option maxHeartbeats 4000000 in
theorem sX6_stonesFor_38 {x : SB} {F : ((Nat × Nat × Int32 × Int32 × Int32 × Int32 × Mm) ⊕ Int32 × Mm) → Prop} (X : CX x cX6_stonesFor RX6 6) (hL : x.2.2.2.1 = 6) (Hr : RTI x cX6_stonesFor .int F Sum.inr) (HH : ∀ q, F (.inl q) → pX6_stonesFor x q) {l0 : Nat} {l1 : Int32} {l2 : Int32} {l3 : Int32} {l4 : Int32} {s0 : Int32} {M : Mm} (h_l0 : sh l0 = 16) : SIM x F (bX6_stonesFor_38 l0 l1 l2 l3 l4 s0 M) 38 [(0, rf x.2.1 l0), (1, .int l1), (2, .int l2), (3, .int l3), (4, .int l4)] [.int s0] M := by
  unfold bX6_stonesFor_38
  refine r_istore [(5, .int s0), (0, rf x.2.1 l0), (1, .int l1), (2, .int l2), (3, .int l3), (4, .int l4)] X dX6_stonesFor_38 (nlt hL (by decide)) rfl ?_
  refine r_iload X dX6_stonesFor_40 5 rfl ?_
  refine r_aload_n X dX6_stonesFor_42 rfl 1 rfl ?_
  refine r_getI X fl_X6_254 (by decide) h_l0 dX6_stonesFor_43 (fun v1 => ?_)
  refine r_iconst (v := (-1)) X dX6_stonesFor_46 (by decide) ?_
  refine r_ixor X dX6_stonesFor_47 ?_
  refine r_iand X dX6_stonesFor_48 ?_
  refine r_if_ne 73 X dX6_stonesFor_49 (by decide) ?_ ?_
  · refine r_iload X dX6_stonesFor_52 0 rfl ?_
    refine r_if_eq 73 X dX6_stonesFor_54 (by decide) ?_ ?_
    · exact r_to [(0, rf x.2.1 l0), (1, .int l1), (2, .int l2), (3, .int l3), (4, .int l4)] [1, 2, 3, 4, 5] rfl (sX6_stonesFor_73 X hL Hr HH h_l0)
    · refine r_aload_n X dX6_stonesFor_57 rfl 1 rfl ?_
      refine r_iload X dX6_stonesFor_58 5 rfl ?_
      refine r_iload_n X dX6_stonesFor_60 rfl 2 rfl ?_
      refine r_iload_n X dX6_stonesFor_61 rfl 3 rfl ?_
      refine r_callVI [.int l4, .int l1, .int l2] X mt_X6_260 (by decide) h_l0 (by decide) (okX6_bringsHome _ _ X.J h_l0) rfl (Nat.le_of_ble_eq_true rfl) dX6_stonesFor_62 rfl (fun v3 M2 => ?_)
      refine r_if_eq 73 X dX6_stonesFor_65 (by decide) ?_ ?_
      · exact r_to [(0, rf x.2.1 l0), (1, .int l1), (2, .int l2), (3, .int l3), (4, .int l4)] [1, 2, 3, 4, 5] rfl (sX6_stonesFor_73 X hL Hr HH h_l0)
      · refine r_iload X dX6_stonesFor_68 5 rfl ?_
        refine r_goto 74 X dX6_stonesFor_70 (by decide) ?_
        exact r_to [(0, rf x.2.1 l0), (1, .int l1), (2, .int l2), (4, .int l4)] [1, 2, 3, 5] rfl (sX6_stonesFor_74 X hL Hr HH h_l0)
  · exact r_to [(0, rf x.2.1 l0), (1, .int l1), (2, .int l2), (3, .int l3), (4, .int l4)] [1, 2, 3, 4, 5] rfl (sX6_stonesFor_73 X hL Hr HH h_l0)
set_option maxRecDepth 100000 in
noncomputable def bX6_stonesFor_33 (l0 : Nat) (l1 : Int32) (l2 : Int32) (l3 : Int32) (l4 : Int32) (M : Mm) : Option ((Nat × Nat × Int32 × Int32 × Int32 × Int32 × Mm) ⊕ Int32 × Mm) := bX6_stonesFor_38 l0 l1 l2 l3 l4 1 M
set_option maxRecDepth 100000 in
set_option maxHeartbeats 4000000 in
theorem sX6_stonesFor_33 {x : SB} {F : ((Nat × Nat × Int32 × Int32 × Int32 × Int32 × Mm) ⊕ Int32 × Mm) → Prop} (X : CX x cX6_stonesFor RX6 6) (hL : x.2.2.2.1 = 6) (Hr : RTI x cX6_stonesFor .int F Sum.inr) (HH : ∀ q, F (.inl q) → pX6_stonesFor x q) {l0 : Nat} {l1 : Int32} {l2 : Int32} {l3 : Int32} {l4 : Int32} {M : Mm} (h_l0 : sh l0 = 16) : SIM x F (bX6_stonesFor_33 l0 l1 l2 l3 l4 M) 33 [(0, rf x.2.1 l0), (1, .int l1), (2, .int l2), (3, .int l3), (4, .int l4)] [] M := by
  unfold bX6_stonesFor_33
  refine r_iconst (v := 1) X dX6_stonesFor_33 (by decide) ?_
  refine r_goto 38 X dX6_stonesFor_34 (by decide) ?_
  exact r_to [(0, rf x.2.1 l0), (1, .int l1), (2, .int l2), (3, .int l3), (4, .int l4)] [0, 1, 2, 3, 4] rfl (sX6_stonesFor_38 X hL Hr HH h_l0)
set_option maxRecDepth 100000 in
noncomputable def bX6_stonesFor_6 (l0 : Nat) (l1 : Int32) (l2 : Int32) (l3 : Int32) (l4 : Int32) (M : Mm) : Option ((Nat × Nat × Int32 × Int32 × Int32 × Int32 × Mm) ⊕ Int32 × Mm) := gfI M l0 37 fun v4 => if v4 < l4 then if l3 = (-9) then some (.inr ((-9), M)) else cal (fX6_bits l3 M) fun v6 M5 => cal (fX6_tells l0 l3 v6 M5) fun v8 M7 => some (.inr (v8, M7)) else if l3 = (-9) then bX6_stonesFor_33 l0 l1 l2 l3 l4 M else cal (fX6_bits l4 M) fun v10 M9 => cal (fX6_bits l3 M9) fun v12 M11 => if v12 ≤ v10 then bX6_stonesFor_38 l0 l1 l2 l3 l4 0 M11 else bX6_stonesFor_33 l0 l1 l2 l3 l4 M11
set_option maxRecDepth 100000 in
set_option maxHeartbeats 4000000 in
theorem sX6_stonesFor_6 {x : SB} {F : ((Nat × Nat × Int32 × Int32 × Int32 × Int32 × Mm) ⊕ Int32 × Mm) → Prop} (X : CX x cX6_stonesFor RX6 6) (hL : x.2.2.2.1 = 6) (Hr : RTI x cX6_stonesFor .int F Sum.inr) (HH : ∀ q, F (.inl q) → pX6_stonesFor x q) {l0 : Nat} {l1 : Int32} {l2 : Int32} {l3 : Int32} {l4 : Int32} {M : Mm} (h_l0 : sh l0 = 16) : SIM x F (bX6_stonesFor_6 l0 l1 l2 l3 l4 M) 6 [(0, rf x.2.1 l0), (1, .int l1), (2, .int l2), (3, .int l3), (4, .int l4)] [] M := by
  unfold bX6_stonesFor_6
  refine r_iload X dX6_stonesFor_6 4 rfl ?_
  refine r_aload_n X dX6_stonesFor_8 rfl 0 rfl ?_
  refine r_getI X fl_X6_254 (by decide) h_l0 dX6_stonesFor_9 (fun v4 => ?_)
  refine r_icmp_gt 81 X dX6_stonesFor_12 (by decide) ?_ ?_
  · refine r_iload_n X dX6_stonesFor_81 rfl 3 rfl ?_
    refine r_bipush (v := (-9)) X dX6_stonesFor_82 (by decide) ?_
    refine r_icmp_ne 92 X dX6_stonesFor_84 (by decide) ?_ ?_
    · refine r_bipush (v := (-9)) X dX6_stonesFor_87 (by decide) ?_
      refine r_goto 101 X dX6_stonesFor_89 (by decide) ?_
      exact r_iret Hr rfl dX6_stonesFor_101
    · refine r_aload_n X dX6_stonesFor_92 rfl 0 rfl ?_
      refine r_iload_n X dX6_stonesFor_93 rfl 3 rfl ?_
      refine r_iload_n X dX6_stonesFor_94 rfl 3 rfl ?_
      refine r_callSI [.int l3] X mt_X6_257 (by decide) (okX6_bits _ _ X.J) rfl (Nat.le_of_ble_eq_true rfl) dX6_stonesFor_95 rfl (fun v6 M5 => ?_)
      refine r_callVI [.int l3, .int v6] X mt_X6_114 (by decide) h_l0 (by decide) (okX6_tells _ _ X.J h_l0) rfl (Nat.le_of_ble_eq_true rfl) dX6_stonesFor_98 rfl (fun v8 M7 => ?_)
      exact r_iret Hr rfl dX6_stonesFor_101
  · refine r_iload_n X dX6_stonesFor_15 rfl 3 rfl ?_
    refine r_bipush (v := (-9)) X dX6_stonesFor_16 (by decide) ?_
    refine r_icmp_eq 33 X dX6_stonesFor_18 (by decide) ?_ ?_
    · exact r_to [(0, rf x.2.1 l0), (1, .int l1), (2, .int l2), (3, .int l3), (4, .int l4)] [0, 1, 2, 3, 4] rfl (sX6_stonesFor_33 X hL Hr HH h_l0)
    · refine r_iload X dX6_stonesFor_21 4 rfl ?_
      refine r_callSI [.int l4] X mt_X6_257 (by decide) (okX6_bits _ _ X.J) rfl (Nat.le_of_ble_eq_true rfl) dX6_stonesFor_23 rfl (fun v10 M9 => ?_)
      refine r_iload_n X dX6_stonesFor_26 rfl 3 rfl ?_
      refine r_callSI [.int l3] X mt_X6_257 (by decide) (okX6_bits _ _ X.J) rfl (Nat.le_of_ble_eq_true rfl) dX6_stonesFor_27 rfl (fun v12 M11 => ?_)
      refine r_icmp_ge 37 X dX6_stonesFor_30 (by decide) ?_ ?_
      · refine r_iconst (v := 0) X dX6_stonesFor_37 (by decide) ?_
        exact r_to [(0, rf x.2.1 l0), (1, .int l1), (2, .int l2), (3, .int l3), (4, .int l4)] [0, 1, 2, 3, 4] rfl (sX6_stonesFor_38 X hL Hr HH h_l0)
      · exact r_to [(0, rf x.2.1 l0), (1, .int l1), (2, .int l2), (3, .int l3), (4, .int l4)] [0, 1, 2, 3, 4] rfl (sX6_stonesFor_33 X hL Hr HH h_l0)
set_option maxRecDepth 100000 in
noncomputable def bX6_stonesFor_0 (l0 : Nat) (l1 : Int32) (l2 : Int32) (M : Mm) : Option ((Nat × Nat × Int32 × Int32 × Int32 × Int32 × Mm) ⊕ Int32 × Mm) := some (.inl (1, l0, l1, l2, (-9), 0, M))
set_option maxRecDepth 100000 in
set_option maxHeartbeats 4000000 in
theorem sX6_stonesFor_0 {x : SB} {F : ((Nat × Nat × Int32 × Int32 × Int32 × Int32 × Mm) ⊕ Int32 × Mm) → Prop} (X : CX x cX6_stonesFor RX6 6) (hL : x.2.2.2.1 = 6) (Hr : RTI x cX6_stonesFor .int F Sum.inr) (HH : ∀ q, F (.inl q) → pX6_stonesFor x q) {l0 : Nat} {l1 : Int32} {l2 : Int32} {M : Mm} (h_l0 : sh l0 = 16) : SIM x F (bX6_stonesFor_0 l0 l1 l2 M) 0 [(0, rf x.2.1 l0), (1, .int l1), (2, .int l2)] [] M := by
  unfold bX6_stonesFor_0
  refine r_bipush (v := (-9)) X dX6_stonesFor_0 (by decide) ?_
  refine r_istore_n [(3, .int (-9)), (0, rf x.2.1 l0), (1, .int l1), (2, .int l2)] X dX6_stonesFor_2 rfl (nlt hL (by decide)) rfl ?_
  refine r_iconst (v := 0) X dX6_stonesFor_3 (by decide) ?_
  refine r_istore [(4, .int 0), (3, .int (-9)), (0, rf x.2.1 l0), (1, .int l1), (2, .int l2)] X dX6_stonesFor_4 (nlt hL (by decide)) rfl ?_
  exact r_hdr [(0, rf x.2.1 l0), (1, .int l1), (2, .int l2), (3, .int (-9)), (4, .int 0)] [2, 3, 4, 1, 0] rfl (fun h => HH _ h h_l0)
set_option maxRecDepth 100000 in
noncomputable def gX6_stonesFor (q : Nat × Nat × Int32 × Int32 × Int32 × Int32 × Mm) : Option ((Nat × Nat × Int32 × Int32 × Int32 × Int32 × Mm) ⊕ Int32 × Mm) := match q.1 with
  | 1 => bX6_stonesFor_6 (q.2.1) (q.2.2.1) (q.2.2.2.1) (q.2.2.2.2.1) (q.2.2.2.2.2.1) (q.2.2.2.2.2.2)
  | _ => none
set_option maxRecDepth 100000 in
noncomputable def fX6_stonesFor (l0 : Nat) (l1 : Int32) (l2 : Int32) (M : Mm) : Option (Int32 × Mm) := fen gX6_stonesFor (bX6_stonesFor_0 l0 l1 l2 M)
set_option maxRecDepth 100000 in
set_option maxHeartbeats 4000000 in
theorem okX6_stonesFor (l : Launch) (g : GX) (hJ : IJ g) {l0 : Nat} {l1 : Int32} {l2 : Int32} {M : Mm} (h_l0 : sh l0 = 16) : CT l g yX6_stonesFor cX6_stonesFor 6 (some .int) 6 [rf g l0, .int l1, .int l2] M (fX6_stonesFor l0 l1 l2 M) (fun r => some (.int r)) := by
  refine ct_I rfl hJ (Nat.le_of_ble_eq_true rfl) (fun x r hg hL hl X hf Hr => ?_)
  subst hg
  have Hr2 : RTI x cX6_stonesFor .int (Sum.elim (pX6_stonesFor x) (fun q => q = r)) Sum.inr := fun v M h => Hr v M h
  have HP : ∀ q, fnl gX6_stonesFor q = some r → pX6_stonesFor x q := by
    intro q hq
    refine fnl_ind (pX6_stonesFor x) (fun q hq => ?_) hq
    obtain ⟨n, l0, l1, l2, l3, l4, M⟩ := q
    match n, hq with
    | 1, hq => exact fun h_l0 ls H locs hl hP hS => sX6_stonesFor_6 X hL Hr2 (fun _ h => h) h_l0 hq ls H locs hl hP hS
    | 0, hq => exact trivial
    | n + 2, hq => exact trivial
  exact fun _ ls H locs hl hP hS => sX6_stonesFor_0 X hL Hr2 (fun _ h => h) h_l0 (fen_w hf HP) ls H locs hl hP hS

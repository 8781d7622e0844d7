/-! CrumbWood.asked()I -/
set_option maxRecDepth 100000 in
noncomputable def fX5_asked (l0 : Nat) (M : Mm) : Option (Int32 × Mm) := gfI M l0 10 fun v1 => some ((v1, M))
set_option maxRecDepth 100000 in
set_option maxHeartbeats 4000000 in
theorem sX5_asked_0 {x : SB} {F : (Int32 × Mm) → Prop} (X : CX x cX5_asked RX5 0) (hL : x.2.2.2.1 = 1) (Hr : RTI x cX5_asked .int F (fun q => q)) {l0 : Nat} {M : Mm} (h_l0 : sh l0 = 15) : SIM x F (fX5_asked l0 M) 0 [(0, rf x.2.1 l0)] [] M := by
  unfold fX5_asked
  refine r_aload_n X dX5_asked_0 rfl 0 rfl ?_
  refine r_getI X fl_X5_61 (by decide) h_l0 dX5_asked_1 (fun v1 => ?_)
  exact r_iret Hr rfl dX5_asked_4
set_option maxRecDepth 100000 in
set_option maxHeartbeats 4000000 in
theorem okX5_asked (l : Launch) (g : GX) (hJ : IJ g) {l0 : Nat} {M : Mm} (h_l0 : sh l0 = 15) : CT l g yX5_asked cX5_asked 1 (some .int) 0 [rf g l0] M (fX5_asked l0 M) (fun r => some (.int r)) := by
  refine ct_I rfl hJ (Nat.le_of_ble_eq_true rfl) (fun x r hg hL hl X hf Hr => ?_)
  subst hg
  exact fun _ ls H locs hl hP hS => sX5_asked_0 X hL Hr h_l0 ⟨_, hf, rfl⟩ ls H locs hl hP hS
/-! java/lang/Integer.bitCount(I)I -/
set_option maxRecDepth 100000 in
noncomputable def fJ6_bitCount_0f7a4 (l0 : Int32) (M : Mm) : Option (Int32 × Mm) := ltI (l0 - ((((l0).toUInt32 >>> ((1 : Int32).toUInt32 &&& Int32.toUInt32 31)).toInt32) &&& 1431655765)) fun v1 => ltI ((v1 &&& 858993459) + ((((v1).toUInt32 >>> ((2 : Int32).toUInt32 &&& Int32.toUInt32 31)).toInt32) &&& 858993459)) fun v2 => ltI ((v2 + (((v2).toUInt32 >>> ((4 : Int32).toUInt32 &&& Int32.toUInt32 31)).toInt32)) &&& 252645135) fun v3 => ltI (v3 + (((v3).toUInt32 >>> ((8 : Int32).toUInt32 &&& Int32.toUInt32 31)).toInt32)) fun v4 => ltI (v4 + (((v4).toUInt32 >>> ((16 : Int32).toUInt32 &&& Int32.toUInt32 31)).toInt32)) fun v5 => some (((v5 &&& 63), M))
set_option maxRecDepth 100000 in
set_option maxHeartbeats 4000000 in
theorem sJ6_bitCount_0f7a4_0 {x : SB} {F : (Int32 × Mm) → Prop} (X : CX x cJ6_bitCount_0f7a4 RJ6 0) (hL : x.2.2.2.1 = 1) (Hr : RTI x cJ6_bitCount_0f7a4 .int F (fun q => q)) {l0 : Int32} {M : Mm}  : SIM x F (fJ6_bitCount_0f7a4 l0 M) 0 [(0, .int l0)] [] M := by
  unfold fJ6_bitCount_0f7a4
  refine r_iload_n X dJ6_bitCount_0f7a4_0 rfl 0 rfl ?_
  refine r_iload_n X dJ6_bitCount_0f7a4_1 rfl 0 rfl ?_
  refine r_iconst (v := 1) X dJ6_bitCount_0f7a4_2 (by decide) ?_
  refine r_iushr X dJ6_bitCount_0f7a4_3 ?_
  refine r_ldcw X dJ6_bitCount_0f7a4_4 k_458 ?_
  refine r_iand X dJ6_bitCount_0f7a4_7 ?_
  refine r_isub X dJ6_bitCount_0f7a4_8 ?_
  refine r_letI (fun v1 => ?_)
  refine r_istore_n [(0, .int v1)] X dJ6_bitCount_0f7a4_9 rfl (nlt hL (by decide)) rfl ?_
  refine r_iload_n X dJ6_bitCount_0f7a4_10 rfl 0 rfl ?_
  refine r_ldcw X dJ6_bitCount_0f7a4_11 k_459 ?_
  refine r_iand X dJ6_bitCount_0f7a4_14 ?_
  refine r_iload_n X dJ6_bitCount_0f7a4_15 rfl 0 rfl ?_
  refine r_iconst (v := 2) X dJ6_bitCount_0f7a4_16 (by decide) ?_
  refine r_iushr X dJ6_bitCount_0f7a4_17 ?_
  refine r_ldcw X dJ6_bitCount_0f7a4_18 k_459 ?_
  refine r_iand X dJ6_bitCount_0f7a4_21 ?_
  refine r_iadd X dJ6_bitCount_0f7a4_22 ?_
  refine r_letI (fun v2 => ?_)
  refine r_istore_n [(0, .int v2)] X dJ6_bitCount_0f7a4_23 rfl (nlt hL (by decide)) rfl ?_
  refine r_iload_n X dJ6_bitCount_0f7a4_24 rfl 0 rfl ?_
  refine r_iload_n X dJ6_bitCount_0f7a4_25 rfl 0 rfl ?_
  refine r_iconst (v := 4) X dJ6_bitCount_0f7a4_26 (by decide) ?_
  refine r_iushr X dJ6_bitCount_0f7a4_27 ?_
  refine r_iadd X dJ6_bitCount_0f7a4_28 ?_
  refine r_ldcw X dJ6_bitCount_0f7a4_29 k_460 ?_
  refine r_iand X dJ6_bitCount_0f7a4_32 ?_
  refine r_letI (fun v3 => ?_)
  refine r_istore_n [(0, .int v3)] X dJ6_bitCount_0f7a4_33 rfl (nlt hL (by decide)) rfl ?_
  refine r_iload_n X dJ6_bitCount_0f7a4_34 rfl 0 rfl ?_
  refine r_iload_n X dJ6_bitCount_0f7a4_35 rfl 0 rfl ?_
  refine r_bipush (v := 8) X dJ6_bitCount_0f7a4_36 (by decide) ?_
  refine r_iushr X dJ6_bitCount_0f7a4_38 ?_
  refine r_iadd X dJ6_bitCount_0f7a4_39 ?_
  refine r_letI (fun v4 => ?_)
  refine r_istore_n [(0, .int v4)] X dJ6_bitCount_0f7a4_40 rfl (nlt hL (by decide)) rfl ?_
  refine r_iload_n X dJ6_bitCount_0f7a4_41 rfl 0 rfl ?_
  refine r_iload_n X dJ6_bitCount_0f7a4_42 rfl 0 rfl ?_
  refine r_bipush (v := 16) X dJ6_bitCount_0f7a4_43 (by decide) ?_
  refine r_iushr X dJ6_bitCount_0f7a4_45 ?_
  refine r_iadd X dJ6_bitCount_0f7a4_46 ?_
  refine r_letI (fun v5 => ?_)
  refine r_istore_n [(0, .int v5)] X dJ6_bitCount_0f7a4_47 rfl (nlt hL (by decide)) rfl ?_
  refine r_iload_n X dJ6_bitCount_0f7a4_48 rfl 0 rfl ?_
  refine r_bipush (v := 63) X dJ6_bitCount_0f7a4_49 (by decide) ?_
  refine r_iand X dJ6_bitCount_0f7a4_51 ?_
  exact r_iret Hr rfl dJ6_bitCount_0f7a4_52
set_option maxRecDepth 100000 in
set_option maxHeartbeats 4000000 in
theorem okJ6_bitCount_0f7a4 (l : Launch) (g : GX) (hJ : IJ g) {l0 : Int32} {M : Mm}  : CT l g yJ6_bitCount_0f7a4 cJ6_bitCount_0f7a4 1 (some .int) 0 [.int l0] M (fJ6_bitCount_0f7a4 l0 M) (fun r => some (.int r)) := by
  refine ct_I rfl hJ (Nat.le_of_ble_eq_true rfl) (fun x r hg hL hl X hf Hr => ?_)
  subst hg
  exact fun _ ls H locs hl hP hS => sJ6_bitCount_0f7a4_0 X hL Hr ⟨_, hf, rfl⟩ ls H locs hl hP hS
/-! CrumbWood.least(I)I -/
set_option maxRecDepth 100000 in
noncomputable def fX5_least (l0 : Int32) (M : Mm) : Option (Int32 × Mm) := cal (fJ6_bitCount_0f7a4 ((l0 &&& (-l0)) - 1) M) fun v2 M1 => some ((v2, M1))
set_option maxRecDepth 100000 in
set_option maxHeartbeats 4000000 in
theorem sX5_least_0 {x : SB} {F : (Int32 × Mm) → Prop} (X : CX x cX5_least RX5 1) (hL : x.2.2.2.1 = 1) (Hr : RTI x cX5_least .int F (fun q => q)) {l0 : Int32} {M : Mm}  : SIM x F (fX5_least l0 M) 0 [(0, .int l0)] [] M := by
  unfold fX5_least
  refine r_iload_n X dX5_least_0 rfl 0 rfl ?_
  refine r_iload_n X dX5_least_1 rfl 0 rfl ?_
  refine r_ineg X dX5_least_2 ?_
  refine r_iand X dX5_least_3 ?_
  refine r_iconst (v := 1) X dX5_least_4 (by decide) ?_
  refine r_isub X dX5_least_5 ?_
  refine r_callSI [.int ((l0 &&& (-l0)) - 1)] X mt_X5_156 (by decide) (okJ6_bitCount_0f7a4 _ _ X.J) rfl (Nat.le_of_ble_eq_true rfl) dX5_least_6 rfl (fun v2 M1 => ?_)
  exact r_iret Hr rfl dX5_least_9
set_option maxRecDepth 100000 in
set_option maxHeartbeats 4000000 in
theorem okX5_least (l : Launch) (g : GX) (hJ : IJ g) {l0 : Int32} {M : Mm}  : CT l g yX5_least cX5_least 1 (some .int) 1 [.int l0] M (fX5_least l0 M) (fun r => some (.int r)) := by
  refine ct_I rfl hJ (Nat.le_of_ble_eq_true rfl) (fun x r hg hL hl X hf Hr => ?_)
  subst hg
  exact fun _ ls H locs hl hP hS => sX5_least_0 X hL Hr ⟨_, hf, rfl⟩ ls H locs hl hP hS
/-! CrumbWood$Sight.follow(IIII)Z -/
set_option maxRecDepth 100000 in
def pX1_follow (x : SB) (q : Nat × Nat × Int32 × Int32 × Int32 × Int32 × Int32 × Int32 × Mm) : Prop := match q.1 with
  | 1 => sh q.2.1 = 11 → ∀ (ls : Array Slot) (H : Heap) (locs : List Loc), lv_has ls x.2.2.2.1 [(0, rf x.2.1 q.2.1), (2, .int q.2.2.1), (3, .int q.2.2.2.1), (4, .int q.2.2.2.2.1), (5, .int q.2.2.2.2.2.1), (6, .int q.2.2.2.2.2.2.1), (7, .int q.2.2.2.2.2.2.2.1)] → PW x.2.1 (q.2.2.2.2.2.2.2.2) H → SH x H locs → SW x H locs 25 ls []
  | _ => True
set_option maxRecDepth 100000 in
noncomputable def bX1_follow_135 (l5 : Int32) (M : Mm) : Option ((Nat × Nat × Int32 × Int32 × Int32 × Int32 × Int32 × Int32 × Mm) ⊕ Int32 × Mm) := if l5 = 0 then some (.inr (1, M)) else some (.inr (0, M))
set_option maxRecDepth 100000 in
set_option maxHeartbeats 4000000 in
theorem sX1_follow_135 {x : SB} {F : ((Nat × Nat × Int32 × Int32 × Int32 × Int32 × Int32 × Int32 × Mm) ⊕ Int32 × Mm) → Prop} (X : CX x cX1_follow RX1 2) (hL : x.2.2.2.1 = 10) (Hr : RTI x cX1_follow .boolean F Sum.inr) (HH : ∀ q, F (.inl q) → pX1_follow x q) {l5 : Int32} {M : Mm}  : SIM x F (bX1_follow_135 l5 M) 135 [(5, .int l5)] [] M := by
  unfold bX1_follow_135
  refine r_iload X dX1_follow_135 0 rfl ?_
  refine r_if_ne 144 X dX1_follow_137 (by decide) ?_ ?_
  · refine r_iconst (v := 1) X dX1_follow_140 (by decide) ?_
    refine r_goto 145 X dX1_follow_141 (by decide) ?_
    exact r_iret Hr rfl dX1_follow_145
  · refine r_iconst (v := 0) X dX1_follow_144 (by decide) ?_
    exact r_iret Hr rfl dX1_follow_145
set_option maxRecDepth 100000 in
noncomputable def bX1_follow_89 (l0 : Nat) (l2 : Int32) (l3 : Int32) (l4 : Int32) (l6 : Int32) (l7 : Int32) (l9 : Int32) (M : Mm) : Option ((Nat × Nat × Int32 × Int32 × Int32 × Int32 × Int32 × Int32 × Mm) ⊕ Int32 × Mm) := if l9 = 0 then some (.inr (0, M)) else cal (fX5_least l9 M) fun v2 M1 => ltI (l6 &&& (((1 : Int32) <<< (v2 &&& 31)) ^^^ (-1))) fun v3 => gfR M1 0 l0 7 fun v4 => stI M1 v4 l7 v2 fun M5 => pfI M5 l0 8 l7 fun M6 => some (.inl (1, l0, l2, l3, l4, v2, v3, (l7 + 1), M6))
set_option maxRecDepth 100000 in
set_option maxHeartbeats 4000000 in
theorem sX1_follow_89 {x : SB} {F : ((Nat × Nat × Int32 × Int32 × Int32 × Int32 × Int32 × Int32 × Mm) ⊕ Int32 × Mm) → Prop} (X : CX x cX1_follow RX1 2) (hL : x.2.2.2.1 = 10) (Hr : RTI x cX1_follow .boolean F Sum.inr) (HH : ∀ q, F (.inl q) → pX1_follow x q) {l0 : Nat} {l2 : Int32} {l3 : Int32} {l4 : Int32} {l6 : Int32} {l7 : Int32} {l9 : Int32} {M : Mm} (h_l0 : sh l0 = 11) : SIM x F (bX1_follow_89 l0 l2 l3 l4 l6 l7 l9 M) 89 [(0, rf x.2.1 l0), (2, .int l2), (3, .int l3), (4, .int l4), (6, .int l6), (7, .int l7), (9, .int l9)] [] M := by
  unfold bX1_follow_89
  refine r_iload X dX1_follow_89 6 rfl ?_
  refine r_if_ne 96 X dX1_follow_91 (by decide) ?_ ?_
  · refine r_iconst (v := 0) X dX1_follow_94 (by decide) ?_
    exact r_iret Hr rfl dX1_follow_95
  · refine r_iload X dX1_follow_96 6 rfl ?_
    refine r_callSI [.int l9] X mt_X1_63 (by decide) (okX5_least _ _ X.J) rfl (Nat.le_of_ble_eq_true rfl) dX1_follow_98 rfl (fun v2 M1 => ?_)
    refine r_istore [(5, .int v2), (0, rf x.2.1 l0), (2, .int l2), (3, .int l3), (4, .int l4), (6, .int l6), (7, .int l7), (9, .int l9)] X dX1_follow_101 (nlt hL (by decide)) rfl ?_
    refine r_iload X dX1_follow_103 5 rfl ?_
    refine r_iconst (v := 1) X dX1_follow_105 (by decide) ?_
    refine r_iload X dX1_follow_106 0 rfl ?_
    refine r_ishl X dX1_follow_108 ?_
    refine r_iconst (v := (-1)) X dX1_follow_109 (by decide) ?_
    refine r_ixor X dX1_follow_110 ?_
    refine r_iand X dX1_follow_111 ?_
    refine r_letI (fun v3 => ?_)
    refine r_istore [(6, .int v3), (5, .int v2), (0, rf x.2.1 l0), (2, .int l2), (3, .int l3), (4, .int l4), (7, .int l7), (9, .int l9)] X dX1_follow_112 (nlt hL (by decide)) rfl ?_
    refine r_aload_n X dX1_follow_114 rfl 2 rfl ?_
    refine r_getR X fl_X1_34 (by decide) h_l0 dX1_follow_115 (fun v4 h_v4 => ?_)
    refine r_iload X dX1_follow_118 6 rfl ?_
    refine r_iload X dX1_follow_120 1 rfl ?_
    refine r_iast X h_v4 dX1_follow_122 (fun M5 => ?_)
    refine r_aload_n X dX1_follow_123 rfl 2 rfl ?_
    refine r_iload X dX1_follow_124 6 rfl ?_
    refine r_putI X fl_X1_37 (by decide) h_l0 (fun _ => rfl) (fun _ => rfl) dX1_follow_126 (fun M6 => ?_)
    refine r_iinc [(7, .int (l7 + 1)), (6, .int v3), (5, .int v2), (0, rf x.2.1 l0), (2, .int l2), (3, .int l3), (4, .int l4), (9, .int l9)] X dX1_follow_129 6 rfl rfl (nlt hL (by decide)) rfl ?_
    refine r_goto 25 X dX1_follow_132 (by decide) ?_
    exact r_hdr [(0, rf x.2.1 l0), (2, .int l2), (3, .int l3), (4, .int l4), (5, .int v2), (6, .int v3), (7, .int (l7 + 1))] [3, 4, 5, 6, 2, 1, 0] rfl (fun h => HH _ h h_l0)
set_option maxRecDepth 100000 in
noncomputable def bX1_follow_77 (l0 : Nat) (l2 : Int32) (l3 : Int32) (l4 : Int32) (l6 : Int32) (l7 : Int32) (l8 : Int32) (l9 : Int32) (M : Mm) : Option ((Nat × Nat × Int32 × Int32 × Int32 × Int32 × Int32 × Int32 × Mm) ⊕ Int32 × Mm) := if l9 = 0 then ltI (l8 &&& l4) fun v7 => bX1_follow_89 l0 l2 l3 l4 l6 l7 v7 M else bX1_follow_89 l0 l2 l3 l4 l6 l7 l9 M
set_option maxRecDepth 100000 in
set_option maxHeartbeats 4000000 in
theorem sX1_follow_77 {x : SB} {F : ((Nat × Nat × Int32 × Int32 × Int32 × Int32 × Int32 × Int32 × Mm) ⊕ Int32 × Mm) → Prop} (X : CX x cX1_follow RX1 2) (hL : x.2.2.2.1 = 10) (Hr : RTI x cX1_follow .boolean F Sum.inr) (HH : ∀ q, F (.inl q) → pX1_follow x q) {l0 : Nat} {l2 : Int32} {l3 : Int32} {l4 : Int32} {l6 : Int32} {l7 : Int32} {l8 : Int32} {l9 : Int32} {M : Mm} (h_l0 : sh l0 = 11) : SIM x F (bX1_follow_77 l0 l2 l3 l4 l6 l7 l8 l9 M) 77 [(0, rf x.2.1 l0), (2, .int l2), (3, .int l3), (4, .int l4), (6, .int l6), (7, .int l7), (8, .int l8), (9, .int l9)] [] M := by
  unfold bX1_follow_77
  refine r_iload X dX1_follow_77 7 rfl ?_
  refine r_if_ne 89 X dX1_follow_79 (by decide) ?_ ?_
  · refine r_iload X dX1_follow_82 6 rfl ?_
    refine r_iload X dX1_follow_84 3 rfl ?_
    refine r_iand X dX1_follow_86 ?_
    refine r_letI (fun v7 => ?_)
    refine r_istore [(9, .int v7), (0, rf x.2.1 l0), (2, .int l2), (3, .int l3), (4, .int l4), (6, .int l6), (7, .int l7), (8, .int l8)] X dX1_follow_87 (nlt hL (by decide)) rfl ?_
    exact r_to [(0, rf x.2.1 l0), (2, .int l2), (3, .int l3), (4, .int l4), (6, .int l6), (7, .int l7), (9, .int v7)] [1, 2, 3, 4, 5, 6, 0] rfl (sX1_follow_89 X hL Hr HH h_l0)
  · exact r_to [(0, rf x.2.1 l0), (2, .int l2), (3, .int l3), (4, .int l4), (6, .int l6), (7, .int l7), (9, .int l9)] [0, 1, 2, 3, 4, 5, 7] rfl (sX1_follow_89 X hL Hr HH h_l0)
set_option maxRecDepth 100000 in
noncomputable def bX1_follow_66 (l0 : Nat) (l2 : Int32) (l3 : Int32) (l4 : Int32) (l6 : Int32) (l7 : Int32) (l8 : Int32) (l9 : Int32) (M : Mm) : Option ((Nat × Nat × Int32 × Int32 × Int32 × Int32 × Int32 × Int32 × Mm) ⊕ Int32 × Mm) := if l9 = 0 then ltI (l8 &&& l3) fun v8 => bX1_follow_77 l0 l2 l3 l4 l6 l7 l8 v8 M else bX1_follow_77 l0 l2 l3 l4 l6 l7 l8 l9 M
set_option maxRecDepth 100000 in
set_option maxHeartbeats 4000000 in
theorem sX1_follow_66 {x : SB} {F : ((Nat × Nat × Int32 × Int32 × Int32 × Int32 × Int32 × Int32 × Mm) ⊕ Int32 × Mm) → Prop} (X : CX x cX1_follow RX1 2) (hL : x.2.2.2.1 = 10) (Hr : RTI x cX1_follow .boolean F Sum.inr) (HH : ∀ q, F (.inl q) → pX1_follow x q) {l0 : Nat} {l2 : Int32} {l3 : Int32} {l4 : Int32} {l6 : Int32} {l7 : Int32} {l8 : Int32} {l9 : Int32} {M : Mm} (h_l0 : sh l0 = 11) : SIM x F (bX1_follow_66 l0 l2 l3 l4 l6 l7 l8 l9 M) 66 [(0, rf x.2.1 l0), (2, .int l2), (3, .int l3), (4, .int l4), (6, .int l6), (7, .int l7), (8, .int l8), (9, .int l9)] [] M := by
  unfold bX1_follow_66
  refine r_iload X dX1_follow_66 7 rfl ?_
  refine r_if_ne 77 X dX1_follow_68 (by decide) ?_ ?_
  · refine r_iload X dX1_follow_71 6 rfl ?_
    refine r_iload_n X dX1_follow_73 rfl 2 rfl ?_
    refine r_iand X dX1_follow_74 ?_
    refine r_letI (fun v8 => ?_)
    refine r_istore [(9, .int v8), (0, rf x.2.1 l0), (2, .int l2), (3, .int l3), (4, .int l4), (6, .int l6), (7, .int l7), (8, .int l8)] X dX1_follow_75 (nlt hL (by decide)) rfl ?_
    exact r_to [(0, rf x.2.1 l0), (2, .int l2), (3, .int l3), (4, .int l4), (6, .int l6), (7, .int l7), (8, .int l8), (9, .int v8)] [1, 2, 3, 4, 5, 6, 7, 0] rfl (sX1_follow_77 X hL Hr HH h_l0)
  · exact r_to [(0, rf x.2.1 l0), (2, .int l2), (3, .int l3), (4, .int l4), (6, .int l6), (7, .int l7), (8, .int l8), (9, .int l9)] [0, 1, 2, 3, 4, 5, 6, 7] rfl (sX1_follow_77 X hL Hr HH h_l0)
set_option maxRecDepth 100000 in
noncomputable def bX1_follow_25 (l0 : Nat) (l2 : Int32) (l3 : Int32) (l4 : Int32) (l5 : Int32) (l6 : Int32) (l7 : Int32) (M : Mm) : Option ((Nat × Nat × Int32 × Int32 × Int32 × Int32 × Int32 × Int32 × Mm) ⊕ Int32 × Mm) := if 8 ≤ l7 then bX1_follow_135 l5 M else if l5 = 0 then bX1_follow_135 l5 M else gfR M 0 l0 0 fun v9 => ldI M v9 l5 fun v10 => ltI (v10 &&& l6) fun v11 => ltI (v11 &&& 1) fun v12 => if v12 = 0 then ltI (v11 &&& l2) fun v13 => bX1_follow_66 l0 l2 l3 l4 l6 l7 v11 v13 M else bX1_follow_66 l0 l2 l3 l4 l6 l7 v11 v12 M
set_option maxRecDepth 100000 in
set_option maxHeartbeats 4000000 in
theorem sX1_follow_25 {x : SB} {F : ((Nat × Nat × Int32 × Int32 × Int32 × Int32 × Int32 × Int32 × Mm) ⊕ Int32 × Mm) → Prop} (X : CX x cX1_follow RX1 2) (hL : x.2.2.2.1 = 10) (Hr : RTI x cX1_follow .boolean F Sum.inr) (HH : ∀ q, F (.inl q) → pX1_follow x q) {l0 : Nat} {l2 : Int32} {l3 : Int32} {l4 : Int32} {l5 : Int32} {l6 : Int32} {l7 : Int32} {M : Mm} (h_l0 : sh l0 = 11) : SIM x F (bX1_follow_25 l0 l2 l3 l4 l5 l6 l7 M) 25 [(0, rf x.2.1 l0), (2, .int l2), (3, .int l3), (4, .int l4), (5, .int l5), (6, .int l6), (7, .int l7)] [] M := by
  unfold bX1_follow_25
  refine r_iload X dX1_follow_25 6 rfl ?_
  refine r_bipush (v := 8) X dX1_follow_27 (by decide) ?_
  refine r_icmp_ge 135 X dX1_follow_29 (by decide) ?_ ?_
  · exact r_to [(5, .int l5)] [4] rfl (sX1_follow_135 X hL Hr HH)
  · refine r_iload X dX1_follow_32 4 rfl ?_
    refine r_if_eq 135 X dX1_follow_34 (by decide) ?_ ?_
    · exact r_to [(5, .int l5)] [4] rfl (sX1_follow_135 X hL Hr HH)
    · refine r_aload_n X dX1_follow_37 rfl 0 rfl ?_
      refine r_getR X fl_X1_9 (by decide) h_l0 dX1_follow_38 (fun v9 h_v9 => ?_)
      refine r_iload X dX1_follow_41 4 rfl ?_
      refine r_iald X h_v9 dX1_follow_43 (fun v10 => ?_)
      refine r_iload X dX1_follow_44 5 rfl ?_
      refine r_iand X dX1_follow_46 ?_
      refine r_letI (fun v11 => ?_)
      refine r_istore [(8, .int v11), (0, rf x.2.1 l0), (2, .int l2), (3, .int l3), (4, .int l4), (5, .int l5), (6, .int l6), (7, .int l7)] X dX1_follow_47 (nlt hL (by decide)) rfl ?_
      refine r_iload X dX1_follow_49 0 rfl ?_
      refine r_iconst (v := 1) X dX1_follow_51 (by decide) ?_
      refine r_iand X dX1_follow_52 ?_
      refine r_letI (fun v12 => ?_)
      refine r_istore [(9, .int v12), (8, .int v11), (0, rf x.2.1 l0), (2, .int l2), (3, .int l3), (4, .int l4), (5, .int l5), (6, .int l6), (7, .int l7)] X dX1_follow_53 (nlt hL (by decide)) rfl ?_
      refine r_iload X dX1_follow_55 0 rfl ?_
      refine r_if_ne 66 X dX1_follow_57 (by decide) ?_ ?_
      · refine r_iload X dX1_follow_60 1 rfl ?_
        refine r_iload_n X dX1_follow_62 rfl 3 rfl ?_
        refine r_iand X dX1_follow_63 ?_
        refine r_letI (fun v13 => ?_)
        refine r_istore [(9, .int v13), (8, .int v11), (0, rf x.2.1 l0), (2, .int l2), (3, .int l3), (4, .int l4), (5, .int l5), (6, .int l6), (7, .int l7)] X dX1_follow_64 (nlt hL (by decide)) rfl ?_
        exact r_to [(0, rf x.2.1 l0), (2, .int l2), (3, .int l3), (4, .int l4), (6, .int l6), (7, .int l7), (8, .int v11), (9, .int v13)] [2, 3, 4, 5, 7, 8, 1, 0] rfl (sX1_follow_66 X hL Hr HH h_l0)
      · exact r_to [(0, rf x.2.1 l0), (2, .int l2), (3, .int l3), (4, .int l4), (6, .int l6), (7, .int l7), (8, .int v11), (9, .int v12)] [2, 3, 4, 5, 7, 8, 1, 0] rfl (sX1_follow_66 X hL Hr HH h_l0)
set_option maxRecDepth 100000 in
noncomputable def bX1_follow_0 (l0 : Nat) (l1 : Int32) (l2 : Int32) (l3 : Int32) (l4 : Int32) (M : Mm) : Option ((Nat × Nat × Int32 × Int32 × Int32 × Int32 × Int32 × Int32 × Mm) ⊕ Int32 × Mm) := ltI (((1 : Int32) <<< (l1 &&& 31)) ^^^ (-1)) fun v14 => gfR M 0 l0 7 fun v15 => stI M v15 0 l1 fun M16 => pfI M16 l0 8 0 fun M17 => some (.inl (1, l0, l2, l3, l4, l1, v14, 1, M17))
set_option maxRecDepth 100000 in
set_option maxHeartbeats 4000000 in
theorem sX1_follow_0 {x : SB} {F : ((Nat × Nat × Int32 × Int32 × Int32 × Int32 × Int32 × Int32 × Mm) ⊕ Int32 × Mm) → Prop} (X : CX x cX1_follow RX1 2) (hL : x.2.2.2.1 = 10) (Hr : RTI x cX1_follow .boolean F Sum.inr) (HH : ∀ q, F (.inl q) → pX1_follow x q) {l0 : Nat} {l1 : Int32} {l2 : Int32} {l3 : Int32} {l4 : Int32} {M : Mm} (h_l0 : sh l0 = 11) : SIM x F (bX1_follow_0 l0 l1 l2 l3 l4 M) 0 [(0, rf x.2.1 l0), (1, .int l1), (2, .int l2), (3, .int l3), (4, .int l4)] [] M := by
  unfold bX1_follow_0
  refine r_iload_n X dX1_follow_0 rfl 1 rfl ?_
  refine r_istore [(5, .int l1), (0, rf x.2.1 l0), (1, .int l1), (2, .int l2), (3, .int l3), (4, .int l4)] X dX1_follow_1 (nlt hL (by decide)) rfl ?_
  refine r_iconst (v := 1) X dX1_follow_3 (by decide) ?_
  refine r_iload_n X dX1_follow_4 rfl 2 rfl ?_
  refine r_ishl X dX1_follow_5 ?_
  refine r_iconst (v := (-1)) X dX1_follow_6 (by decide) ?_
  refine r_ixor X dX1_follow_7 ?_
  refine r_letI (fun v14 => ?_)
  refine r_istore [(6, .int v14), (5, .int l1), (0, rf x.2.1 l0), (1, .int l1), (2, .int l2), (3, .int l3), (4, .int l4)] X dX1_follow_8 (nlt hL (by decide)) rfl ?_
  refine r_aload_n X dX1_follow_10 rfl 2 rfl ?_
  refine r_getR X fl_X1_34 (by decide) h_l0 dX1_follow_11 (fun v15 h_v15 => ?_)
  refine r_iconst (v := 0) X dX1_follow_14 (by decide) ?_
  refine r_iload_n X dX1_follow_15 rfl 3 rfl ?_
  refine r_iast X h_v15 dX1_follow_16 (fun M16 => ?_)
  refine r_aload_n X dX1_follow_17 rfl 2 rfl ?_
  refine r_iconst (v := 0) X dX1_follow_18 (by decide) ?_
  refine r_putI X fl_X1_37 (by decide) h_l0 (fun _ => rfl) (fun _ => rfl) dX1_follow_19 (fun M17 => ?_)
  refine r_iconst (v := 1) X dX1_follow_22 (by decide) ?_
  refine r_istore [(7, .int 1), (6, .int v14), (5, .int l1), (0, rf x.2.1 l0), (1, .int l1), (2, .int l2), (3, .int l3), (4, .int l4)] X dX1_follow_23 (nlt hL (by decide)) rfl ?_
  exact r_hdr [(0, rf x.2.1 l0), (2, .int l2), (3, .int l3), (4, .int l4), (5, .int l1), (6, .int v14), (7, .int 1)] [3, 5, 6, 7, 2, 1, 0] rfl (fun h => HH _ h h_l0)
set_option maxRecDepth 100000 in
noncomputable def gX1_follow (q : Nat × Nat × Int32 × Int32 × Int32 × Int32 × Int32 × Int32 × Mm) : Option ((Nat × Nat × Int32 × Int32 × Int32 × Int32 × Int32 × Int32 × Mm) ⊕ Int32 × Mm) := match q.1 with
  | 1 => bX1_follow_25 (q.2.1) (q.2.2.1) (q.2.2.2.1) (q.2.2.2.2.1) (q.2.2.2.2.2.1) (q.2.2.2.2.2.2.1) (q.2.2.2.2.2.2.2.1) (q.2.2.2.2.2.2.2.2)
  | _ => none
set_option maxRecDepth 100000 in
noncomputable def fX1_follow (l0 : Nat) (l1 : Int32) (l2 : Int32) (l3 : Int32) (l4 : Int32) (M : Mm) : Option (Int32 × Mm) := fen gX1_follow (bX1_follow_0 l0 l1 l2 l3 l4 M)
set_option maxRecDepth 100000 in
set_option maxHeartbeats 4000000 in
theorem okX1_follow (l : Launch) (g : GX) (hJ : IJ g) {l0 : Nat} {l1 : Int32} {l2 : Int32} {l3 : Int32} {l4 : Int32} {M : Mm} (h_l0 : sh l0 = 11) : CT l g yX1_follow cX1_follow 10 (some .boolean) 2 [rf g l0, .int l1, .int l2, .int l3, .int l4] M (fX1_follow l0 l1 l2 l3 l4 M) (fun r => some (.int r)) := by
  refine ct_I rfl hJ (Nat.le_of_ble_eq_true rfl) (fun x r hg hL hl X hf Hr => ?_)
  subst hg
  have Hr2 : RTI x cX1_follow .boolean (Sum.elim (pX1_follow x) (fun q => q = r)) Sum.inr := fun v M h => Hr v M h
  have HP : ∀ q, fnl gX1_follow q = some r → pX1_follow x q := by
    intro q hq
    refine fnl_ind (pX1_follow x) (fun q hq => ?_) hq
    obtain ⟨n, l0, l2, l3, l4, l5, l6, l7, M⟩ := q
    match n, hq with
    | 1, hq => exact fun h_l0 ls H locs hl hP hS => sX1_follow_25 X hL Hr2 (fun _ h => h) h_l0 hq ls H locs hl hP hS
    | 0, hq => exact trivial
    | n + 2, hq => exact trivial
  exact fun _ ls H locs hl hP hS => sX1_follow_0 X hL Hr2 (fun _ h => h) h_l0 (fen_w hf HP) ls H locs hl hP hS
/-! CrumbWood$Wood.isOf(II)Z -/
set_option maxRecDepth 100000 in
noncomputable def fX4_isOf (l0 : Nat) (l1 : Int32) (l2 : Int32) (M : Mm) : Option (Int32 × Mm) := gfR M 0 l0 4 fun v1 => ldI M v1 l2 fun v2 => if ((v2 >>> (l1 &&& 31)) &&& 1) = 1 then some ((1, M)) else some ((0, M))
set_option maxRecDepth 100000 in
set_option maxHeartbeats 4000000 in
theorem sX4_isOf_0 {x : SB} {F : (Int32 × Mm) → Prop} (X : CX x cX4_isOf RX4 0) (hL : x.2.2.2.1 = 3) (Hr : RTI x cX4_isOf .boolean F (fun q => q)) {l0 : Nat} {l1 : Int32} {l2 : Int32} {M : Mm} (h_l0 : sh l0 = 14) : SIM x F (fX4_isOf l0 l1 l2 M) 0 [(0, rf x.2.1 l0), (1, .int l1), (2, .int l2)] [] M := by
  unfold fX4_isOf
  refine r_aload_n X dX4_isOf_0 rfl 0 rfl ?_
  refine r_getR X fl_X4_25 (by decide) h_l0 dX4_isOf_1 (fun v1 h_v1 => ?_)
  refine r_iload_n X dX4_isOf_4 rfl 2 rfl ?_
  refine r_iald X h_v1 dX4_isOf_5 (fun v2 => ?_)
  refine r_iload_n X dX4_isOf_6 rfl 1 rfl ?_
  refine r_ishr X dX4_isOf_7 ?_
  refine r_iconst (v := 1) X dX4_isOf_8 (by decide) ?_
  refine r_iand X dX4_isOf_9 ?_
  refine r_iconst (v := 1) X dX4_isOf_10 (by decide) ?_
  refine r_icmp_ne 18 X dX4_isOf_11 (by decide) ?_ ?_
  · refine r_iconst (v := 1) X dX4_isOf_14 (by decide) ?_
    refine r_goto 19 X dX4_isOf_15 (by decide) ?_
    exact r_iret Hr rfl dX4_isOf_19
  · refine r_iconst (v := 0) X dX4_isOf_18 (by decide) ?_
    exact r_iret Hr rfl dX4_isOf_19
set_option maxRecDepth 100000 in
set_option maxHeartbeats 4000000 in
theorem okX4_isOf (l : Launch) (g : GX) (hJ : IJ g) {l0 : Nat} {l1 : Int32} {l2 : Int32} {M : Mm} (h_l0 : sh l0 = 14) : CT l g yX4_isOf cX4_isOf 3 (some .boolean) 0 [rf g l0, .int l1, .int l2] M (fX4_isOf l0 l1 l2 M) (fun r => some (.int r)) := by
  refine ct_I rfl hJ (Nat.le_of_ble_eq_true rfl) (fun x r hg hL hl X hf Hr => ?_)
  subst hg
  exact fun _ ls H locs hl hP hS => sX4_isOf_0 X hL Hr h_l0 ⟨_, hf, rfl⟩ ls H locs hl hP hS
/-! CrumbWood$Wood.seenAt(I)I -/
set_option maxRecDepth 100000 in
noncomputable def bX4_seenAt_78 (l2 : Int32) (M : Mm) : Option (Int32 × Mm) := some ((l2, M))
set_option maxRecDepth 100000 in
set_option maxHeartbeats 4000000 in
theorem sX4_seenAt_78 {x : SB} {F : (Int32 × Mm) → Prop} (X : CX x cX4_seenAt RX4 1) (hL : x.2.2.2.1 = 3) (Hr : RTI x cX4_seenAt .int F (fun q => q)) {l2 : Int32} {M : Mm}  : SIM x F (bX4_seenAt_78 l2 M) 78 [(2, .int l2)] [] M := by
  unfold bX4_seenAt_78
  refine r_iload_n X dX4_seenAt_78 rfl 0 rfl ?_
  exact r_iret Hr rfl dX4_seenAt_79
set_option maxRecDepth 100000 in
noncomputable def bX4_seenAt_74 (l2 : Int32) (M : Mm) : Option (Int32 × Mm) := ltI (l2 ||| 4) fun v1 => bX4_seenAt_78 v1 M
set_option maxRecDepth 100000 in
set_option maxHeartbeats 4000000 in
theorem sX4_seenAt_74 {x : SB} {F : (Int32 × Mm) → Prop} (X : CX x cX4_seenAt RX4 1) (hL : x.2.2.2.1 = 3) (Hr : RTI x cX4_seenAt .int F (fun q => q)) {l2 : Int32} {M : Mm}  : SIM x F (bX4_seenAt_74 l2 M) 74 [(2, .int l2)] [] M := by
  unfold bX4_seenAt_74
  refine r_iload_n X dX4_seenAt_74 rfl 0 rfl ?_
  refine r_iconst (v := 4) X dX4_seenAt_75 (by decide) ?_
  refine r_ior X dX4_seenAt_76 ?_
  refine r_letI (fun v1 => ?_)
  refine r_istore_n [(2, .int v1)] X dX4_seenAt_77 rfl (nlt hL (by decide)) rfl ?_
  exact r_to [(2, .int v1)] [0] rfl (sX4_seenAt_78 X hL Hr)
set_option maxRecDepth 100000 in
noncomputable def bX4_seenAt_54 (l0 : Nat) (l1 : Int32) (l2 : Int32) (M : Mm) : Option (Int32 × Mm) := gfR M 5 l0 6 fun v2 => ldR M 0 v2 2 fun v3 => ldI M v3 l1 fun v4 => if 0 < v4 then bX4_seenAt_74 l2 M else cal (fX4_isOf l0 l1 4 M) fun v6 M5 => if v6 = 0 then bX4_seenAt_78 l2 M5 else bX4_seenAt_74 l2 M5
set_option maxRecDepth 100000 in
set_option maxHeartbeats 4000000 in
theorem sX4_seenAt_54 {x : SB} {F : (Int32 × Mm) → Prop} (X : CX x cX4_seenAt RX4 1) (hL : x.2.2.2.1 = 3) (Hr : RTI x cX4_seenAt .int F (fun q => q)) {l0 : Nat} {l1 : Int32} {l2 : Int32} {M : Mm} (h_l0 : sh l0 = 14) : SIM x F (bX4_seenAt_54 l0 l1 l2 M) 54 [(0, rf x.2.1 l0), (1, .int l1), (2, .int l2)] [] M := by
  unfold bX4_seenAt_54
  refine r_aload_n X dX4_seenAt_54 rfl 0 rfl ?_
  refine r_getR X fl_X4_33 (by decide) h_l0 dX4_seenAt_55 (fun v2 h_v2 => ?_)
  refine r_iconst (v := 2) X dX4_seenAt_58 (by decide) ?_
  refine r_aldA X h_v2 dX4_seenAt_59 (fun v3 h_v3 => ?_)
  refine r_iload_n X dX4_seenAt_60 rfl 1 rfl ?_
  refine r_iald X h_v3 dX4_seenAt_61 (fun v4 => ?_)
  refine r_if_gt 74 X dX4_seenAt_62 (by decide) ?_ ?_
  · exact r_to [(2, .int l2)] [2] rfl (sX4_seenAt_74 X hL Hr)
  · refine r_aload_n X dX4_seenAt_65 rfl 0 rfl ?_
    refine r_iload_n X dX4_seenAt_66 rfl 1 rfl ?_
    refine r_iconst (v := 4) X dX4_seenAt_67 (by decide) ?_
    refine r_callVI [.int l1, .int 4] X mt_X4_61 (by decide) h_l0 (by decide) (okX4_isOf _ _ X.J h_l0) rfl (Nat.le_of_ble_eq_true rfl) dX4_seenAt_68 rfl (fun v6 M5 => ?_)
    refine r_if_eq 78 X dX4_seenAt_71 (by decide) ?_ ?_
    · exact r_to [(2, .int l2)] [2] rfl (sX4_seenAt_78 X hL Hr)
    · exact r_to [(2, .int l2)] [2] rfl (sX4_seenAt_74 X hL Hr)
set_option maxRecDepth 100000 in
noncomputable def bX4_seenAt_27 (l0 : Nat) (l1 : Int32) (s0 : Int32) (M : Mm) : Option (Int32 × Mm) := cal (fX4_isOf l0 l1 2 M) fun v8 M7 => if v8 = 0 then gfR M7 5 l0 6 fun v9 => ldR M7 0 v9 0 fun v10 => ldI M7 v10 l1 fun v11 => if v11 ≤ 0 then bX4_seenAt_54 l0 l1 s0 M7 else ltI (s0 ||| 1) fun v12 => bX4_seenAt_54 l0 l1 v12 M7 else some ((s0, M7))
set_option maxRecDepth 100000 in
set_option maxHeartbeats 4000000 in
theorem sX4_seenAt_27 {x : SB} {F : (Int32 × Mm) → Prop} (X : CX x cX4_seenAt RX4 1) (hL : x.2.2.2.1 = 3) (Hr : RTI x cX4_seenAt .int F (fun q => q)) {l0 : Nat} {l1 : Int32} {s0 : Int32} {M : Mm} (h_l0 : sh l0 = 14) : SIM x F (bX4_seenAt_27 l0 l1 s0 M) 27 [(0, rf x.2.1 l0), (1, .int l1)] [.int s0] M := by
  unfold bX4_seenAt_27
  refine r_istore_n [(2, .int s0), (0, rf x.2.1 l0), (1, .int l1)] X dX4_seenAt_27 rfl (nlt hL (by decide)) rfl ?_
  refine r_aload_n X dX4_seenAt_28 rfl 1 rfl ?_
  refine r_iload_n X dX4_seenAt_29 rfl 2 rfl ?_
  refine r_iconst (v := 2) X dX4_seenAt_30 (by decide) ?_
  refine r_callVI [.int l1, .int 2] X mt_X4_61 (by decide) h_l0 (by decide) (okX4_isOf _ _ X.J h_l0) rfl (Nat.le_of_ble_eq_true rfl) dX4_seenAt_31 rfl (fun v8 M7 => ?_)
  refine r_if_eq 39 X dX4_seenAt_34 (by decide) ?_ ?_
  · refine r_aload_n X dX4_seenAt_39 rfl 1 rfl ?_
    refine r_getR X fl_X4_33 (by decide) h_l0 dX4_seenAt_40 (fun v9 h_v9 => ?_)
    refine r_iconst (v := 0) X dX4_seenAt_43 (by decide) ?_
    refine r_aldA X h_v9 dX4_seenAt_44 (fun v10 h_v10 => ?_)
    refine r_iload_n X dX4_seenAt_45 rfl 2 rfl ?_
    refine r_iald X h_v10 dX4_seenAt_46 (fun v11 => ?_)
    refine r_if_le 54 X dX4_seenAt_47 (by decide) ?_ ?_
    · exact r_to [(0, rf x.2.1 l0), (1, .int l1), (2, .int s0)] [1, 2, 0] rfl (sX4_seenAt_54 X hL Hr h_l0)
    · refine r_iload_n X dX4_seenAt_50 rfl 0 rfl ?_
      refine r_iconst (v := 1) X dX4_seenAt_51 (by decide) ?_
      refine r_ior X dX4_seenAt_52 ?_
      refine r_letI (fun v12 => ?_)
      refine r_istore_n [(2, .int v12), (0, rf x.2.1 l0), (1, .int l1)] X dX4_seenAt_53 rfl (nlt hL (by decide)) rfl ?_
      exact r_to [(0, rf x.2.1 l0), (1, .int l1), (2, .int v12)] [1, 2, 0] rfl (sX4_seenAt_54 X hL Hr h_l0)
  · refine r_iload_n X dX4_seenAt_37 rfl 0 rfl ?_
    exact r_iret Hr rfl dX4_seenAt_38
set_option maxRecDepth 100000 in
noncomputable def fX4_seenAt (l0 : Nat) (l1 : Int32) (M : Mm) : Option (Int32 × Mm) := cal (fX4_isOf l0 l1 5 M) fun v14 M13 => if v14 = 0 then gfR M13 5 l0 6 fun v15 => ldR M13 0 v15 1 fun v16 => ldI M13 v16 l1 fun v17 => if v17 ≤ 0 then bX4_seenAt_27 l0 l1 0 M13 else bX4_seenAt_27 l0 l1 2 M13 else some ((0, M13))
set_option maxRecDepth 100000 in
set_option maxHeartbeats 4000000 in
theorem sX4_seenAt_0 {x : SB} {F : (Int32 × Mm) → Prop} (X : CX x cX4_seenAt RX4 1) (hL : x.2.2.2.1 = 3) (Hr : RTI x cX4_seenAt .int F (fun q => q)) {l0 : Nat} {l1 : Int32} {M : Mm} (h_l0 : sh l0 = 14) : SIM x F (fX4_seenAt l0 l1 M) 0 [(0, rf x.2.1 l0), (1, .int l1)] [] M := by
  unfold fX4_seenAt
  refine r_aload_n X dX4_seenAt_0 rfl 0 rfl ?_
  refine r_iload_n X dX4_seenAt_1 rfl 1 rfl ?_
  refine r_iconst (v := 5) X dX4_seenAt_2 (by decide) ?_
  refine r_callVI [.int l1, .int 5] X mt_X4_61 (by decide) h_l0 (by decide) (okX4_isOf _ _ X.J h_l0) rfl (Nat.le_of_ble_eq_true rfl) dX4_seenAt_3 rfl (fun v14 M13 => ?_)
  refine r_if_eq 11 X dX4_seenAt_6 (by decide) ?_ ?_
  · refine r_aload_n X dX4_seenAt_11 rfl 0 rfl ?_
    refine r_getR X fl_X4_33 (by decide) h_l0 dX4_seenAt_12 (fun v15 h_v15 => ?_)
    refine r_iconst (v := 1) X dX4_seenAt_15 (by decide) ?_
    refine r_aldA X h_v15 dX4_seenAt_16 (fun v16 h_v16 => ?_)
    refine r_iload_n X dX4_seenAt_17 rfl 1 rfl ?_
    refine r_iald X h_v16 dX4_seenAt_18 (fun v17 => ?_)
    refine r_if_le 26 X dX4_seenAt_19 (by decide) ?_ ?_
    · refine r_iconst (v := 0) X dX4_seenAt_26 (by decide) ?_
      exact r_to [(0, rf x.2.1 l0), (1, .int l1)] [0, 1] rfl (sX4_seenAt_27 X hL Hr h_l0)
    · refine r_iconst (v := 2) X dX4_seenAt_22 (by decide) ?_
      refine r_goto 27 X dX4_seenAt_23 (by decide) ?_
      exact r_to [(0, rf x.2.1 l0), (1, .int l1)] [0, 1] rfl (sX4_seenAt_27 X hL Hr h_l0)
  · refine r_iconst (v := 0) X dX4_seenAt_9 (by decide) ?_
    exact r_iret Hr rfl dX4_seenAt_10
set_option maxRecDepth 100000 in
set_option maxHeartbeats 4000000 in
theorem okX4_seenAt (l : Launch) (g : GX) (hJ : IJ g) {l0 : Nat} {l1 : Int32} {M : Mm} (h_l0 : sh l0 = 14) : CT l g yX4_seenAt cX4_seenAt 3 (some .int) 1 [rf g l0, .int l1] M (fX4_seenAt l0 l1 M) (fun r => some (.int r)) := by
  refine ct_I rfl hJ (Nat.le_of_ble_eq_true rfl) (fun x r hg hL hl X hf Hr => ?_)
  subst hg
  exact fun _ ls H locs hl hP hS => sX4_seenAt_0 X hL Hr h_l0 ⟨_, hf, rfl⟩ ls H locs hl hP hS
/-! CrumbWood$Sight.look(LCrumbWood$Wood;)V -/
set_option maxRecDepth 100000 in
def pX1_look (x : SB) (q : Nat × Nat × Nat × Int32 × Mm) : Prop := match q.1 with
  | 1 => sh q.2.1 = 11 → sh q.2.2.1 = 14 → ∀ (ls : Array Slot) (H : Heap) (locs : List Loc), lv_has ls x.2.2.2.1 [(0, rf x.2.1 q.2.1), (1, rf x.2.1 q.2.2.1), (2, .int q.2.2.2.1)] → PW x.2.1 (q.2.2.2.2) H → SH x H locs → SW x H locs 53 ls []
  | _ => True
set_option maxRecDepth 100000 in
noncomputable def bX1_look_53 (l0 : Nat) (l1 : Nat) (l2 : Int32) (M : Mm) : Option ((Nat × Nat × Nat × Int32 × Mm) ⊕ Unit × Mm) := gfI M l0 1 fun v1 => if v1 ≤ l2 then some (.inr ((), M)) else cal (fX4_seenAt l1 l2 M) fun v3 M2 => gfI M2 l0 4 fun v4 => pfI M2 l0 4 (v4 ||| ((v3 &&& 1) <<< (l2 &&& 31))) fun M5 => gfI M5 l0 5 fun v6 => pfI M5 l0 5 (v6 ||| (((v3 >>> (1 &&& 31)) &&& 1) <<< (l2 &&& 31))) fun M7 => gfI M7 l0 6 fun v8 => pfI M7 l0 6 (v8 ||| (((v3 >>> (2 &&& 31)) &&& 1) <<< (l2 &&& 31))) fun M9 => some (.inl (1, l0, l1, (l2 + 1), M9))
set_option maxRecDepth 100000 in
set_option maxHeartbeats 4000000 in
theorem sX1_look_53 {x : SB} {F : ((Nat × Nat × Nat × Int32 × Mm) ⊕ Unit × Mm) → Prop} (X : CX x cX1_look RX1 2) (hL : x.2.2.2.1 = 4) (Hr : RTV x cX1_look F Sum.inr) (HH : ∀ q, F (.inl q) → pX1_look x q) {l0 : Nat} {l1 : Nat} {l2 : Int32} {M : Mm} (h_l0 : sh l0 = 11) (h_l1 : sh l1 = 14) : SIM x F (bX1_look_53 l0 l1 l2 M) 53 [(0, rf x.2.1 l0), (1, rf x.2.1 l1), (2, .int l2)] [] M := by
  unfold bX1_look_53
  refine r_iload_n X dX1_look_53 rfl 2 rfl ?_
  refine r_aload_n X dX1_look_54 rfl 0 rfl ?_
  refine r_getI X fl_X1_15 (by decide) h_l0 dX1_look_55 (fun v1 => ?_)
  refine r_icmp_ge 119 X dX1_look_58 (by decide) ?_ ?_
  · exact r_vret Hr dX1_look_119
  · refine r_aload_n X dX1_look_61 rfl 1 rfl ?_
    refine r_iload_n X dX1_look_62 rfl 2 rfl ?_
    refine r_callVI [.int l2] X mt_X1_47 (by decide) h_l1 (by decide) (okX4_seenAt _ _ X.J h_l1) rfl (Nat.le_of_ble_eq_true rfl) dX1_look_63 rfl (fun v3 M2 => ?_)
    refine r_istore_n [(3, .int v3), (0, rf x.2.1 l0), (1, rf x.2.1 l1), (2, .int l2)] X dX1_look_66 rfl (nlt hL (by decide)) rfl ?_
    refine r_aload_n X dX1_look_67 rfl 1 rfl ?_
    refine r_dup X dX1_look_68 rfl ?_
    refine r_getI X fl_X1_25 (by decide) h_l0 dX1_look_69 (fun v4 => ?_)
    refine r_iload_n X dX1_look_72 rfl 0 rfl ?_
    refine r_iconst (v := 1) X dX1_look_73 (by decide) ?_
    refine r_iand X dX1_look_74 ?_
    refine r_iload_n X dX1_look_75 rfl 3 rfl ?_
    refine r_ishl X dX1_look_76 ?_
    refine r_ior X dX1_look_77 ?_
    refine r_putI X fl_X1_25 (by decide) h_l0 (fun _ => rfl) (fun _ => rfl) dX1_look_78 (fun M5 => ?_)
    refine r_aload_n X dX1_look_81 rfl 1 rfl ?_
    refine r_dup X dX1_look_82 rfl ?_
    refine r_getI X fl_X1_28 (by decide) h_l0 dX1_look_83 (fun v6 => ?_)
    refine r_iload_n X dX1_look_86 rfl 0 rfl ?_
    refine r_iconst (v := 1) X dX1_look_87 (by decide) ?_
    refine r_ishr X dX1_look_88 ?_
    refine r_iconst (v := 1) X dX1_look_89 (by decide) ?_
    refine r_iand X dX1_look_90 ?_
    refine r_iload_n X dX1_look_91 rfl 3 rfl ?_
    refine r_ishl X dX1_look_92 ?_
    refine r_ior X dX1_look_93 ?_
    refine r_putI X fl_X1_28 (by decide) h_l0 (fun _ => rfl) (fun _ => rfl) dX1_look_94 (fun M7 => ?_)
    refine r_aload_n X dX1_look_97 rfl 1 rfl ?_
    refine r_dup X dX1_look_98 rfl ?_
    refine r_getI X fl_X1_31 (by decide) h_l0 dX1_look_99 (fun v8 => ?_)
    refine r_iload_n X dX1_look_102 rfl 0 rfl ?_
    refine r_iconst (v := 2) X dX1_look_103 (by decide) ?_
    refine r_ishr X dX1_look_104 ?_
    refine r_iconst (v := 1) X dX1_look_105 (by decide) ?_
    refine r_iand X dX1_look_106 ?_
    refine r_iload_n X dX1_look_107 rfl 3 rfl ?_
    refine r_ishl X dX1_look_108 ?_
    refine r_ior X dX1_look_109 ?_
    refine r_putI X fl_X1_31 (by decide) h_l0 (fun _ => rfl) (fun _ => rfl) dX1_look_110 (fun M9 => ?_)
    refine r_iinc [(2, .int (l2 + 1)), (3, .int v3), (0, rf x.2.1 l0), (1, rf x.2.1 l1)] X dX1_look_113 3 rfl rfl (nlt hL (by decide)) rfl ?_
    refine r_goto 53 X dX1_look_116 (by decide) ?_
    exact r_hdr [(0, rf x.2.1 l0), (1, rf x.2.1 l1), (2, .int (l2 + 1))] [2, 3, 0] rfl (fun h => HH _ h h_l0 h_l1)
set_option maxRecDepth 100000 in
noncomputable def bX1_look_0 (l0 : Nat) (l1 : Nat) (M : Mm) : Option ((Nat × Nat × Nat × Int32 × Mm) ⊕ Unit × Mm) := gfR M 0 l1 5 fun v10 => pfR M l0 0 v10 fun M11 => gfI M11 l1 0 fun v12 => pfI M11 l0 1 v12 fun M13 => gfR M13 0 l1 4 fun v14 => ldI M13 v14 5 fun v15 => pfI M13 l0 2 v15 fun M16 => gfR M16 0 l1 4 fun v17 => ldI M16 v17 4 fun v18 => pfI M16 l0 3 v18 fun M19 => pfI M19 l0 4 0 fun M20 => pfI M20 l0 5 0 fun M21 => pfI M21 l0 6 0 fun M22 => some (.inl (1, l0, l1, 0, M22))
set_option maxRecDepth 100000 in
set_option maxHeartbeats 4000000 in
theorem sX1_look_0 {x : SB} {F : ((Nat × Nat × Nat × Int32 × Mm) ⊕ Unit × Mm) → Prop} (X : CX x cX1_look RX1 2) (hL : x.2.2.2.1 = 4) (Hr : RTV x cX1_look F Sum.inr) (HH : ∀ q, F (.inl q) → pX1_look x q) {l0 : Nat} {l1 : Nat} {M : Mm} (h_l0 : sh l0 = 11) (h_l1 : sh l1 = 14) : SIM x F (bX1_look_0 l0 l1 M) 0 [(0, rf x.2.1 l0), (1, rf x.2.1 l1)] [] M := by
  unfold bX1_look_0
  refine r_aload_n X dX1_look_0 rfl 0 rfl ?_
  refine r_aload_n X dX1_look_1 rfl 1 rfl ?_
  refine r_getR X fl_X1_40 (by decide) h_l1 dX1_look_2 (fun v10 h_v10 => ?_)
  refine r_putR X fl_X1_9 (by decide) h_l0 (fun _ => rfl) (fun _ => rfl) dX1_look_5 (fun M11 => ?_)
  refine r_aload_n X dX1_look_8 rfl 0 rfl ?_
  refine r_aload_n X dX1_look_9 rfl 1 rfl ?_
  refine r_getI X fl_X1_43 (by decide) h_l1 dX1_look_10 (fun v12 => ?_)
  refine r_putI X fl_X1_15 (by decide) h_l0 (fun _ => rfl) (fun _ => rfl) dX1_look_13 (fun M13 => ?_)
  refine r_aload_n X dX1_look_16 rfl 0 rfl ?_
  refine r_aload_n X dX1_look_17 rfl 1 rfl ?_
  refine r_getR X fl_X1_44 (by decide) h_l1 dX1_look_18 (fun v14 h_v14 => ?_)
  refine r_iconst (v := 5) X dX1_look_21 (by decide) ?_
  refine r_iald X h_v14 dX1_look_22 (fun v15 => ?_)
  refine r_putI X fl_X1_19 (by decide) h_l0 (fun _ => rfl) (fun _ => rfl) dX1_look_23 (fun M16 => ?_)
  refine r_aload_n X dX1_look_26 rfl 0 rfl ?_
  refine r_aload_n X dX1_look_27 rfl 1 rfl ?_
  refine r_getR X fl_X1_44 (by decide) h_l1 dX1_look_28 (fun v17 h_v17 => ?_)
  refine r_iconst (v := 4) X dX1_look_31 (by decide) ?_
  refine r_iald X h_v17 dX1_look_32 (fun v18 => ?_)
  refine r_putI X fl_X1_22 (by decide) h_l0 (fun _ => rfl) (fun _ => rfl) dX1_look_33 (fun M19 => ?_)
  refine r_aload_n X dX1_look_36 rfl 0 rfl ?_
  refine r_iconst (v := 0) X dX1_look_37 (by decide) ?_
  refine r_putI X fl_X1_25 (by decide) h_l0 (fun _ => rfl) (fun _ => rfl) dX1_look_38 (fun M20 => ?_)
  refine r_aload_n X dX1_look_41 rfl 0 rfl ?_
  refine r_iconst (v := 0) X dX1_look_42 (by decide) ?_
  refine r_putI X fl_X1_28 (by decide) h_l0 (fun _ => rfl) (fun _ => rfl) dX1_look_43 (fun M21 => ?_)
  refine r_aload_n X dX1_look_46 rfl 0 rfl ?_
  refine r_iconst (v := 0) X dX1_look_47 (by decide) ?_
  refine r_putI X fl_X1_31 (by decide) h_l0 (fun _ => rfl) (fun _ => rfl) dX1_look_48 (fun M22 => ?_)
  refine r_iconst (v := 0) X dX1_look_51 (by decide) ?_
  refine r_istore_n [(2, .int 0), (0, rf x.2.1 l0), (1, rf x.2.1 l1)] X dX1_look_52 rfl (nlt hL (by decide)) rfl ?_
  exact r_hdr [(0, rf x.2.1 l0), (1, rf x.2.1 l1), (2, .int 0)] [1, 2, 0] rfl (fun h => HH _ h h_l0 h_l1)
set_option maxRecDepth 100000 in
noncomputable def gX1_look (q : Nat × Nat × Nat × Int32 × Mm) : Option ((Nat × Nat × Nat × Int32 × Mm) ⊕ Unit × Mm) := match q.1 with
  | 1 => bX1_look_53 (q.2.1) (q.2.2.1) (q.2.2.2.1) (q.2.2.2.2)
  | _ => none
set_option maxRecDepth 100000 in
noncomputable def fX1_look (l0 : Nat) (l1 : Nat) (M : Mm) : Option (Unit × Mm) := fen gX1_look (bX1_look_0 l0 l1 M)
set_option maxRecDepth 100000 in
set_option maxHeartbeats 4000000 in
theorem okX1_look (l : Launch) (g : GX) (hJ : IJ g) {l0 : Nat} {l1 : Nat} {M : Mm} (h_l0 : sh l0 = 11) (h_l1 : sh l1 = 14) : CT l g yX1_look cX1_look 4 none 2 [rf g l0, rf g l1] M (fX1_look l0 l1 M) (fun _ => none) := by
  refine ct_V rfl hJ (Nat.le_of_ble_eq_true rfl) (fun x r hg hL hl X hf Hr => ?_)
  subst hg
  have Hr2 : RTV x cX1_look (Sum.elim (pX1_look x) (fun q => q = r)) Sum.inr := fun M h => Hr M h
  have HP : ∀ q, fnl gX1_look q = some r → pX1_look x q := by
    intro q hq
    refine fnl_ind (pX1_look x) (fun q hq => ?_) hq
    obtain ⟨n, l0, l1, l2, M⟩ := q
    match n, hq with
    | 1, hq => exact fun h_l0 h_l1 ls H locs hl hP hS => sX1_look_53 X hL Hr2 (fun _ h => h) h_l0 h_l1 hq ls H locs hl hP hS
    | 0, hq => exact trivial
    | n + 2, hq => exact trivial
  exact fun _ ls H locs hl hP hS => sX1_look_0 X hL Hr2 (fun _ h => h) h_l0 h_l1 (fen_w hf HP) ls H locs hl hP hS
/-! CrumbWood$Wood.standing()I -/
set_option maxRecDepth 100000 in
noncomputable def fX4_standing (l0 : Nat) (M : Mm) : Option (Int32 × Mm) := gfR M 0 l0 10 fun v1 => gfI M l0 2 fun v2 => ldI M v1 v2 fun v3 => some ((v3, M))
set_option maxRecDepth 100000 in
set_option maxHeartbeats 4000000 in
theorem sX4_standing_0 {x : SB} {F : (Int32 × Mm) → Prop} (X : CX x cX4_standing RX4 0) (hL : x.2.2.2.1 = 1) (Hr : RTI x cX4_standing .int F (fun q => q)) {l0 : Nat} {M : Mm} (h_l0 : sh l0 = 14) : SIM x F (fX4_standing l0 M) 0 [(0, rf x.2.1 l0)] [] M := by
  unfold fX4_standing
  refine r_aload_n X dX4_standing_0 rfl 0 rfl ?_
  refine r_getR X fl_X4_45 (by decide) h_l0 dX4_standing_1 (fun v1 h_v1 => ?_)
  refine r_aload_n X dX4_standing_4 rfl 0 rfl ?_
  refine r_getI X fl_X4_18 (by decide) h_l0 dX4_standing_5 (fun v2 => ?_)
  refine r_iald X h_v1 dX4_standing_8 (fun v3 => ?_)
  exact r_iret Hr rfl dX4_standing_9
set_option maxRecDepth 100000 in
set_option maxHeartbeats 4000000 in
theorem okX4_standing (l : Launch) (g : GX) (hJ : IJ g) {l0 : Nat} {M : Mm} (h_l0 : sh l0 = 14) : CT l g yX4_standing cX4_standing 1 (some .int) 0 [rf g l0] M (fX4_standing l0 M) (fun r => some (.int r)) := by
  refine ct_I rfl hJ (Nat.le_of_ble_eq_true rfl) (fun x r hg hL hl X hf Hr => ?_)
  subst hg
  exact fun _ ls H locs hl hP hS => sX4_standing_0 X hL Hr h_l0 ⟨_, hf, rfl⟩ ls H locs hl hP hS
/-! CrumbWood$Sight.findsHome(LCrumbWood$Wood;)Z -/
set_option maxRecDepth 100000 in
noncomputable def fX1_findsHome (l0 : Nat) (l1 : Nat) (M : Mm) : Option (Int32 × Mm) := cal (fX1_look l0 l1 M) fun _ M1 => cal (fX4_standing l1 M1) fun v3 M2 => gfI M2 l0 5 fun v4 => gfI M2 l0 6 fun v5 => gfI M2 l0 4 fun v6 => cal (fX1_follow l0 v3 v4 v5 v6 M2) fun v8 M7 => rz v8 (some ((v8, M7)))
set_option maxRecDepth 100000 in
set_option maxHeartbeats 4000000 in
theorem sX1_findsHome_0 {x : SB} {F : (Int32 × Mm) → Prop} (X : CX x cX1_findsHome RX1 3) (hL : x.2.2.2.1 = 2) (Hr : RTI x cX1_findsHome .boolean F (fun q => q)) {l0 : Nat} {l1 : Nat} {M : Mm} (h_l0 : sh l0 = 11) (h_l1 : sh l1 = 14) : SIM x F (fX1_findsHome l0 l1 M) 0 [(0, rf x.2.1 l0), (1, rf x.2.1 l1)] [] M := by
  unfold fX1_findsHome
  refine r_aload_n X dX1_findsHome_0 rfl 0 rfl ?_
  refine r_aload_n X dX1_findsHome_1 rfl 1 rfl ?_
  refine r_callVV [rf x.2.1 l1] X mt_X1_51 (by decide) h_l0 (by decide) (okX1_look _ _ X.J h_l0 h_l1) rfl (Nat.le_of_ble_eq_true rfl) dX1_findsHome_2 rfl (fun _ M1 => ?_)
  refine r_aload_n X dX1_findsHome_5 rfl 0 rfl ?_
  refine r_aload_n X dX1_findsHome_6 rfl 1 rfl ?_
  refine r_callVI [] X mt_X1_55 (by decide) h_l1 (by decide) (okX4_standing _ _ X.J h_l1) rfl (Nat.le_of_ble_eq_true rfl) dX1_findsHome_7 rfl (fun v3 M2 => ?_)
  refine r_aload_n X dX1_findsHome_10 rfl 0 rfl ?_
  refine r_getI X fl_X1_28 (by decide) h_l0 dX1_findsHome_11 (fun v4 => ?_)
  refine r_aload_n X dX1_findsHome_14 rfl 0 rfl ?_
  refine r_getI X fl_X1_31 (by decide) h_l0 dX1_findsHome_15 (fun v5 => ?_)
  refine r_aload_n X dX1_findsHome_18 rfl 0 rfl ?_
  refine r_getI X fl_X1_25 (by decide) h_l0 dX1_findsHome_19 (fun v6 => ?_)
  refine r_callVI [.int v3, .int v4, .int v5, .int v6] X mt_X1_59 (by decide) h_l0 (by decide) (okX1_follow _ _ X.J h_l0) rfl (Nat.le_of_ble_eq_true rfl) dX1_findsHome_22 rfl (fun v8 M7 => ?_)
  exact r_zret Hr dX1_findsHome_25
set_option maxRecDepth 100000 in
set_option maxHeartbeats 4000000 in
theorem okX1_findsHome (l : Launch) (g : GX) (hJ : IJ g) {l0 : Nat} {l1 : Nat} {M : Mm} (h_l0 : sh l0 = 11) (h_l1 : sh l1 = 14) : CT l g yX1_findsHome cX1_findsHome 2 (some .boolean) 3 [rf g l0, rf g l1] M (fX1_findsHome l0 l1 M) (fun r => some (.int r)) := by
  refine ct_I rfl hJ (Nat.le_of_ble_eq_true rfl) (fun x r hg hL hl X hf Hr => ?_)
  subst hg
  exact fun _ ls H locs hl hP hS => sX1_findsHome_0 X hL Hr h_l0 h_l1 ⟨_, hf, rfl⟩ ls H locs hl hP hS
/-! CrumbWood$Sight.stonesWith(I)I -/
set_option maxRecDepth 100000 in
noncomputable def fX1_stonesWith (l0 : Nat) (l1 : Int32) (M : Mm) : Option (Int32 × Mm) := gfI M l0 5 fun v1 => gfI M l0 2 fun v2 => some (((v1 ||| (l1 &&& (v2 ^^^ (-1)))), M))
set_option maxRecDepth 100000 in
set_option maxHeartbeats 4000000 in
theorem sX1_stonesWith_0 {x : SB} {F : (Int32 × Mm) → Prop} (X : CX x cX1_stonesWith RX1 0) (hL : x.2.2.2.1 = 2) (Hr : RTI x cX1_stonesWith .int F (fun q => q)) {l0 : Nat} {l1 : Int32} {M : Mm} (h_l0 : sh l0 = 11) : SIM x F (fX1_stonesWith l0 l1 M) 0 [(0, rf x.2.1 l0), (1, .int l1)] [] M := by
  unfold fX1_stonesWith
  refine r_aload_n X dX1_stonesWith_0 rfl 0 rfl ?_
  refine r_getI X fl_X1_28 (by decide) h_l0 dX1_stonesWith_1 (fun v1 => ?_)
  refine r_iload_n X dX1_stonesWith_4 rfl 1 rfl ?_
  refine r_aload_n X dX1_stonesWith_5 rfl 0 rfl ?_
  refine r_getI X fl_X1_19 (by decide) h_l0 dX1_stonesWith_6 (fun v2 => ?_)
  refine r_iconst (v := (-1)) X dX1_stonesWith_9 (by decide) ?_
  refine r_ixor X dX1_stonesWith_10 ?_
  refine r_iand X dX1_stonesWith_11 ?_
  refine r_ior X dX1_stonesWith_12 ?_
  exact r_iret Hr rfl dX1_stonesWith_13
set_option maxRecDepth 100000 in
set_option maxHeartbeats 4000000 in
theorem okX1_stonesWith (l : Launch) (g : GX) (hJ : IJ g) {l0 : Nat} {l1 : Int32} {M : Mm} (h_l0 : sh l0 = 11) : CT l g yX1_stonesWith cX1_stonesWith 2 (some .int) 0 [rf g l0, .int l1] M (fX1_stonesWith l0 l1 M) (fun r => some (.int r)) := by
  refine ct_I rfl hJ (Nat.le_of_ble_eq_true rfl) (fun x r hg hL hl X hf Hr => ?_)
  subst hg
  exact fun _ ls H locs hl hP hS => sX1_stonesWith_0 X hL Hr h_l0 ⟨_, hf, rfl⟩ ls H locs hl hP hS
/-! CrumbWood$Sight.homeWithStone(LCrumbWood$Wood;)I -/
set_option maxRecDepth 100000 in
def pX1_homeWithStone (x : SB) (q : Nat × Nat × Nat × Int32 × Int32 × Mm) : Prop := match q.1 with
  | 1 => sh q.2.1 = 11 → sh q.2.2.1 = 14 → ∀ (ls : Array Slot) (H : Heap) (locs : List Loc), lv_has ls x.2.2.2.1 [(0, rf x.2.1 q.2.1), (1, rf x.2.1 q.2.2.1), (2, .int q.2.2.2.1), (3, .int q.2.2.2.2.1)] → PW x.2.1 (q.2.2.2.2.2) H → SH x H locs → SW x H locs 9 ls []
  | _ => True
set_option maxRecDepth 100000 in
noncomputable def bX1_homeWithStone_49 (l0 : Nat) (l1 : Nat) (l2 : Int32) (l3 : Int32) (M : Mm) : Option ((Nat × Nat × Nat × Int32 × Int32 × Mm) ⊕ Int32 × Mm) := some (.inl (1, l0, l1, l2, (l3 + 1), M))
set_option maxRecDepth 100000 in
set_option maxHeartbeats 4000000 in
theorem sX1_homeWithStone_49 {x : SB} {F : ((Nat × Nat × Nat × Int32 × Int32 × Mm) ⊕ Int32 × Mm) → Prop} (X : CX x cX1_homeWithStone RX1 3) (hL : x.2.2.2.1 = 4) (Hr : RTI x cX1_homeWithStone .int F Sum.inr) (HH : ∀ q, F (.inl q) → pX1_homeWithStone x q) {l0 : Nat} {l1 : Nat} {l2 : Int32} {l3 : Int32} {M : Mm} (h_l0 : sh l0 = 11) (h_l1 : sh l1 = 14) : SIM x F (bX1_homeWithStone_49 l0 l1 l2 l3 M) 49 [(0, rf x.2.1 l0), (1, rf x.2.1 l1), (2, .int l2), (3, .int l3)] [] M := by
  unfold bX1_homeWithStone_49
  refine r_iinc [(3, .int (l3 + 1)), (0, rf x.2.1 l0), (1, rf x.2.1 l1), (2, .int l2)] X dX1_homeWithStone_49 3 rfl rfl (nlt hL (by decide)) rfl ?_
  refine r_goto 9 X dX1_homeWithStone_52 (by decide) ?_
  exact r_hdr [(0, rf x.2.1 l0), (1, rf x.2.1 l1), (2, .int l2), (3, .int (l3 + 1))] [1, 2, 3, 0] rfl (fun h => HH _ h h_l0 h_l1)
set_option maxRecDepth 100000 in
noncomputable def bX1_homeWithStone_9 (l0 : Nat) (l1 : Nat) (l2 : Int32) (l3 : Int32) (M : Mm) : Option ((Nat × Nat × Nat × Int32 × Int32 × Mm) ⊕ Int32 × Mm) := gfI M l0 1 fun v1 => if v1 ≤ l3 then some (.inr (l2, M)) else cal (fX4_standing l1 M) fun v3 M2 => cal (fX1_stonesWith l0 ((1 : Int32) <<< (l3 &&& 31)) M2) fun v5 M4 => gfI M4 l0 6 fun v6 => gfI M4 l0 4 fun v7 => cal (fX1_follow l0 v3 v5 v6 v7 M4) fun v9 M8 => if v9 = 0 then bX1_homeWithStone_49 l0 l1 l2 l3 M8 else ltI (l2 ||| ((1 : Int32) <<< (l3 &&& 31))) fun v10 => bX1_homeWithStone_49 l0 l1 v10 l3 M8
set_option maxRecDepth 100000 in
set_option maxHeartbeats 4000000 in
theorem sX1_homeWithStone_9 {x : SB} {F : ((Nat × Nat × Nat × Int32 × Int32 × Mm) ⊕ Int32 × Mm) → Prop} (X : CX x cX1_homeWithStone RX1 3) (hL : x.2.2.2.1 = 4) (Hr : RTI x cX1_homeWithStone .int F Sum.inr) (HH : ∀ q, F (.inl q) → pX1_homeWithStone x q) {l0 : Nat} {l1 : Nat} {l2 : Int32} {l3 : Int32} {M : Mm} (h_l0 : sh l0 = 11) (h_l1 : sh l1 = 14) : SIM x F (bX1_homeWithStone_9 l0 l1 l2 l3 M) 9 [(0, rf x.2.1 l0), (1, rf x.2.1 l1), (2, .int l2), (3, .int l3)] [] M := by
  unfold bX1_homeWithStone_9
  refine r_iload_n X dX1_homeWithStone_9 rfl 3 rfl ?_
  refine r_aload_n X dX1_homeWithStone_10 rfl 0 rfl ?_
  refine r_getI X fl_X1_15 (by decide) h_l0 dX1_homeWithStone_11 (fun v1 => ?_)
  refine r_icmp_ge 55 X dX1_homeWithStone_14 (by decide) ?_ ?_
  · refine r_iload_n X dX1_homeWithStone_55 rfl 2 rfl ?_
    exact r_iret Hr rfl dX1_homeWithStone_56
  · refine r_aload_n X dX1_homeWithStone_17 rfl 0 rfl ?_
    refine r_aload_n X dX1_homeWithStone_18 rfl 1 rfl ?_
    refine r_callVI [] X mt_X1_55 (by decide) h_l1 (by decide) (okX4_standing _ _ X.J h_l1) rfl (Nat.le_of_ble_eq_true rfl) dX1_homeWithStone_19 rfl (fun v3 M2 => ?_)
    refine r_aload_n X dX1_homeWithStone_22 rfl 0 rfl ?_
    refine r_iconst (v := 1) X dX1_homeWithStone_23 (by decide) ?_
    refine r_iload_n X dX1_homeWithStone_24 rfl 3 rfl ?_
    refine r_ishl X dX1_homeWithStone_25 ?_
    refine r_callVI [.int ((1 : Int32) <<< (l3 &&& 31))] X mt_X1_66 (by decide) h_l0 (by decide) (okX1_stonesWith _ _ X.J h_l0) rfl (Nat.le_of_ble_eq_true rfl) dX1_homeWithStone_26 rfl (fun v5 M4 => ?_)
    refine r_aload_n X dX1_homeWithStone_29 rfl 0 rfl ?_
    refine r_getI X fl_X1_31 (by decide) h_l0 dX1_homeWithStone_30 (fun v6 => ?_)
    refine r_aload_n X dX1_homeWithStone_33 rfl 0 rfl ?_
    refine r_getI X fl_X1_25 (by decide) h_l0 dX1_homeWithStone_34 (fun v7 => ?_)
    refine r_callVI [.int v3, .int v5, .int v6, .int v7] X mt_X1_59 (by decide) h_l0 (by decide) (okX1_follow _ _ X.J h_l0) rfl (Nat.le_of_ble_eq_true rfl) dX1_homeWithStone_37 rfl (fun v9 M8 => ?_)
    refine r_if_eq 49 X dX1_homeWithStone_40 (by decide) ?_ ?_
    · exact r_to [(0, rf x.2.1 l0), (1, rf x.2.1 l1), (2, .int l2), (3, .int l3)] [0, 1, 2, 3] rfl (sX1_homeWithStone_49 X hL Hr HH h_l0 h_l1)
    · refine r_iload_n X dX1_homeWithStone_43 rfl 2 rfl ?_
      refine r_iconst (v := 1) X dX1_homeWithStone_44 (by decide) ?_
      refine r_iload_n X dX1_homeWithStone_45 rfl 3 rfl ?_
      refine r_ishl X dX1_homeWithStone_46 ?_
      refine r_ior X dX1_homeWithStone_47 ?_
      refine r_letI (fun v10 => ?_)
      refine r_istore_n [(2, .int v10), (0, rf x.2.1 l0), (1, rf x.2.1 l1), (3, .int l3)] X dX1_homeWithStone_48 rfl (nlt hL (by decide)) rfl ?_
      exact r_to [(0, rf x.2.1 l0), (1, rf x.2.1 l1), (2, .int v10), (3, .int l3)] [1, 2, 0, 3] rfl (sX1_homeWithStone_49 X hL Hr HH h_l0 h_l1)
set_option maxRecDepth 100000 in
noncomputable def bX1_homeWithStone_0 (l0 : Nat) (l1 : Nat) (M : Mm) : Option ((Nat × Nat × Nat × Int32 × Int32 × Mm) ⊕ Int32 × Mm) := cal (fX1_look l0 l1 M) fun _ M11 => some (.inl (1, l0, l1, 0, 0, M11))
set_option maxRecDepth 100000 in
set_option maxHeartbeats 4000000 in
theorem sX1_homeWithStone_0 {x : SB} {F : ((Nat × Nat × Nat × Int32 × Int32 × Mm) ⊕ Int32 × Mm) → Prop} (X : CX x cX1_homeWithStone RX1 3) (hL : x.2.2.2.1 = 4) (Hr : RTI x cX1_homeWithStone .int F Sum.inr) (HH : ∀ q, F (.inl q) → pX1_homeWithStone x q) {l0 : Nat} {l1 : Nat} {M : Mm} (h_l0 : sh l0 = 11) (h_l1 : sh l1 = 14) : SIM x F (bX1_homeWithStone_0 l0 l1 M) 0 [(0, rf x.2.1 l0), (1, rf x.2.1 l1)] [] M := by
  unfold bX1_homeWithStone_0
  refine r_aload_n X dX1_homeWithStone_0 rfl 0 rfl ?_
  refine r_aload_n X dX1_homeWithStone_1 rfl 1 rfl ?_
  refine r_callVV [rf x.2.1 l1] X mt_X1_51 (by decide) h_l0 (by decide) (okX1_look _ _ X.J h_l0 h_l1) rfl (Nat.le_of_ble_eq_true rfl) dX1_homeWithStone_2 rfl (fun _ M11 => ?_)
  refine r_iconst (v := 0) X dX1_homeWithStone_5 (by decide) ?_
  refine r_istore_n [(2, .int 0), (0, rf x.2.1 l0), (1, rf x.2.1 l1)] X dX1_homeWithStone_6 rfl (nlt hL (by decide)) rfl ?_
  refine r_iconst (v := 0) X dX1_homeWithStone_7 (by decide) ?_
  refine r_istore_n [(3, .int 0), (2, .int 0), (0, rf x.2.1 l0), (1, rf x.2.1 l1)] X dX1_homeWithStone_8 rfl (nlt hL (by decide)) rfl ?_
  exact r_hdr [(0, rf x.2.1 l0), (1, rf x.2.1 l1), (2, .int 0), (3, .int 0)] [2, 3, 1, 0] rfl (fun h => HH _ h h_l0 h_l1)
set_option maxRecDepth 100000 in
noncomputable def gX1_homeWithStone (q : Nat × Nat × Nat × Int32 × Int32 × Mm) : Option ((Nat × Nat × Nat × Int32 × Int32 × Mm) ⊕ Int32 × Mm) := match q.1 with
  | 1 => bX1_homeWithStone_9 (q.2.1) (q.2.2.1) (q.2.2.2.1) (q.2.2.2.2.1) (q.2.2.2.2.2)
  | _ => none
set_option maxRecDepth 100000 in
noncomputable def fX1_homeWithStone (l0 : Nat) (l1 : Nat) (M : Mm) : Option (Int32 × Mm) := fen gX1_homeWithStone (bX1_homeWithStone_0 l0 l1 M)
set_option maxRecDepth 100000 in
set_option maxHeartbeats 4000000 in
theorem okX1_homeWithStone (l : Launch) (g : GX) (hJ : IJ g) {l0 : Nat} {l1 : Nat} {M : Mm} (h_l0 : sh l0 = 11) (h_l1 : sh l1 = 14) : CT l g yX1_homeWithStone cX1_homeWithStone 4 (some .int) 3 [rf g l0, rf g l1] M (fX1_homeWithStone l0 l1 M) (fun r => some (.int r)) := by
  refine ct_I rfl hJ (Nat.le_of_ble_eq_true rfl) (fun x r hg hL hl X hf Hr => ?_)
  subst hg
  have Hr2 : RTI x cX1_homeWithStone .int (Sum.elim (pX1_homeWithStone x) (fun q => q = r)) Sum.inr := fun v M h => Hr v M h
  have HP : ∀ q, fnl gX1_homeWithStone q = some r → pX1_homeWithStone x q := by
    intro q hq
    refine fnl_ind (pX1_homeWithStone x) (fun q hq => ?_) hq
    obtain ⟨n, l0, l1, l2, l3, M⟩ := q
    match n, hq with
    | 1, hq => exact fun h_l0 h_l1 ls H locs hl hP hS => sX1_homeWithStone_9 X hL Hr2 (fun _ h => h) h_l0 h_l1 hq ls H locs hl hP hS
    | 0, hq => exact trivial
    | n + 2, hq => exact trivial
  exact fun _ ls H locs hl hP hS => sX1_homeWithStone_0 X hL Hr2 (fun _ h => h) h_l0 h_l1 (fen_w hf HP) ls H locs hl hP hS
/-! CrumbWood$Wood.all()I -/
set_option maxRecDepth 100000 in
noncomputable def fX4_all (l0 : Nat) (M : Mm) : Option (Int32 × Mm) := gfR M 0 l0 4 fun v1 => ldI M v1 0 fun v2 => some ((v2, M))
set_option maxRecDepth 100000 in
set_option maxHeartbeats 4000000 in
theorem sX4_all_0 {x : SB} {F : (Int32 × Mm) → Prop} (X : CX x cX4_all RX4 0) (hL : x.2.2.2.1 = 1) (Hr : RTI x cX4_all .int F (fun q => q)) {l0 : Nat} {M : Mm} (h_l0 : sh l0 = 14) : SIM x F (fX4_all l0 M) 0 [(0, rf x.2.1 l0)] [] M := by
  unfold fX4_all
  refine r_aload_n X dX4_all_0 rfl 0 rfl ?_
  refine r_getR X fl_X4_25 (by decide) h_l0 dX4_all_1 (fun v1 h_v1 => ?_)
  refine r_iconst (v := 0) X dX4_all_4 (by decide) ?_
  refine r_iald X h_v1 dX4_all_5 (fun v2 => ?_)
  exact r_iret Hr rfl dX4_all_6
set_option maxRecDepth 100000 in
set_option maxHeartbeats 4000000 in
theorem okX4_all (l : Launch) (g : GX) (hJ : IJ g) {l0 : Nat} {M : Mm} (h_l0 : sh l0 = 14) : CT l g yX4_all cX4_all 1 (some .int) 0 [rf g l0] M (fX4_all l0 M) (fun r => some (.int r)) := by
  refine ct_I rfl hJ (Nat.le_of_ble_eq_true rfl) (fun x r hg hL hl X hf Hr => ?_)
  subst hg
  exact fun _ ls H locs hl hP hS => sX4_all_0 X hL Hr h_l0 ⟨_, hf, rfl⟩ ls H locs hl hP hS
/-! CrumbWood$Wood.isEmpty()Z -/
set_option maxRecDepth 100000 in
noncomputable def fX4_isEmpty (l0 : Nat) (M : Mm) : Option (Int32 × Mm) := gfI M l0 0 fun v1 => if v1 = 0 then some ((1, M)) else some ((0, M))
set_option maxRecDepth 100000 in
set_option maxHeartbeats 4000000 in
theorem sX4_isEmpty_0 {x : SB} {F : (Int32 × Mm) → Prop} (X : CX x cX4_isEmpty RX4 0) (hL : x.2.2.2.1 = 1) (Hr : RTI x cX4_isEmpty .boolean F (fun q => q)) {l0 : Nat} {M : Mm} (h_l0 : sh l0 = 14) : SIM x F (fX4_isEmpty l0 M) 0 [(0, rf x.2.1 l0)] [] M := by
  unfold fX4_isEmpty
  refine r_aload_n X dX4_isEmpty_0 rfl 0 rfl ?_
  refine r_getI X fl_X4_9 (by decide) h_l0 dX4_isEmpty_1 (fun v1 => ?_)
  refine r_if_ne 11 X dX4_isEmpty_4 (by decide) ?_ ?_
  · refine r_iconst (v := 1) X dX4_isEmpty_7 (by decide) ?_
    refine r_goto 12 X dX4_isEmpty_8 (by decide) ?_
    exact r_iret Hr rfl dX4_isEmpty_12
  · refine r_iconst (v := 0) X dX4_isEmpty_11 (by decide) ?_
    exact r_iret Hr rfl dX4_isEmpty_12
set_option maxRecDepth 100000 in
set_option maxHeartbeats 4000000 in
theorem okX4_isEmpty (l : Launch) (g : GX) (hJ : IJ g) {l0 : Nat} {M : Mm} (h_l0 : sh l0 = 14) : CT l g yX4_isEmpty cX4_isEmpty 1 (some .boolean) 0 [rf g l0] M (fX4_isEmpty l0 M) (fun r => some (.int r)) := by
  refine ct_I rfl hJ (Nat.le_of_ble_eq_true rfl) (fun x r hg hL hl X hf Hr => ?_)
  subst hg
  exact fun _ ls H locs hl hP hS => sX4_isEmpty_0 X hL Hr h_l0 ⟨_, hf, rfl⟩ ls H locs hl hP hS
/-! CrumbWood.astray()I -/
set_option maxRecDepth 100000 in
noncomputable def fX5_astray (l0 : Nat) (M : Mm) : Option (Int32 × Mm) := gfR M 14 l0 2 fun v1 => cal (fX4_isEmpty v1 M) fun v3 M2 => if v3 = 0 then gfR M2 11 l0 6 fun v4 => gfR M2 14 l0 2 fun v5 => cal (fX1_findsHome v4 v5 M2) fun v7 M6 => if v7 = 0 then some ((0, M6)) else gfR M6 14 l0 2 fun v8 => cal (fX4_all v8 M6) fun v10 M9 => gfR M9 11 l0 6 fun v11 => gfR M9 14 l0 2 fun v12 => cal (fX1_homeWithStone v11 v12 M9) fun v14 M13 => some (((v10 &&& (v14 ^^^ (-1))), M13)) else some (((-4), M2))
set_option maxRecDepth 100000 in
set_option maxHeartbeats 4000000 in
theorem sX5_astray_0 {x : SB} {F : (Int32 × Mm) → Prop} (X : CX x cX5_astray RX5 4) (hL : x.2.2.2.1 = 1) (Hr : RTI x cX5_astray .int F (fun q => q)) {l0 : Nat} {M : Mm} (h_l0 : sh l0 = 15) : SIM x F (fX5_astray l0 M) 0 [(0, rf x.2.1 l0)] [] M := by
  unfold fX5_astray
  refine r_aload_n X dX5_astray_0 rfl 0 rfl ?_
  refine r_getR X fl_X5_21 (by decide) h_l0 dX5_astray_1 (fun v1 h_v1 => ?_)
  refine r_callVI [] X mt_X5_199 (by decide) h_v1 (by decide) (okX4_isEmpty _ _ X.J h_v1) rfl (Nat.le_of_ble_eq_true rfl) dX5_astray_4 rfl (fun v3 M2 => ?_)
  refine r_if_eq 13 X dX5_astray_7 (by decide) ?_ ?_
  · refine r_aload_n X dX5_astray_13 rfl 0 rfl ?_
    refine r_getR X fl_X5_42 (by decide) h_l0 dX5_astray_14 (fun v4 h_v4 => ?_)
    refine r_aload_n X dX5_astray_17 rfl 0 rfl ?_
    refine r_getR X fl_X5_21 (by decide) h_l0 dX5_astray_18 (fun v5 h_v5 => ?_)
    refine r_callVI [rf x.2.1 v5] X mt_X5_212 (by decide) h_v4 (by decide) (okX1_findsHome _ _ X.J h_v4 h_v5) rfl (Nat.le_of_ble_eq_true rfl) dX5_astray_21 rfl (fun v7 M6 => ?_)
    refine r_if_eq 51 X dX5_astray_24 (by decide) ?_ ?_
    · refine r_iconst (v := 0) X dX5_astray_51 (by decide) ?_
      exact r_iret Hr rfl dX5_astray_52
    · refine r_aload_n X dX5_astray_27 rfl 0 rfl ?_
      refine r_getR X fl_X5_21 (by decide) h_l0 dX5_astray_28 (fun v8 h_v8 => ?_)
      refine r_callVI [] X mt_X5_225 (by decide) h_v8 (by decide) (okX4_all _ _ X.J h_v8) rfl (Nat.le_of_ble_eq_true rfl) dX5_astray_31 rfl (fun v10 M9 => ?_)
      refine r_aload_n X dX5_astray_34 rfl 0 rfl ?_
      refine r_getR X fl_X5_42 (by decide) h_l0 dX5_astray_35 (fun v11 h_v11 => ?_)
      refine r_aload_n X dX5_astray_38 rfl 0 rfl ?_
      refine r_getR X fl_X5_21 (by decide) h_l0 dX5_astray_39 (fun v12 h_v12 => ?_)
      refine r_callVI [rf x.2.1 v12] X mt_X5_236 (by decide) h_v11 (by decide) (okX1_homeWithStone _ _ X.J h_v11 h_v12) rfl (Nat.le_of_ble_eq_true rfl) dX5_astray_42 rfl (fun v14 M13 => ?_)
      refine r_iconst (v := (-1)) X dX5_astray_45 (by decide) ?_
      refine r_ixor X dX5_astray_46 ?_
      refine r_iand X dX5_astray_47 ?_
      refine r_goto 52 X dX5_astray_48 (by decide) ?_
      exact r_iret Hr rfl dX5_astray_52
  · refine r_bipush (v := (-4)) X dX5_astray_10 (by decide) ?_
    exact r_iret Hr rfl dX5_astray_12
set_option maxRecDepth 100000 in
set_option maxHeartbeats 4000000 in
theorem okX5_astray (l : Launch) (g : GX) (hJ : IJ g) {l0 : Nat} {M : Mm} (h_l0 : sh l0 = 15) : CT l g yX5_astray cX5_astray 1 (some .int) 4 [rf g l0] M (fX5_astray l0 M) (fun r => some (.int r)) := by
  refine ct_I rfl hJ (Nat.le_of_ble_eq_true rfl) (fun x r hg hL hl X hf Hr => ?_)
  subst hg
  exact fun _ ls H locs hl hP hS => sX5_astray_0 X hL Hr h_l0 ⟨_, hf, rfl⟩ ls H locs hl hP hS
/-! CrumbWood.isBelow(II)Z -/
set_option maxRecDepth 100000 in
noncomputable def bX5_isBelow_13  (M : Mm) : Option (Int32 × Mm) := some ((0, M))
set_option maxRecDepth 100000 in
set_option maxHeartbeats 4000000 in
theorem sX5_isBelow_13 {x : SB} {F : (Int32 × Mm) → Prop} (X : CX x cX5_isBelow RX5 0) (hL : x.2.2.2.1 = 2) (Hr : RTI x cX5_isBelow .boolean F (fun q => q))  {M : Mm}  : SIM x F (bX5_isBelow_13  M) 13 [] [] M := by
  unfold bX5_isBelow_13
  refine r_iconst (v := 0) X dX5_isBelow_13 (by decide) ?_
  exact r_iret Hr rfl dX5_isBelow_14
set_option maxRecDepth 100000 in
noncomputable def fX5_isBelow (l0 : Int32) (l1 : Int32) (M : Mm) : Option (Int32 × Mm) := if l0 < 0 then bX5_isBelow_13 M else if l1 ≤ l0 then bX5_isBelow_13 M else some ((1, M))
set_option maxRecDepth 100000 in
set_option maxHeartbeats 4000000 in
theorem sX5_isBelow_0 {x : SB} {F : (Int32 × Mm) → Prop} (X : CX x cX5_isBelow RX5 0) (hL : x.2.2.2.1 = 2) (Hr : RTI x cX5_isBelow .boolean F (fun q => q)) {l0 : Int32} {l1 : Int32} {M : Mm}  : SIM x F (fX5_isBelow l0 l1 M) 0 [(0, .int l0), (1, .int l1)] [] M := by
  unfold fX5_isBelow
  refine r_iload_n X dX5_isBelow_0 rfl 0 rfl ?_
  refine r_if_lt 13 X dX5_isBelow_1 (by decide) ?_ ?_
  · exact r_to [] [] rfl (sX5_isBelow_13 X hL Hr)
  · refine r_iload_n X dX5_isBelow_4 rfl 0 rfl ?_
    refine r_iload_n X dX5_isBelow_5 rfl 1 rfl ?_
    refine r_icmp_ge 13 X dX5_isBelow_6 (by decide) ?_ ?_
    · exact r_to [] [] rfl (sX5_isBelow_13 X hL Hr)
    · refine r_iconst (v := 1) X dX5_isBelow_9 (by decide) ?_
      refine r_goto 14 X dX5_isBelow_10 (by decide) ?_
      exact r_iret Hr rfl dX5_isBelow_14
set_option maxRecDepth 100000 in
set_option maxHeartbeats 4000000 in
theorem okX5_isBelow (l : Launch) (g : GX) (hJ : IJ g) {l0 : Int32} {l1 : Int32} {M : Mm}  : CT l g yX5_isBelow cX5_isBelow 2 (some .boolean) 0 [.int l0, .int l1] M (fX5_isBelow l0 l1 M) (fun r => some (.int r)) := by
  refine ct_I rfl hJ (Nat.le_of_ble_eq_true rfl) (fun x r hg hL hl X hf Hr => ?_)
  subst hg
  exact fun _ ls H locs hl hP hS => sX5_isBelow_0 X hL Hr ⟨_, hf, rfl⟩ ls H locs hl hP hS
/-! CrumbWood.refuse(I)I -/
set_option maxRecDepth 100000 in
noncomputable def fX5_refuse (l0 : Nat) (l1 : Int32) (M : Mm) : Option (Int32 × Mm) := pfI M l0 9 l1 fun M1 => gfR M1 0 l0 8 fun v2 => ldI M1 v2 l1 fun v3 => stI M1 v2 l1 (v3 + 1) fun M4 => some (((-3), M4))
set_option maxRecDepth 100000 in
set_option maxHeartbeats 4000000 in
theorem sX5_refuse_0 {x : SB} {F : (Int32 × Mm) → Prop} (X : CX x cX5_refuse RX5 0) (hL : x.2.2.2.1 = 2) (Hr : RTI x cX5_refuse .int F (fun q => q)) {l0 : Nat} {l1 : Int32} {M : Mm} (h_l0 : sh l0 = 15) : SIM x F (fX5_refuse l0 l1 M) 0 [(0, rf x.2.1 l0), (1, .int l1)] [] M := by
  unfold fX5_refuse
  refine r_aload_n X dX5_refuse_0 rfl 0 rfl ?_
  refine r_iload_n X dX5_refuse_1 rfl 1 rfl ?_
  refine r_putI X fl_X5_57 (by decide) h_l0 (fun _ => rfl) (fun _ => rfl) dX5_refuse_2 (fun M1 => ?_)
  refine r_aload_n X dX5_refuse_5 rfl 0 rfl ?_
  refine r_getR X fl_X5_53 (by decide) h_l0 dX5_refuse_6 (fun v2 h_v2 => ?_)
  refine r_iload_n X dX5_refuse_9 rfl 1 rfl ?_
  refine r_dup2 X dX5_refuse_10 rfl rfl ?_
  refine r_iald X h_v2 dX5_refuse_11 (fun v3 => ?_)
  refine r_iconst (v := 1) X dX5_refuse_12 (by decide) ?_
  refine r_iadd X dX5_refuse_13 ?_
  refine r_iast X h_v2 dX5_refuse_14 (fun M4 => ?_)
  refine r_bipush (v := (-3)) X dX5_refuse_15 (by decide) ?_
  exact r_iret Hr rfl dX5_refuse_17
set_option maxRecDepth 100000 in
set_option maxHeartbeats 4000000 in
theorem okX5_refuse (l : Launch) (g : GX) (hJ : IJ g) {l0 : Nat} {l1 : Int32} {M : Mm} (h_l0 : sh l0 = 15) : CT l g yX5_refuse cX5_refuse 2 (some .int) 0 [rf g l0, .int l1] M (fX5_refuse l0 l1 M) (fun r => some (.int r)) := by
  refine ct_I rfl hJ (Nat.le_of_ble_eq_true rfl) (fun x r hg hL hl X hf Hr => ?_)
  subst hg
  exact fun _ ls H locs hl hP hS => sX5_refuse_0 X hL Hr h_l0 ⟨_, hf, rfl⟩ ls H locs hl hP hS
/-! CrumbWood$Strip.isMissing()Z -/
set_option maxRecDepth 100000 in
noncomputable def fX2_isMissing (l0 : Nat) (M : Mm) : Option (Int32 × Mm) := gfI M l0 1 fun v1 => if 0 ≤ v1 then some ((0, M)) else some ((1, M))
set_option maxRecDepth 100000 in
set_option maxHeartbeats 4000000 in
theorem sX2_isMissing_0 {x : SB} {F : (Int32 × Mm) → Prop} (X : CX x cX2_isMissing RX2 0) (hL : x.2.2.2.1 = 1) (Hr : RTI x cX2_isMissing .boolean F (fun q => q)) {l0 : Nat} {M : Mm} (h_l0 : sh l0 = 12) : SIM x F (fX2_isMissing l0 M) 0 [(0, rf x.2.1 l0)] [] M := by
  unfold fX2_isMissing
  refine r_aload_n X dX2_isMissing_0 rfl 0 rfl ?_
  refine r_getI X fl_X2_9 (by decide) h_l0 dX2_isMissing_1 (fun v1 => ?_)
  refine r_if_ge 11 X dX2_isMissing_4 (by decide) ?_ ?_
  · refine r_iconst (v := 0) X dX2_isMissing_11 (by decide) ?_
    exact r_iret Hr rfl dX2_isMissing_12
  · refine r_iconst (v := 1) X dX2_isMissing_7 (by decide) ?_
    refine r_goto 12 X dX2_isMissing_8 (by decide) ?_
    exact r_iret Hr rfl dX2_isMissing_12
set_option maxRecDepth 100000 in
set_option maxHeartbeats 4000000 in
theorem okX2_isMissing (l : Launch) (g : GX) (hJ : IJ g) {l0 : Nat} {M : Mm} (h_l0 : sh l0 = 12) : CT l g yX2_isMissing cX2_isMissing 1 (some .boolean) 0 [rf g l0] M (fX2_isMissing l0 M) (fun r => some (.int r)) := by
  refine ct_I rfl hJ (Nat.le_of_ble_eq_true rfl) (fun x r hg hL hl X hf Hr => ?_)
  subst hg
  exact fun _ ls H locs hl hP hS => sX2_isMissing_0 X hL Hr h_l0 ⟨_, hf, rfl⟩ ls H locs hl hP hS
/-! CrumbWood$Strip.lackOf(I)I -/
set_option maxRecDepth 100000 in
noncomputable def fX2_lackOf (l0 : Nat) (l1 : Int32) (M : Mm) : Option (Int32 × Mm) := cal (fX2_isMissing l0 M) fun v2 M1 => if v2 = 0 then gfI M1 l0 1 fun v3 => cal (fX5_isBelow l1 v3 M1) fun v5 M4 => if v5 = 0 then some ((2, M4)) else some ((0, M4)) else some ((1, M1))
set_option maxRecDepth 100000 in
set_option maxHeartbeats 4000000 in
theorem sX2_lackOf_0 {x : SB} {F : (Int32 × Mm) → Prop} (X : CX x cX2_lackOf RX2 1) (hL : x.2.2.2.1 = 2) (Hr : RTI x cX2_lackOf .int F (fun q => q)) {l0 : Nat} {l1 : Int32} {M : Mm} (h_l0 : sh l0 = 12) : SIM x F (fX2_lackOf l0 l1 M) 0 [(0, rf x.2.1 l0), (1, .int l1)] [] M := by
  unfold fX2_lackOf
  refine r_aload_n X dX2_lackOf_0 rfl 0 rfl ?_
  refine r_callVI [] X mt_X2_25 (by decide) h_l0 (by decide) (okX2_isMissing _ _ X.J h_l0) rfl (Nat.le_of_ble_eq_true rfl) dX2_lackOf_1 rfl (fun v2 M1 => ?_)
  refine r_if_eq 9 X dX2_lackOf_4 (by decide) ?_ ?_
  · refine r_iload_n X dX2_lackOf_9 rfl 1 rfl ?_
    refine r_aload_n X dX2_lackOf_10 rfl 0 rfl ?_
    refine r_getI X fl_X2_9 (by decide) h_l0 dX2_lackOf_11 (fun v3 => ?_)
    refine r_callSI [.int l1, .int v3] X mt_X2_29 (by decide) (okX5_isBelow _ _ X.J) rfl (Nat.le_of_ble_eq_true rfl) dX2_lackOf_14 rfl (fun v5 M4 => ?_)
    refine r_if_eq 24 X dX2_lackOf_17 (by decide) ?_ ?_
    · refine r_iconst (v := 2) X dX2_lackOf_24 (by decide) ?_
      exact r_iret Hr rfl dX2_lackOf_25
    · refine r_iconst (v := 0) X dX2_lackOf_20 (by decide) ?_
      refine r_goto 25 X dX2_lackOf_21 (by decide) ?_
      exact r_iret Hr rfl dX2_lackOf_25
  · refine r_iconst (v := 1) X dX2_lackOf_7 (by decide) ?_
    exact r_iret Hr rfl dX2_lackOf_8
set_option maxRecDepth 100000 in
set_option maxHeartbeats 4000000 in
theorem okX2_lackOf (l : Launch) (g : GX) (hJ : IJ g) {l0 : Nat} {l1 : Int32} {M : Mm} (h_l0 : sh l0 = 12) : CT l g yX2_lackOf cX2_lackOf 2 (some .int) 1 [rf g l0, .int l1] M (fX2_lackOf l0 l1 M) (fun r => some (.int r)) := by
  refine ct_I rfl hJ (Nat.le_of_ble_eq_true rfl) (fun x r hg hL hl X hf Hr => ?_)
  subst hg
  exact fun _ ls H locs hl hP hS => sX2_lackOf_0 X hL Hr h_l0 ⟨_, hf, rfl⟩ ls H locs hl hP hS
/-! CrumbWood.at(II)I -/
set_option maxRecDepth 100000 in
noncomputable def fX5_at (l0 : Nat) (l1 : Int32) (l2 : Int32) (M : Mm) : Option (Int32 × Mm) := cal (fX5_isBelow l1 6 M) fun v2 M1 => if v2 = 0 then some (((-1), M1)) else gfR M1 3 l0 0 fun v3 => ldR M1 12 v3 l1 fun v4 => cal (fX2_lackOf v4 l2 M1) fun v6 M5 => if v6 = 0 then gfR M5 3 l0 0 fun v7 => ldR M5 12 v7 l1 fun v8 => gfR M5 0 v8 0 fun v9 => ldI M5 v9 l2 fun v10 => pfI M5 l0 10 v10 fun M11 => some ((1, M11)) else cal (fX5_refuse l0 v6 M5) fun v13 M12 => some ((v13, M12))
set_option maxRecDepth 100000 in
set_option maxHeartbeats 4000000 in
theorem sX5_at_0 {x : SB} {F : (Int32 × Mm) → Prop} (X : CX x cX5_at RX5 2) (hL : x.2.2.2.1 = 4) (Hr : RTI x cX5_at .int F (fun q => q)) {l0 : Nat} {l1 : Int32} {l2 : Int32} {M : Mm} (h_l0 : sh l0 = 15) : SIM x F (fX5_at l0 l1 l2 M) 0 [(0, rf x.2.1 l0), (1, .int l1), (2, .int l2)] [] M := by
  unfold fX5_at
  refine r_iload_n X dX5_at_0 rfl 1 rfl ?_
  refine r_bipush (v := 6) X dX5_at_1 (by decide) ?_
  refine r_callSI [.int l1, .int 6] X mt_X5_74 (by decide) (okX5_isBelow _ _ X.J) rfl (Nat.le_of_ble_eq_true rfl) dX5_at_3 rfl (fun v2 M1 => ?_)
  refine r_if_ne 11 X dX5_at_6 (by decide) ?_ ?_
  · refine r_iconst (v := (-1)) X dX5_at_9 (by decide) ?_
    exact r_iret Hr rfl dX5_at_10
  · refine r_aload_n X dX5_at_11 rfl 0 rfl ?_
    refine r_getR X fl_X5_11 (by decide) h_l0 dX5_at_12 (fun v3 h_v3 => ?_)
    refine r_iload_n X dX5_at_15 rfl 1 rfl ?_
    refine r_aldS X h_v3 dX5_at_16 (fun v4 h_v4 => ?_)
    refine r_iload_n X dX5_at_17 rfl 2 rfl ?_
    refine r_callVI [.int l2] X mt_X5_86 (by decide) h_v4 (by decide) (okX2_lackOf _ _ X.J h_v4) rfl (Nat.le_of_ble_eq_true rfl) dX5_at_18 rfl (fun v6 M5 => ?_)
    refine r_istore_n [(3, .int v6), (0, rf x.2.1 l0), (1, .int l1), (2, .int l2)] X dX5_at_21 rfl (nlt hL (by decide)) rfl ?_
    refine r_iload_n X dX5_at_22 rfl 0 rfl ?_
    refine r_if_eq 32 X dX5_at_23 (by decide) ?_ ?_
    · refine r_aload_n X dX5_at_32 rfl 1 rfl ?_
      refine r_aload_n X dX5_at_33 rfl 1 rfl ?_
      refine r_getR X fl_X5_11 (by decide) h_l0 dX5_at_34 (fun v7 h_v7 => ?_)
      refine r_iload_n X dX5_at_37 rfl 2 rfl ?_
      refine r_aldS X h_v7 dX5_at_38 (fun v8 h_v8 => ?_)
      refine r_getR X fl_X5_89 (by decide) h_v8 dX5_at_39 (fun v9 h_v9 => ?_)
      refine r_iload_n X dX5_at_42 rfl 3 rfl ?_
      refine r_iald X h_v9 dX5_at_43 (fun v10 => ?_)
      refine r_putI X fl_X5_61 (by decide) h_l0 (fun _ => rfl) (fun _ => rfl) dX5_at_44 (fun M11 => ?_)
      refine r_iconst (v := 1) X dX5_at_47 (by decide) ?_
      exact r_iret Hr rfl dX5_at_48
    · refine r_aload_n X dX5_at_26 rfl 1 rfl ?_
      refine r_iload_n X dX5_at_27 rfl 0 rfl ?_
      refine r_callVI [.int v6] X mt_X5_78 (by decide) h_l0 (by decide) (okX5_refuse _ _ X.J h_l0) rfl (Nat.le_of_ble_eq_true rfl) dX5_at_28 rfl (fun v13 M12 => ?_)
      exact r_iret Hr rfl dX5_at_31
set_option maxRecDepth 100000 in
set_option maxHeartbeats 4000000 in
theorem okX5_at (l : Launch) (g : GX) (hJ : IJ g) {l0 : Nat} {l1 : Int32} {l2 : Int32} {M : Mm} (h_l0 : sh l0 = 15) : CT l g yX5_at cX5_at 4 (some .int) 2 [rf g l0, .int l1, .int l2] M (fX5_at l0 l1 l2 M) (fun r => some (.int r)) := by
  refine ct_I rfl hJ (Nat.le_of_ble_eq_true rfl) (fun x r hg hL hl X hf Hr => ?_)
  subst hg
  exact fun _ ls H locs hl hP hS => sX5_at_0 X hL Hr h_l0 ⟨_, hf, rfl⟩ ls H locs hl hP hS
/-! CrumbWood$Strip.fillFrom([II)I -/
set_option maxRecDepth 100000 in
def pX2_fillFrom (x : SB) (q : Nat × Nat × Nat × Int32 × Mm) : Prop := match q.1 with
  | 1 => sh q.2.1 = 12 → sh q.2.2.1 = 0 → ∀ (ls : Array Slot) (H : Heap) (locs : List Loc), lv_has ls x.2.2.2.1 [(0, rf x.2.1 q.2.1), (1, rf x.2.1 q.2.2.1), (3, .int q.2.2.2.1)] → PW x.2.1 (q.2.2.2.2) H → SH x H locs → SW x H locs 20 ls []
  | _ => True
set_option maxRecDepth 100000 in
noncomputable def bX2_fillFrom_20 (l0 : Nat) (l1 : Nat) (l3 : Int32) (M : Mm) : Option ((Nat × Nat × Nat × Int32 × Mm) ⊕ Int32 × Mm) := gfI M l0 1 fun v1 => if v1 ≤ l3 then gfI M l0 1 fun v2 => some (.inr (v2, M)) else gfR M 0 l0 0 fun v3 => ldI M l1 l3 fun v4 => stI M v3 l3 v4 fun M5 => some (.inl (1, l0, l1, (l3 + 1), M5))
set_option maxRecDepth 100000 in
set_option maxHeartbeats 4000000 in
theorem sX2_fillFrom_20 {x : SB} {F : ((Nat × Nat × Nat × Int32 × Mm) ⊕ Int32 × Mm) → Prop} (X : CX x cX2_fillFrom RX2 1) (hL : x.2.2.2.1 = 4) (Hr : RTI x cX2_fillFrom .int F Sum.inr) (HH : ∀ q, F (.inl q) → pX2_fillFrom x q) {l0 : Nat} {l1 : Nat} {l3 : Int32} {M : Mm} (h_l0 : sh l0 = 12) (h_l1 : sh l1 = 0) : SIM x F (bX2_fillFrom_20 l0 l1 l3 M) 20 [(0, rf x.2.1 l0), (1, rf x.2.1 l1), (3, .int l3)] [] M := by
  unfold bX2_fillFrom_20
  refine r_iload_n X dX2_fillFrom_20 rfl 2 rfl ?_
  refine r_aload_n X dX2_fillFrom_21 rfl 0 rfl ?_
  refine r_getI X fl_X2_9 (by decide) h_l0 dX2_fillFrom_22 (fun v1 => ?_)
  refine r_icmp_ge 43 X dX2_fillFrom_25 (by decide) ?_ ?_
  · refine r_aload_n X dX2_fillFrom_43 rfl 0 rfl ?_
    refine r_getI X fl_X2_9 (by decide) h_l0 dX2_fillFrom_44 (fun v2 => ?_)
    exact r_iret Hr rfl dX2_fillFrom_47
  · refine r_aload_n X dX2_fillFrom_28 rfl 0 rfl ?_
    refine r_getR X fl_X2_21 (by decide) h_l0 dX2_fillFrom_29 (fun v3 h_v3 => ?_)
    refine r_iload_n X dX2_fillFrom_32 rfl 2 rfl ?_
    refine r_aload_n X dX2_fillFrom_33 rfl 1 rfl ?_
    refine r_iload_n X dX2_fillFrom_34 rfl 2 rfl ?_
    refine r_iald X h_l1 dX2_fillFrom_35 (fun v4 => ?_)
    refine r_iast X h_v3 dX2_fillFrom_36 (fun M5 => ?_)
    refine r_iinc [(3, .int (l3 + 1)), (0, rf x.2.1 l0), (1, rf x.2.1 l1)] X dX2_fillFrom_37 2 rfl rfl (nlt hL (by decide)) rfl ?_
    refine r_goto 20 X dX2_fillFrom_40 (by decide) ?_
    exact r_hdr [(0, rf x.2.1 l0), (1, rf x.2.1 l1), (3, .int (l3 + 1))] [1, 2, 0] rfl (fun h => HH _ h h_l0 h_l1)
set_option maxRecDepth 100000 in
noncomputable def bX2_fillFrom_0 (l0 : Nat) (l1 : Nat) (l2 : Int32) (M : Mm) : Option ((Nat × Nat × Nat × Int32 × Mm) ⊕ Int32 × Mm) := gfR M 0 l0 0 fun v6 => pfI M l0 1 (if (if (Int32.ofNat (ln v6)) < (Int32.ofNat (ln l1)) then (Int32.ofNat (ln v6)) else (Int32.ofNat (ln l1))) < l2 then (if (Int32.ofNat (ln v6)) < (Int32.ofNat (ln l1)) then (Int32.ofNat (ln v6)) else (Int32.ofNat (ln l1))) else l2) fun M7 => some (.inl (1, l0, l1, 0, M7))
set_option maxRecDepth 100000 in
set_option maxHeartbeats 4000000 in
theorem sX2_fillFrom_0 {x : SB} {F : ((Nat × Nat × Nat × Int32 × Mm) ⊕ Int32 × Mm) → Prop} (X : CX x cX2_fillFrom RX2 1) (hL : x.2.2.2.1 = 4) (Hr : RTI x cX2_fillFrom .int F Sum.inr) (HH : ∀ q, F (.inl q) → pX2_fillFrom x q) {l0 : Nat} {l1 : Nat} {l2 : Int32} {M : Mm} (h_l0 : sh l0 = 12) (h_l1 : sh l1 = 0) : SIM x F (bX2_fillFrom_0 l0 l1 l2 M) 0 [(0, rf x.2.1 l0), (1, rf x.2.1 l1), (2, .int l2)] [] M := by
  unfold bX2_fillFrom_0
  refine r_aload_n X dX2_fillFrom_0 rfl 0 rfl ?_
  refine r_iload_n X dX2_fillFrom_1 rfl 2 rfl ?_
  refine r_aload_n X dX2_fillFrom_2 rfl 1 rfl ?_
  refine r_alenI X h_l1 dX2_fillFrom_3 ?_
  refine r_aload_n X dX2_fillFrom_4 rfl 0 rfl ?_
  refine r_getR X fl_X2_21 (by decide) h_l0 dX2_fillFrom_5 (fun v6 h_v6 => ?_)
  refine r_alenI X h_v6 dX2_fillFrom_8 ?_
  refine r_min X k_292 k_293 k_67 k_294 (by decide) (Nat.le_of_ble_eq_true rfl) dX2_fillFrom_9 ?_
  refine r_min X k_292 k_293 k_67 k_294 (by decide) (Nat.le_of_ble_eq_true rfl) dX2_fillFrom_12 ?_
  refine r_putI X fl_X2_9 (by decide) h_l0 (fun _ => rfl) (fun _ => rfl) dX2_fillFrom_15 (fun M7 => ?_)
  refine r_iconst (v := 0) X dX2_fillFrom_18 (by decide) ?_
  refine r_istore_n [(3, .int 0), (0, rf x.2.1 l0), (1, rf x.2.1 l1), (2, .int l2)] X dX2_fillFrom_19 rfl (nlt hL (by decide)) rfl ?_
  exact r_hdr [(0, rf x.2.1 l0), (1, rf x.2.1 l1), (3, .int 0)] [1, 2, 0] rfl (fun h => HH _ h h_l0 h_l1)
set_option maxRecDepth 100000 in
noncomputable def gX2_fillFrom (q : Nat × Nat × Nat × Int32 × Mm) : Option ((Nat × Nat × Nat × Int32 × Mm) ⊕ Int32 × Mm) := match q.1 with
  | 1 => bX2_fillFrom_20 (q.2.1) (q.2.2.1) (q.2.2.2.1) (q.2.2.2.2)
  | _ => none
set_option maxRecDepth 100000 in
noncomputable def fX2_fillFrom (l0 : Nat) (l1 : Nat) (l2 : Int32) (M : Mm) : Option (Int32 × Mm) := fen gX2_fillFrom (bX2_fillFrom_0 l0 l1 l2 M)
set_option maxRecDepth 100000 in
set_option maxHeartbeats 4000000 in
theorem okX2_fillFrom (l : Launch) (g : GX) (hJ : IJ g) {l0 : Nat} {l1 : Nat} {l2 : Int32} {M : Mm} (h_l0 : sh l0 = 12) (h_l1 : sh l1 = 0) : CT l g yX2_fillFrom cX2_fillFrom 4 (some .int) 1 [rf g l0, rf g l1, .int l2] M (fX2_fillFrom l0 l1 l2 M) (fun r => some (.int r)) := by
  refine ct_I rfl hJ (Nat.le_of_ble_eq_true rfl) (fun x r hg hL hl X hf Hr => ?_)
  subst hg
  have Hr2 : RTI x cX2_fillFrom .int (Sum.elim (pX2_fillFrom x) (fun q => q = r)) Sum.inr := fun v M h => Hr v M h
  have HP : ∀ q, fnl gX2_fillFrom q = some r → pX2_fillFrom x q := by
    intro q hq
    refine fnl_ind (pX2_fillFrom x) (fun q hq => ?_) hq
    obtain ⟨n, l0, l1, l3, M⟩ := q
    match n, hq with
    | 1, hq => exact fun h_l0 h_l1 ls H locs hl hP hS => sX2_fillFrom_20 X hL Hr2 (fun _ h => h) h_l0 h_l1 hq ls H locs hl hP hS
    | 0, hq => exact trivial
    | n + 2, hq => exact trivial
  exact fun _ ls H locs hl hP hS => sX2_fillFrom_0 X hL Hr2 (fun _ h => h) h_l0 h_l1 (fen_w hf HP) ls H locs hl hP hS
/-! CrumbWood.back(I)I -/
set_option maxRecDepth 100000 in
noncomputable def fX5_back (l0 : Nat) (l1 : Int32) (M : Mm) : Option (Int32 × Mm) := cal (fX5_isBelow l1 6 M) fun v2 M1 => if v2 = 0 then some (((-1), M1)) else gfR M1 14 l0 2 fun v3 => cal (fX4_isEmpty v3 M1) fun v5 M4 => if v5 = 0 then gfR M4 11 l0 6 fun v6 => gfR M4 14 l0 2 fun v7 => cal (fX1_findsHome v6 v7 M4) fun v9 M8 => gfR M8 3 l0 0 fun v10 => ldR M8 12 v10 l1 fun v11 => gfR M8 11 l0 6 fun v12 => gfR M8 0 v12 7 fun v13 => gfR M8 11 l0 6 fun v14 => gfI M8 v14 8 fun v15 => cal (fX2_fillFrom v11 v13 (v15 + 1) M8) fun v17 M16 => some ((v17, M16)) else some (((-4), M4))
set_option maxRecDepth 100000 in
set_option maxHeartbeats 4000000 in
theorem sX5_back_0 {x : SB} {F : (Int32 × Mm) → Prop} (X : CX x cX5_back RX5 4) (hL : x.2.2.2.1 = 2) (Hr : RTI x cX5_back .int F (fun q => q)) {l0 : Nat} {l1 : Int32} {M : Mm} (h_l0 : sh l0 = 15) : SIM x F (fX5_back l0 l1 M) 0 [(0, rf x.2.1 l0), (1, .int l1)] [] M := by
  unfold fX5_back
  refine r_iload_n X dX5_back_0 rfl 1 rfl ?_
  refine r_bipush (v := 6) X dX5_back_1 (by decide) ?_
  refine r_callSI [.int l1, .int 6] X mt_X5_74 (by decide) (okX5_isBelow _ _ X.J) rfl (Nat.le_of_ble_eq_true rfl) dX5_back_3 rfl (fun v2 M1 => ?_)
  refine r_if_ne 11 X dX5_back_6 (by decide) ?_ ?_
  · refine r_iconst (v := (-1)) X dX5_back_9 (by decide) ?_
    exact r_iret Hr rfl dX5_back_10
  · refine r_aload_n X dX5_back_11 rfl 0 rfl ?_
    refine r_getR X fl_X5_21 (by decide) h_l0 dX5_back_12 (fun v3 h_v3 => ?_)
    refine r_callVI [] X mt_X5_199 (by decide) h_v3 (by decide) (okX4_isEmpty _ _ X.J h_v3) rfl (Nat.le_of_ble_eq_true rfl) dX5_back_15 rfl (fun v5 M4 => ?_)
    refine r_if_eq 24 X dX5_back_18 (by decide) ?_ ?_
    · refine r_aload_n X dX5_back_24 rfl 0 rfl ?_
      refine r_getR X fl_X5_42 (by decide) h_l0 dX5_back_25 (fun v6 h_v6 => ?_)
      refine r_aload_n X dX5_back_28 rfl 0 rfl ?_
      refine r_getR X fl_X5_21 (by decide) h_l0 dX5_back_29 (fun v7 h_v7 => ?_)
      refine r_callVI [rf x.2.1 v7] X mt_X5_212 (by decide) h_v6 (by decide) (okX1_findsHome _ _ X.J h_v6 h_v7) rfl (Nat.le_of_ble_eq_true rfl) dX5_back_32 rfl (fun v9 M8 => ?_)
      refine r_pop X dX5_back_35 rfl ?_
      refine r_aload_n X dX5_back_36 rfl 0 rfl ?_
      refine r_getR X fl_X5_11 (by decide) h_l0 dX5_back_37 (fun v10 h_v10 => ?_)
      refine r_iload_n X dX5_back_40 rfl 1 rfl ?_
      refine r_aldS X h_v10 dX5_back_41 (fun v11 h_v11 => ?_)
      refine r_aload_n X dX5_back_42 rfl 0 rfl ?_
      refine r_getR X fl_X5_42 (by decide) h_l0 dX5_back_43 (fun v12 h_v12 => ?_)
      refine r_getR X fl_X5_217 (by decide) h_v12 dX5_back_46 (fun v13 h_v13 => ?_)
      refine r_aload_n X dX5_back_49 rfl 0 rfl ?_
      refine r_getR X fl_X5_42 (by decide) h_l0 dX5_back_50 (fun v14 h_v14 => ?_)
      refine r_getI X fl_X5_216 (by decide) h_v14 dX5_back_53 (fun v15 => ?_)
      refine r_iconst (v := 1) X dX5_back_56 (by decide) ?_
      refine r_iadd X dX5_back_57 ?_
      refine r_callVI [rf x.2.1 v13, .int (v15 + 1)] X mt_X5_208 (by decide) h_v11 (by decide) (okX2_fillFrom _ _ X.J h_v11 h_v13) rfl (Nat.le_of_ble_eq_true rfl) dX5_back_58 rfl (fun v17 M16 => ?_)
      exact r_iret Hr rfl dX5_back_61
    · refine r_bipush (v := (-4)) X dX5_back_21 (by decide) ?_
      exact r_iret Hr rfl dX5_back_23
set_option maxRecDepth 100000 in
set_option maxHeartbeats 4000000 in
theorem okX5_back (l : Launch) (g : GX) (hJ : IJ g) {l0 : Nat} {l1 : Int32} {M : Mm} (h_l0 : sh l0 = 15) : CT l g yX5_back cX5_back 2 (some .int) 4 [rf g l0, .int l1] M (fX5_back l0 l1 M) (fun r => some (.int r)) := by
  refine ct_I rfl hJ (Nat.le_of_ble_eq_true rfl) (fun x r hg hL hl X hf Hr => ?_)
  subst hg
  exact fun _ ls H locs hl hP hS => sX5_back_0 X hL Hr h_l0 ⟨_, hf, rfl⟩ ls H locs hl hP hS
/-! CrumbWood$Wood.become(LCrumbWood$Wood;)V -/
set_option maxRecDepth 100000 in
def pX4_become (x : SB) (q : Nat × Nat × Nat × Int32 × Mm) : Prop := match q.1 with
  | 1 => sh q.2.1 = 14 → sh q.2.2.1 = 14 → ∀ (ls : Array Slot) (H : Heap) (locs : List Loc), lv_has ls x.2.2.2.1 [(0, rf x.2.1 q.2.1), (1, rf x.2.1 q.2.2.1), (2, .int q.2.2.2.1)] → PW x.2.1 (q.2.2.2.2) H → SH x H locs → SW x H locs 71 ls []
  | _ => True
set_option maxRecDepth 100000 in
noncomputable def bX4_become_71 (l0 : Nat) (l1 : Nat) (l2 : Int32) (M : Mm) : Option ((Nat × Nat × Nat × Int32 × Mm) ⊕ Unit × Mm) := if 3 ≤ l2 then gfR M 0 l1 7 fun v1 => gfR M 0 l0 7 fun v2 => cpA M v1 0 v2 0 8 fun M3 => gfR M3 0 l1 8 fun v4 => gfR M3 0 l0 8 fun v5 => cpA M3 v4 0 v5 0 4 fun M6 => gfR M6 0 l1 9 fun v7 => gfR M6 0 l0 9 fun v8 => cpA M6 v7 0 v8 0 3 fun M9 => gfR M9 0 l1 10 fun v10 => gfR M9 0 l0 10 fun v11 => cpA M9 v10 0 v11 0 31 fun M12 => some (.inr ((), M12)) else gfR M 5 l1 6 fun v13 => ldR M 0 v13 l2 fun v14 => gfR M 5 l0 6 fun v15 => ldR M 0 v15 l2 fun v16 => cpA M v14 0 v16 0 8 fun M17 => some (.inl (1, l0, l1, (l2 + 1), M17))
set_option maxRecDepth 100000 in
set_option maxHeartbeats 4000000 in
theorem sX4_become_71 {x : SB} {F : ((Nat × Nat × Nat × Int32 × Mm) ⊕ Unit × Mm) → Prop} (X : CX x cX4_become RX4 1) (hL : x.2.2.2.1 = 3) (Hr : RTV x cX4_become F Sum.inr) (HH : ∀ q, F (.inl q) → pX4_become x q) {l0 : Nat} {l1 : Nat} {l2 : Int32} {M : Mm} (h_l0 : sh l0 = 14) (h_l1 : sh l1 = 14) : SIM x F (bX4_become_71 l0 l1 l2 M) 71 [(0, rf x.2.1 l0), (1, rf x.2.1 l1), (2, .int l2)] [] M := by
  unfold bX4_become_71
  refine r_iload_n X dX4_become_71 rfl 2 rfl ?_
  refine r_iconst (v := 3) X dX4_become_72 (by decide) ?_
  refine r_icmp_ge 101 X dX4_become_73 (by decide) ?_ ?_
  · refine r_aload_n X dX4_become_101 rfl 1 rfl ?_
    refine r_getR X fl_X4_36 (by decide) h_l1 dX4_become_102 (fun v1 h_v1 => ?_)
    refine r_iconst (v := 0) X dX4_become_105 (by decide) ?_
    refine r_aload_n X dX4_become_106 rfl 0 rfl ?_
    refine r_getR X fl_X4_36 (by decide) h_l0 dX4_become_107 (fun v2 h_v2 => ?_)
    refine r_iconst (v := 0) X dX4_become_110 (by decide) ?_
    refine r_bipush (v := 8) X dX4_become_111 (by decide) ?_
    refine r_cpy X k_416 k_327 k_326 k_69 h_v1 h_v2 (by decide) (Nat.le_of_ble_eq_true rfl) dX4_become_113 (fun M3 => ?_)
    refine r_aload_n X dX4_become_116 rfl 1 rfl ?_
    refine r_getR X fl_X4_39 (by decide) h_l1 dX4_become_117 (fun v4 h_v4 => ?_)
    refine r_iconst (v := 0) X dX4_become_120 (by decide) ?_
    refine r_aload_n X dX4_become_121 rfl 0 rfl ?_
    refine r_getR X fl_X4_39 (by decide) h_l0 dX4_become_122 (fun v5 h_v5 => ?_)
    refine r_iconst (v := 0) X dX4_become_125 (by decide) ?_
    refine r_iconst (v := 4) X dX4_become_126 (by decide) ?_
    refine r_cpy X k_416 k_327 k_326 k_69 h_v4 h_v5 (by decide) (Nat.le_of_ble_eq_true rfl) dX4_become_127 (fun M6 => ?_)
    refine r_aload_n X dX4_become_130 rfl 1 rfl ?_
    refine r_getR X fl_X4_42 (by decide) h_l1 dX4_become_131 (fun v7 h_v7 => ?_)
    refine r_iconst (v := 0) X dX4_become_134 (by decide) ?_
    refine r_aload_n X dX4_become_135 rfl 0 rfl ?_
    refine r_getR X fl_X4_42 (by decide) h_l0 dX4_become_136 (fun v8 h_v8 => ?_)
    refine r_iconst (v := 0) X dX4_become_139 (by decide) ?_
    refine r_iconst (v := 3) X dX4_become_140 (by decide) ?_
    refine r_cpy X k_416 k_327 k_326 k_69 h_v7 h_v8 (by decide) (Nat.le_of_ble_eq_true rfl) dX4_become_141 (fun M9 => ?_)
    refine r_aload_n X dX4_become_144 rfl 1 rfl ?_
    refine r_getR X fl_X4_45 (by decide) h_l1 dX4_become_145 (fun v10 h_v10 => ?_)
    refine r_iconst (v := 0) X dX4_become_148 (by decide) ?_
    refine r_aload_n X dX4_become_149 rfl 0 rfl ?_
    refine r_getR X fl_X4_45 (by decide) h_l0 dX4_become_150 (fun v11 h_v11 => ?_)
    refine r_iconst (v := 0) X dX4_become_153 (by decide) ?_
    refine r_bipush (v := 31) X dX4_become_154 (by decide) ?_
    refine r_cpy X k_416 k_327 k_326 k_69 h_v10 h_v11 (by decide) (Nat.le_of_ble_eq_true rfl) dX4_become_156 (fun M12 => ?_)
    exact r_vret Hr dX4_become_159
  · refine r_aload_n X dX4_become_76 rfl 1 rfl ?_
    refine r_getR X fl_X4_33 (by decide) h_l1 dX4_become_77 (fun v13 h_v13 => ?_)
    refine r_iload_n X dX4_become_80 rfl 2 rfl ?_
    refine r_aldA X h_v13 dX4_become_81 (fun v14 h_v14 => ?_)
    refine r_iconst (v := 0) X dX4_become_82 (by decide) ?_
    refine r_aload_n X dX4_become_83 rfl 0 rfl ?_
    refine r_getR X fl_X4_33 (by decide) h_l0 dX4_become_84 (fun v15 h_v15 => ?_)
    refine r_iload_n X dX4_become_87 rfl 2 rfl ?_
    refine r_aldA X h_v15 dX4_become_88 (fun v16 h_v16 => ?_)
    refine r_iconst (v := 0) X dX4_become_89 (by decide) ?_
    refine r_bipush (v := 8) X dX4_become_90 (by decide) ?_
    refine r_cpy X k_416 k_327 k_326 k_69 h_v14 h_v16 (by decide) (Nat.le_of_ble_eq_true rfl) dX4_become_92 (fun M17 => ?_)
    refine r_iinc [(2, .int (l2 + 1)), (0, rf x.2.1 l0), (1, rf x.2.1 l1)] X dX4_become_95 2 rfl rfl (nlt hL (by decide)) rfl ?_
    refine r_goto 71 X dX4_become_98 (by decide) ?_
    exact r_hdr [(0, rf x.2.1 l0), (1, rf x.2.1 l1), (2, .int (l2 + 1))] [1, 2, 0] rfl (fun h => HH _ h h_l0 h_l1)
set_option maxRecDepth 100000 in
noncomputable def bX4_become_0 (l0 : Nat) (l1 : Nat) (M : Mm) : Option ((Nat × Nat × Nat × Int32 × Mm) ⊕ Unit × Mm) := gfI M l1 0 fun v18 => pfI M l0 0 v18 fun M19 => gfI M19 l1 1 fun v20 => pfI M19 l0 1 v20 fun M21 => gfI M21 l1 2 fun v22 => pfI M21 l0 2 v22 fun M23 => gfR M23 0 l1 3 fun v24 => gfR M23 0 l0 3 fun v25 => cpA M23 v24 0 v25 0 8 fun M26 => gfR M26 0 l1 4 fun v27 => gfR M26 0 l0 4 fun v28 => cpA M26 v27 0 v28 0 6 fun M29 => gfR M29 0 l1 5 fun v30 => gfR M29 0 l0 5 fun v31 => cpA M29 v30 0 v31 0 8 fun M32 => some (.inl (1, l0, l1, 0, M32))
set_option maxRecDepth 100000 in
set_option maxHeartbeats 4000000 in
theorem sX4_become_0 {x : SB} {F : ((Nat × Nat × Nat × Int32 × Mm) ⊕ Unit × Mm) → Prop} (X : CX x cX4_become RX4 1) (hL : x.2.2.2.1 = 3) (Hr : RTV x cX4_become F Sum.inr) (HH : ∀ q, F (.inl q) → pX4_become x q) {l0 : Nat} {l1 : Nat} {M : Mm} (h_l0 : sh l0 = 14) (h_l1 : sh l1 = 14) : SIM x F (bX4_become_0 l0 l1 M) 0 [(0, rf x.2.1 l0), (1, rf x.2.1 l1)] [] M := by
  unfold bX4_become_0
  refine r_aload_n X dX4_become_0 rfl 0 rfl ?_
  refine r_aload_n X dX4_become_1 rfl 1 rfl ?_
  refine r_getI X fl_X4_9 (by decide) h_l1 dX4_become_2 (fun v18 => ?_)
  refine r_putI X fl_X4_9 (by decide) h_l0 (fun _ => rfl) (fun _ => rfl) dX4_become_5 (fun M19 => ?_)
  refine r_aload_n X dX4_become_8 rfl 0 rfl ?_
  refine r_aload_n X dX4_become_9 rfl 1 rfl ?_
  refine r_getI X fl_X4_15 (by decide) h_l1 dX4_become_10 (fun v20 => ?_)
  refine r_putI X fl_X4_15 (by decide) h_l0 (fun _ => rfl) (fun _ => rfl) dX4_become_13 (fun M21 => ?_)
  refine r_aload_n X dX4_become_16 rfl 0 rfl ?_
  refine r_aload_n X dX4_become_17 rfl 1 rfl ?_
  refine r_getI X fl_X4_18 (by decide) h_l1 dX4_become_18 (fun v22 => ?_)
  refine r_putI X fl_X4_18 (by decide) h_l0 (fun _ => rfl) (fun _ => rfl) dX4_become_21 (fun M23 => ?_)
  refine r_aload_n X dX4_become_24 rfl 1 rfl ?_
  refine r_getR X fl_X4_21 (by decide) h_l1 dX4_become_25 (fun v24 h_v24 => ?_)
  refine r_iconst (v := 0) X dX4_become_28 (by decide) ?_
  refine r_aload_n X dX4_become_29 rfl 0 rfl ?_
  refine r_getR X fl_X4_21 (by decide) h_l0 dX4_become_30 (fun v25 h_v25 => ?_)
  refine r_iconst (v := 0) X dX4_become_33 (by decide) ?_
  refine r_bipush (v := 8) X dX4_become_34 (by decide) ?_
  refine r_cpy X k_416 k_327 k_326 k_69 h_v24 h_v25 (by decide) (Nat.le_of_ble_eq_true rfl) dX4_become_36 (fun M26 => ?_)
  refine r_aload_n X dX4_become_39 rfl 1 rfl ?_
  refine r_getR X fl_X4_25 (by decide) h_l1 dX4_become_40 (fun v27 h_v27 => ?_)
  refine r_iconst (v := 0) X dX4_become_43 (by decide) ?_
  refine r_aload_n X dX4_become_44 rfl 0 rfl ?_
  refine r_getR X fl_X4_25 (by decide) h_l0 dX4_become_45 (fun v28 h_v28 => ?_)
  refine r_iconst (v := 0) X dX4_become_48 (by decide) ?_
  refine r_bipush (v := 6) X dX4_become_49 (by decide) ?_
  refine r_cpy X k_416 k_327 k_326 k_69 h_v27 h_v28 (by decide) (Nat.le_of_ble_eq_true rfl) dX4_become_51 (fun M29 => ?_)
  refine r_aload_n X dX4_become_54 rfl 1 rfl ?_
  refine r_getR X fl_X4_28 (by decide) h_l1 dX4_become_55 (fun v30 h_v30 => ?_)
  refine r_iconst (v := 0) X dX4_become_58 (by decide) ?_
  refine r_aload_n X dX4_become_59 rfl 0 rfl ?_
  refine r_getR X fl_X4_28 (by decide) h_l0 dX4_become_60 (fun v31 h_v31 => ?_)
  refine r_iconst (v := 0) X dX4_become_63 (by decide) ?_
  refine r_bipush (v := 8) X dX4_become_64 (by decide) ?_
  refine r_cpy X k_416 k_327 k_326 k_69 h_v30 h_v31 (by decide) (Nat.le_of_ble_eq_true rfl) dX4_become_66 (fun M32 => ?_)
  refine r_iconst (v := 0) X dX4_become_69 (by decide) ?_
  refine r_istore_n [(2, .int 0), (0, rf x.2.1 l0), (1, rf x.2.1 l1)] X dX4_become_70 rfl (nlt hL (by decide)) rfl ?_
  exact r_hdr [(0, rf x.2.1 l0), (1, rf x.2.1 l1), (2, .int 0)] [1, 2, 0] rfl (fun h => HH _ h h_l0 h_l1)
set_option maxRecDepth 100000 in
noncomputable def gX4_become (q : Nat × Nat × Nat × Int32 × Mm) : Option ((Nat × Nat × Nat × Int32 × Mm) ⊕ Unit × Mm) := match q.1 with
  | 1 => bX4_become_71 (q.2.1) (q.2.2.1) (q.2.2.2.1) (q.2.2.2.2)
  | _ => none
set_option maxRecDepth 100000 in
noncomputable def fX4_become (l0 : Nat) (l1 : Nat) (M : Mm) : Option (Unit × Mm) := fen gX4_become (bX4_become_0 l0 l1 M)
set_option maxRecDepth 100000 in
set_option maxHeartbeats 4000000 in
theorem okX4_become (l : Launch) (g : GX) (hJ : IJ g) {l0 : Nat} {l1 : Nat} {M : Mm} (h_l0 : sh l0 = 14) (h_l1 : sh l1 = 14) : CT l g yX4_become cX4_become 3 none 1 [rf g l0, rf g l1] M (fX4_become l0 l1 M) (fun _ => none) := by
  refine ct_V rfl hJ (Nat.le_of_ble_eq_true rfl) (fun x r hg hL hl X hf Hr => ?_)
  subst hg
  have Hr2 : RTV x cX4_become (Sum.elim (pX4_become x) (fun q => q = r)) Sum.inr := fun M h => Hr M h
  have HP : ∀ q, fnl gX4_become q = some r → pX4_become x q := by
    intro q hq
    refine fnl_ind (pX4_become x) (fun q hq => ?_) hq
    obtain ⟨n, l0, l1, l2, M⟩ := q
    match n, hq with
    | 1, hq => exact fun h_l0 h_l1 ls H locs hl hP hS => sX4_become_71 X hL Hr2 (fun _ h => h) h_l0 h_l1 hq ls H locs hl hP hS
    | 0, hq => exact trivial
    | n + 2, hq => exact trivial
  exact fun _ ls H locs hl hP hS => sX4_become_0 X hL Hr2 (fun _ h => h) h_l0 h_l1 (fen_w hf HP) ls H locs hl hP hS
/-! CrumbWood$Wood.clearCrumbs(I)V -/
set_option maxRecDepth 100000 in
def pX4_clearCrumbs (x : SB) (q : Nat × Nat × Int32 × Int32 × Mm) : Prop := match q.1 with
  | 1 => sh q.2.1 = 14 → ∀ (ls : Array Slot) (H : Heap) (locs : List Loc), lv_has ls x.2.2.2.1 [(0, rf x.2.1 q.2.1), (1, .int q.2.2.1), (2, .int q.2.2.2.1)] → PW x.2.1 (q.2.2.2.2) H → SH x H locs → SW x H locs 2 ls []
  | _ => True
set_option maxRecDepth 100000 in
noncomputable def bX4_clearCrumbs_28 (l0 : Nat) (l1 : Int32) (l2 : Int32) (M : Mm) : Option ((Nat × Nat × Int32 × Int32 × Mm) ⊕ Unit × Mm) := some (.inl (1, l0, l1, (l2 + 1), M))
set_option maxRecDepth 100000 in
set_option maxHeartbeats 4000000 in
theorem sX4_clearCrumbs_28 {x : SB} {F : ((Nat × Nat × Int32 × Int32 × Mm) ⊕ Unit × Mm) → Prop} (X : CX x cX4_clearCrumbs RX4 0) (hL : x.2.2.2.1 = 3) (Hr : RTV x cX4_clearCrumbs F Sum.inr) (HH : ∀ q, F (.inl q) → pX4_clearCrumbs x q) {l0 : Nat} {l1 : Int32} {l2 : Int32} {M : Mm} (h_l0 : sh l0 = 14) : SIM x F (bX4_clearCrumbs_28 l0 l1 l2 M) 28 [(0, rf x.2.1 l0), (1, .int l1), (2, .int l2)] [] M := by
  unfold bX4_clearCrumbs_28
  refine r_iinc [(2, .int (l2 + 1)), (0, rf x.2.1 l0), (1, .int l1)] X dX4_clearCrumbs_28 2 rfl rfl (nlt hL (by decide)) rfl ?_
  refine r_goto 2 X dX4_clearCrumbs_31 (by decide) ?_
  exact r_hdr [(0, rf x.2.1 l0), (1, .int l1), (2, .int (l2 + 1))] [1, 2, 0] rfl (fun h => HH _ h h_l0)
set_option maxRecDepth 100000 in
noncomputable def bX4_clearCrumbs_2 (l0 : Nat) (l1 : Int32) (l2 : Int32) (M : Mm) : Option ((Nat × Nat × Int32 × Int32 × Mm) ⊕ Unit × Mm) := gfI M l0 0 fun v1 => if v1 ≤ l2 then some (.inr ((), M)) else if ((l1 >>> (l2 &&& 31)) &&& 1) = 1 then gfR M 5 l0 6 fun v2 => ldR M 0 v2 0 fun v3 => stI M v3 l2 0 fun M4 => bX4_clearCrumbs_28 l0 l1 l2 M4 else bX4_clearCrumbs_28 l0 l1 l2 M
set_option maxRecDepth 100000 in
set_option maxHeartbeats 4000000 in
theorem sX4_clearCrumbs_2 {x : SB} {F : ((Nat × Nat × Int32 × Int32 × Mm) ⊕ Unit × Mm) → Prop} (X : CX x cX4_clearCrumbs RX4 0) (hL : x.2.2.2.1 = 3) (Hr : RTV x cX4_clearCrumbs F Sum.inr) (HH : ∀ q, F (.inl q) → pX4_clearCrumbs x q) {l0 : Nat} {l1 : Int32} {l2 : Int32} {M : Mm} (h_l0 : sh l0 = 14) : SIM x F (bX4_clearCrumbs_2 l0 l1 l2 M) 2 [(0, rf x.2.1 l0), (1, .int l1), (2, .int l2)] [] M := by
  unfold bX4_clearCrumbs_2
  refine r_iload_n X dX4_clearCrumbs_2 rfl 2 rfl ?_
  refine r_aload_n X dX4_clearCrumbs_3 rfl 0 rfl ?_
  refine r_getI X fl_X4_9 (by decide) h_l0 dX4_clearCrumbs_4 (fun v1 => ?_)
  refine r_icmp_ge 34 X dX4_clearCrumbs_7 (by decide) ?_ ?_
  · exact r_vret Hr dX4_clearCrumbs_34
  · refine r_iload_n X dX4_clearCrumbs_10 rfl 1 rfl ?_
    refine r_iload_n X dX4_clearCrumbs_11 rfl 2 rfl ?_
    refine r_ishr X dX4_clearCrumbs_12 ?_
    refine r_iconst (v := 1) X dX4_clearCrumbs_13 (by decide) ?_
    refine r_iand X dX4_clearCrumbs_14 ?_
    refine r_iconst (v := 1) X dX4_clearCrumbs_15 (by decide) ?_
    refine r_icmp_ne 28 X dX4_clearCrumbs_16 (by decide) ?_ ?_
    · refine r_aload_n X dX4_clearCrumbs_19 rfl 0 rfl ?_
      refine r_getR X fl_X4_33 (by decide) h_l0 dX4_clearCrumbs_20 (fun v2 h_v2 => ?_)
      refine r_iconst (v := 0) X dX4_clearCrumbs_23 (by decide) ?_
      refine r_aldA X h_v2 dX4_clearCrumbs_24 (fun v3 h_v3 => ?_)
      refine r_iload_n X dX4_clearCrumbs_25 rfl 2 rfl ?_
      refine r_iconst (v := 0) X dX4_clearCrumbs_26 (by decide) ?_
      refine r_iast X h_v3 dX4_clearCrumbs_27 (fun M4 => ?_)
      exact r_to [(0, rf x.2.1 l0), (1, .int l1), (2, .int l2)] [0, 1, 2] rfl (sX4_clearCrumbs_28 X hL Hr HH h_l0)
    · exact r_to [(0, rf x.2.1 l0), (1, .int l1), (2, .int l2)] [0, 1, 2] rfl (sX4_clearCrumbs_28 X hL Hr HH h_l0)
set_option maxRecDepth 100000 in
noncomputable def bX4_clearCrumbs_0 (l0 : Nat) (l1 : Int32) (M : Mm) : Option ((Nat × Nat × Int32 × Int32 × Mm) ⊕ Unit × Mm) := some (.inl (1, l0, l1, 0, M))
set_option maxRecDepth 100000 in
set_option maxHeartbeats 4000000 in
theorem sX4_clearCrumbs_0 {x : SB} {F : ((Nat × Nat × Int32 × Int32 × Mm) ⊕ Unit × Mm) → Prop} (X : CX x cX4_clearCrumbs RX4 0) (hL : x.2.2.2.1 = 3) (Hr : RTV x cX4_clearCrumbs F Sum.inr) (HH : ∀ q, F (.inl q) → pX4_clearCrumbs x q) {l0 : Nat} {l1 : Int32} {M : Mm} (h_l0 : sh l0 = 14) : SIM x F (bX4_clearCrumbs_0 l0 l1 M) 0 [(0, rf x.2.1 l0), (1, .int l1)] [] M := by
  unfold bX4_clearCrumbs_0
  refine r_iconst (v := 0) X dX4_clearCrumbs_0 (by decide) ?_
  refine r_istore_n [(2, .int 0), (0, rf x.2.1 l0), (1, .int l1)] X dX4_clearCrumbs_1 rfl (nlt hL (by decide)) rfl ?_
  exact r_hdr [(0, rf x.2.1 l0), (1, .int l1), (2, .int 0)] [1, 2, 0] rfl (fun h => HH _ h h_l0)
set_option maxRecDepth 100000 in
noncomputable def gX4_clearCrumbs (q : Nat × Nat × Int32 × Int32 × Mm) : Option ((Nat × Nat × Int32 × Int32 × Mm) ⊕ Unit × Mm) := match q.1 with
  | 1 => bX4_clearCrumbs_2 (q.2.1) (q.2.2.1) (q.2.2.2.1) (q.2.2.2.2)
  | _ => none
set_option maxRecDepth 100000 in
noncomputable def fX4_clearCrumbs (l0 : Nat) (l1 : Int32) (M : Mm) : Option (Unit × Mm) := fen gX4_clearCrumbs (bX4_clearCrumbs_0 l0 l1 M)
set_option maxRecDepth 100000 in
set_option maxHeartbeats 4000000 in
theorem okX4_clearCrumbs (l : Launch) (g : GX) (hJ : IJ g) {l0 : Nat} {l1 : Int32} {M : Mm} (h_l0 : sh l0 = 14) : CT l g yX4_clearCrumbs cX4_clearCrumbs 3 none 0 [rf g l0, .int l1] M (fX4_clearCrumbs l0 l1 M) (fun _ => none) := by
  refine ct_V rfl hJ (Nat.le_of_ble_eq_true rfl) (fun x r hg hL hl X hf Hr => ?_)
  subst hg
  have Hr2 : RTV x cX4_clearCrumbs (Sum.elim (pX4_clearCrumbs x) (fun q => q = r)) Sum.inr := fun M h => Hr M h
  have HP : ∀ q, fnl gX4_clearCrumbs q = some r → pX4_clearCrumbs x q := by
    intro q hq
    refine fnl_ind (pX4_clearCrumbs x) (fun q hq => ?_) hq
    obtain ⟨n, l0, l1, l2, M⟩ := q
    match n, hq with
    | 1, hq => exact fun h_l0 ls H locs hl hP hS => sX4_clearCrumbs_2 X hL Hr2 (fun _ h => h) h_l0 hq ls H locs hl hP hS
    | 0, hq => exact trivial
    | n + 2, hq => exact trivial
  exact fun _ ls H locs hl hP hS => sX4_clearCrumbs_0 X hL Hr2 (fun _ h => h) h_l0 (fen_w hf HP) ls H locs hl hP hS
/-! CrumbWood$Wood.crumbsOn(I)I -/
set_option maxRecDepth 100000 in
def pX4_crumbsOn (x : SB) (q : Nat × Nat × Int32 × Int32 × Int32 × Mm) : Prop := match q.1 with
  | 1 => sh q.2.1 = 14 → ∀ (ls : Array Slot) (H : Heap) (locs : List Loc), lv_has ls x.2.2.2.1 [(0, rf x.2.1 q.2.1), (1, .int q.2.2.1), (2, .int q.2.2.2.1), (3, .int q.2.2.2.2.1)] → PW x.2.1 (q.2.2.2.2.2) H → SH x H locs → SW x H locs 4 ls []
  | _ => True
set_option maxRecDepth 100000 in
noncomputable def bX4_crumbsOn_32 (l0 : Nat) (l1 : Int32) (l2 : Int32) (l3 : Int32) (M : Mm) : Option ((Nat × Nat × Int32 × Int32 × Int32 × Mm) ⊕ Int32 × Mm) := some (.inl (1, l0, l1, l2, (l3 + 1), M))
set_option maxRecDepth 100000 in
set_option maxHeartbeats 4000000 in
theorem sX4_crumbsOn_32 {x : SB} {F : ((Nat × Nat × Int32 × Int32 × Int32 × Mm) ⊕ Int32 × Mm) → Prop} (X : CX x cX4_crumbsOn RX4 0) (hL : x.2.2.2.1 = 4) (Hr : RTI x cX4_crumbsOn .int F Sum.inr) (HH : ∀ q, F (.inl q) → pX4_crumbsOn x q) {l0 : Nat} {l1 : Int32} {l2 : Int32} {l3 : Int32} {M : Mm} (h_l0 : sh l0 = 14) : SIM x F (bX4_crumbsOn_32 l0 l1 l2 l3 M) 32 [(0, rf x.2.1 l0), (1, .int l1), (2, .int l2), (3, .int l3)] [] M := by
  unfold bX4_crumbsOn_32
  refine r_iinc [(3, .int (l3 + 1)), (0, rf x.2.1 l0), (1, .int l1), (2, .int l2)] X dX4_crumbsOn_32 3 rfl rfl (nlt hL (by decide)) rfl ?_
  refine r_goto 4 X dX4_crumbsOn_35 (by decide) ?_
  exact r_hdr [(0, rf x.2.1 l0), (1, .int l1), (2, .int l2), (3, .int (l3 + 1))] [1, 2, 3, 0] rfl (fun h => HH _ h h_l0)
set_option maxRecDepth 100000 in
noncomputable def bX4_crumbsOn_4 (l0 : Nat) (l1 : Int32) (l2 : Int32) (l3 : Int32) (M : Mm) : Option ((Nat × Nat × Int32 × Int32 × Int32 × Mm) ⊕ Int32 × Mm) := gfI M l0 0 fun v1 => if v1 ≤ l3 then some (.inr (l2, M)) else if ((l1 >>> (l3 &&& 31)) &&& 1) = 1 then gfR M 5 l0 6 fun v2 => ldR M 0 v2 0 fun v3 => ldI M v3 l3 fun v4 => ltI (l2 + v4) fun v5 => bX4_crumbsOn_32 l0 l1 v5 l3 M else bX4_crumbsOn_32 l0 l1 l2 l3 M
set_option maxRecDepth 100000 in
set_option maxHeartbeats 4000000 in
theorem sX4_crumbsOn_4 {x : SB} {F : ((Nat × Nat × Int32 × Int32 × Int32 × Mm) ⊕ Int32 × Mm) → Prop} (X : CX x cX4_crumbsOn RX4 0) (hL : x.2.2.2.1 = 4) (Hr : RTI x cX4_crumbsOn .int F Sum.inr) (HH : ∀ q, F (.inl q) → pX4_crumbsOn x q) {l0 : Nat} {l1 : Int32} {l2 : Int32} {l3 : Int32} {M : Mm} (h_l0 : sh l0 = 14) : SIM x F (bX4_crumbsOn_4 l0 l1 l2 l3 M) 4 [(0, rf x.2.1 l0), (1, .int l1), (2, .int l2), (3, .int l3)] [] M := by
  unfold bX4_crumbsOn_4
  refine r_iload_n X dX4_crumbsOn_4 rfl 3 rfl ?_
  refine r_aload_n X dX4_crumbsOn_5 rfl 0 rfl ?_
  refine r_getI X fl_X4_9 (by decide) h_l0 dX4_crumbsOn_6 (fun v1 => ?_)
  refine r_icmp_ge 38 X dX4_crumbsOn_9 (by decide) ?_ ?_
  · refine r_iload_n X dX4_crumbsOn_38 rfl 2 rfl ?_
    exact r_iret Hr rfl dX4_crumbsOn_39
  · refine r_iload_n X dX4_crumbsOn_12 rfl 1 rfl ?_
    refine r_iload_n X dX4_crumbsOn_13 rfl 3 rfl ?_
    refine r_ishr X dX4_crumbsOn_14 ?_
    refine r_iconst (v := 1) X dX4_crumbsOn_15 (by decide) ?_
    refine r_iand X dX4_crumbsOn_16 ?_
    refine r_iconst (v := 1) X dX4_crumbsOn_17 (by decide) ?_
    refine r_icmp_ne 32 X dX4_crumbsOn_18 (by decide) ?_ ?_
    · refine r_iload_n X dX4_crumbsOn_21 rfl 2 rfl ?_
      refine r_aload_n X dX4_crumbsOn_22 rfl 0 rfl ?_
      refine r_getR X fl_X4_33 (by decide) h_l0 dX4_crumbsOn_23 (fun v2 h_v2 => ?_)
      refine r_iconst (v := 0) X dX4_crumbsOn_26 (by decide) ?_
      refine r_aldA X h_v2 dX4_crumbsOn_27 (fun v3 h_v3 => ?_)
      refine r_iload_n X dX4_crumbsOn_28 rfl 3 rfl ?_
      refine r_iald X h_v3 dX4_crumbsOn_29 (fun v4 => ?_)
      refine r_iadd X dX4_crumbsOn_30 ?_
      refine r_letI (fun v5 => ?_)
      refine r_istore_n [(2, .int v5), (0, rf x.2.1 l0), (1, .int l1), (3, .int l3)] X dX4_crumbsOn_31 rfl (nlt hL (by decide)) rfl ?_
      exact r_to [(0, rf x.2.1 l0), (1, .int l1), (2, .int v5), (3, .int l3)] [1, 2, 0, 3] rfl (sX4_crumbsOn_32 X hL Hr HH h_l0)
    · exact r_to [(0, rf x.2.1 l0), (1, .int l1), (2, .int l2), (3, .int l3)] [0, 1, 2, 3] rfl (sX4_crumbsOn_32 X hL Hr HH h_l0)
set_option maxRecDepth 100000 in
noncomputable def bX4_crumbsOn_0 (l0 : Nat) (l1 : Int32) (M : Mm) : Option ((Nat × Nat × Int32 × Int32 × Int32 × Mm) ⊕ Int32 × Mm) := some (.inl (1, l0, l1, 0, 0, M))
set_option maxRecDepth 100000 in
set_option maxHeartbeats 4000000 in
theorem sX4_crumbsOn_0 {x : SB} {F : ((Nat × Nat × Int32 × Int32 × Int32 × Mm) ⊕ Int32 × Mm) → Prop} (X : CX x cX4_crumbsOn RX4 0) (hL : x.2.2.2.1 = 4) (Hr : RTI x cX4_crumbsOn .int F Sum.inr) (HH : ∀ q, F (.inl q) → pX4_crumbsOn x q) {l0 : Nat} {l1 : Int32} {M : Mm} (h_l0 : sh l0 = 14) : SIM x F (bX4_crumbsOn_0 l0 l1 M) 0 [(0, rf x.2.1 l0), (1, .int l1)] [] M := by
  unfold bX4_crumbsOn_0
  refine r_iconst (v := 0) X dX4_crumbsOn_0 (by decide) ?_
  refine r_istore_n [(2, .int 0), (0, rf x.2.1 l0), (1, .int l1)] X dX4_crumbsOn_1 rfl (nlt hL (by decide)) rfl ?_
  refine r_iconst (v := 0) X dX4_crumbsOn_2 (by decide) ?_
  refine r_istore_n [(3, .int 0), (2, .int 0), (0, rf x.2.1 l0), (1, .int l1)] X dX4_crumbsOn_3 rfl (nlt hL (by decide)) rfl ?_
  exact r_hdr [(0, rf x.2.1 l0), (1, .int l1), (2, .int 0), (3, .int 0)] [2, 3, 1, 0] rfl (fun h => HH _ h h_l0)
set_option maxRecDepth 100000 in
noncomputable def gX4_crumbsOn (q : Nat × Nat × Int32 × Int32 × Int32 × Mm) : Option ((Nat × Nat × Int32 × Int32 × Int32 × Mm) ⊕ Int32 × Mm) := match q.1 with
  | 1 => bX4_crumbsOn_4 (q.2.1) (q.2.2.1) (q.2.2.2.1) (q.2.2.2.2.1) (q.2.2.2.2.2)
  | _ => none
set_option maxRecDepth 100000 in
noncomputable def fX4_crumbsOn (l0 : Nat) (l1 : Int32) (M : Mm) : Option (Int32 × Mm) := fen gX4_crumbsOn (bX4_crumbsOn_0 l0 l1 M)
set_option maxRecDepth 100000 in
set_option maxHeartbeats 4000000 in
theorem okX4_crumbsOn (l : Launch) (g : GX) (hJ : IJ g) {l0 : Nat} {l1 : Int32} {M : Mm} (h_l0 : sh l0 = 14) : CT l g yX4_crumbsOn cX4_crumbsOn 4 (some .int) 0 [rf g l0, .int l1] M (fX4_crumbsOn l0 l1 M) (fun r => some (.int r)) := by
  refine ct_I rfl hJ (Nat.le_of_ble_eq_true rfl) (fun x r hg hL hl X hf Hr => ?_)
  subst hg
  have Hr2 : RTI x cX4_crumbsOn .int (Sum.elim (pX4_crumbsOn x) (fun q => q = r)) Sum.inr := fun v M h => Hr v M h
  have HP : ∀ q, fnl gX4_crumbsOn q = some r → pX4_crumbsOn x q := by
    intro q hq
    refine fnl_ind (pX4_crumbsOn x) (fun q hq => ?_) hq
    obtain ⟨n, l0, l1, l2, l3, M⟩ := q
    match n, hq with
    | 1, hq => exact fun h_l0 ls H locs hl hP hS => sX4_crumbsOn_4 X hL Hr2 (fun _ h => h) h_l0 hq ls H locs hl hP hS
    | 0, hq => exact trivial
    | n + 2, hq => exact trivial
  exact fun _ ls H locs hl hP hS => sX4_crumbsOn_0 X hL Hr2 (fun _ h => h) h_l0 (fen_w hf HP) ls H locs hl hP hS
/-! CrumbWood$Wood.flightFrom(I)I -/
set_option maxRecDepth 100000 in
noncomputable def bX4_flightFrom_37 (s0 : Int32) (M : Mm) : Option (Int32 × Mm) := cal (fX5_least s0 M) fun v2 M1 => some ((v2, M1))
set_option maxRecDepth 100000 in
set_option maxHeartbeats 4000000 in
theorem sX4_flightFrom_37 {x : SB} {F : (Int32 × Mm) → Prop} (X : CX x cX4_flightFrom RX4 2) (hL : x.2.2.2.1 = 3) (Hr : RTI x cX4_flightFrom .int F (fun q => q)) {s0 : Int32} {M : Mm}  : SIM x F (bX4_flightFrom_37 s0 M) 37 [] [.int s0] M := by
  unfold bX4_flightFrom_37
  refine r_callSI [.int s0] X mt_X4_76 (by decide) (okX5_least _ _ X.J) rfl (Nat.le_of_ble_eq_true rfl) dX4_flightFrom_37 rfl (fun v2 M1 => ?_)
  exact r_iret Hr rfl dX4_flightFrom_40
set_option maxRecDepth 100000 in
noncomputable def fX4_flightFrom (l0 : Nat) (l1 : Int32) (M : Mm) : Option (Int32 × Mm) := gfR M 0 l0 5 fun v3 => ldI M v3 l1 fun v4 => if v4 = 0 then some ((l1, M)) else gfR M 0 l0 5 fun v5 => ldI M v5 l1 fun v6 => ltI (v6 &&& (-((2 : Int32) <<< (l1 &&& 31)))) fun v7 => if v7 = 0 then gfR M 0 l0 5 fun v8 => ldI M v8 l1 fun v9 => bX4_flightFrom_37 v9 M else bX4_flightFrom_37 v7 M
set_option maxRecDepth 100000 in
set_option maxHeartbeats 4000000 in
theorem sX4_flightFrom_0 {x : SB} {F : (Int32 × Mm) → Prop} (X : CX x cX4_flightFrom RX4 2) (hL : x.2.2.2.1 = 3) (Hr : RTI x cX4_flightFrom .int F (fun q => q)) {l0 : Nat} {l1 : Int32} {M : Mm} (h_l0 : sh l0 = 14) : SIM x F (fX4_flightFrom l0 l1 M) 0 [(0, rf x.2.1 l0), (1, .int l1)] [] M := by
  unfold fX4_flightFrom
  refine r_aload_n X dX4_flightFrom_0 rfl 0 rfl ?_
  refine r_getR X fl_X4_28 (by decide) h_l0 dX4_flightFrom_1 (fun v3 h_v3 => ?_)
  refine r_iload_n X dX4_flightFrom_4 rfl 1 rfl ?_
  refine r_iald X h_v3 dX4_flightFrom_5 (fun v4 => ?_)
  refine r_if_ne 11 X dX4_flightFrom_6 (by decide) ?_ ?_
  · refine r_iload_n X dX4_flightFrom_9 rfl 1 rfl ?_
    exact r_iret Hr rfl dX4_flightFrom_10
  · refine r_aload_n X dX4_flightFrom_11 rfl 0 rfl ?_
    refine r_getR X fl_X4_28 (by decide) h_l0 dX4_flightFrom_12 (fun v5 h_v5 => ?_)
    refine r_iload_n X dX4_flightFrom_15 rfl 1 rfl ?_
    refine r_iald X h_v5 dX4_flightFrom_16 (fun v6 => ?_)
    refine r_iconst (v := 2) X dX4_flightFrom_17 (by decide) ?_
    refine r_iload_n X dX4_flightFrom_18 rfl 1 rfl ?_
    refine r_ishl X dX4_flightFrom_19 ?_
    refine r_ineg X dX4_flightFrom_20 ?_
    refine r_iand X dX4_flightFrom_21 ?_
    refine r_letI (fun v7 => ?_)
    refine r_istore_n [(2, .int v7), (0, rf x.2.1 l0), (1, .int l1)] X dX4_flightFrom_22 rfl (nlt hL (by decide)) rfl ?_
    refine r_iload_n X dX4_flightFrom_23 rfl 0 rfl ?_
    refine r_if_eq 31 X dX4_flightFrom_24 (by decide) ?_ ?_
    · refine r_aload_n X dX4_flightFrom_31 rfl 1 rfl ?_
      refine r_getR X fl_X4_28 (by decide) h_l0 dX4_flightFrom_32 (fun v8 h_v8 => ?_)
      refine r_iload_n X dX4_flightFrom_35 rfl 2 rfl ?_
      refine r_iald X h_v8 dX4_flightFrom_36 (fun v9 => ?_)
      exact r_to [] [] rfl (sX4_flightFrom_37 X hL Hr)
    · refine r_iload_n X dX4_flightFrom_27 rfl 0 rfl ?_
      refine r_goto 37 X dX4_flightFrom_28 (by decide) ?_
      exact r_to [] [] rfl (sX4_flightFrom_37 X hL Hr)
set_option maxRecDepth 100000 in
set_option maxHeartbeats 4000000 in
theorem okX4_flightFrom (l : Launch) (g : GX) (hJ : IJ g) {l0 : Nat} {l1 : Int32} {M : Mm} (h_l0 : sh l0 = 14) : CT l g yX4_flightFrom cX4_flightFrom 3 (some .int) 2 [rf g l0, .int l1] M (fX4_flightFrom l0 l1 M) (fun r => some (.int r)) := by
  refine ct_I rfl hJ (Nat.le_of_ble_eq_true rfl) (fun x r hg hL hl X hf Hr => ?_)
  subst hg
  exact fun _ ls H locs hl hP hS => sX4_flightFrom_0 X hL Hr h_l0 ⟨_, hf, rfl⟩ ls H locs hl hP hS
/-! CrumbWood$Wood.reachFrom(I)I -/
set_option maxRecDepth 100000 in
noncomputable def fX4_reachFrom (l0 : Nat) (l1 : Int32) (M : Mm) : Option (Int32 × Mm) := ltI ((1 : Int32) <<< (l1 &&& 31)) fun v1 => cal (fX4_isOf l0 l1 1 M) fun v3 M2 => if v3 = 0 then some ((v1, M2)) else gfR M2 0 l0 5 fun v4 => ldI M2 v4 l1 fun v5 => gfR M2 0 l0 4 fun v6 => ldI M2 v6 2 fun v7 => some (((v1 ||| (v5 &&& (v7 ^^^ (-1)))), M2))
set_option maxRecDepth 100000 in
set_option maxHeartbeats 4000000 in
theorem sX4_reachFrom_0 {x : SB} {F : (Int32 × Mm) → Prop} (X : CX x cX4_reachFrom RX4 1) (hL : x.2.2.2.1 = 3) (Hr : RTI x cX4_reachFrom .int F (fun q => q)) {l0 : Nat} {l1 : Int32} {M : Mm} (h_l0 : sh l0 = 14) : SIM x F (fX4_reachFrom l0 l1 M) 0 [(0, rf x.2.1 l0), (1, .int l1)] [] M := by
  unfold fX4_reachFrom
  refine r_iconst (v := 1) X dX4_reachFrom_0 (by decide) ?_
  refine r_iload_n X dX4_reachFrom_1 rfl 1 rfl ?_
  refine r_ishl X dX4_reachFrom_2 ?_
  refine r_letI (fun v1 => ?_)
  refine r_istore_n [(2, .int v1), (0, rf x.2.1 l0), (1, .int l1)] X dX4_reachFrom_3 rfl (nlt hL (by decide)) rfl ?_
  refine r_aload_n X dX4_reachFrom_4 rfl 1 rfl ?_
  refine r_iload_n X dX4_reachFrom_5 rfl 2 rfl ?_
  refine r_iconst (v := 1) X dX4_reachFrom_6 (by decide) ?_
  refine r_callVI [.int l1, .int 1] X mt_X4_61 (by decide) h_l0 (by decide) (okX4_isOf _ _ X.J h_l0) rfl (Nat.le_of_ble_eq_true rfl) dX4_reachFrom_7 rfl (fun v3 M2 => ?_)
  refine r_if_eq 33 X dX4_reachFrom_10 (by decide) ?_ ?_
  · refine r_iload_n X dX4_reachFrom_33 rfl 0 rfl ?_
    exact r_iret Hr rfl dX4_reachFrom_34
  · refine r_iload_n X dX4_reachFrom_13 rfl 0 rfl ?_
    refine r_aload_n X dX4_reachFrom_14 rfl 1 rfl ?_
    refine r_getR X fl_X4_28 (by decide) h_l0 dX4_reachFrom_15 (fun v4 h_v4 => ?_)
    refine r_iload_n X dX4_reachFrom_18 rfl 2 rfl ?_
    refine r_iald X h_v4 dX4_reachFrom_19 (fun v5 => ?_)
    refine r_aload_n X dX4_reachFrom_20 rfl 1 rfl ?_
    refine r_getR X fl_X4_25 (by decide) h_l0 dX4_reachFrom_21 (fun v6 h_v6 => ?_)
    refine r_iconst (v := 2) X dX4_reachFrom_24 (by decide) ?_
    refine r_iald X h_v6 dX4_reachFrom_25 (fun v7 => ?_)
    refine r_iconst (v := (-1)) X dX4_reachFrom_26 (by decide) ?_
    refine r_ixor X dX4_reachFrom_27 ?_
    refine r_iand X dX4_reachFrom_28 ?_
    refine r_ior X dX4_reachFrom_29 ?_
    refine r_goto 34 X dX4_reachFrom_30 (by decide) ?_
    exact r_iret Hr rfl dX4_reachFrom_34
set_option maxRecDepth 100000 in
set_option maxHeartbeats 4000000 in
theorem okX4_reachFrom (l : Launch) (g : GX) (hJ : IJ g) {l0 : Nat} {l1 : Int32} {M : Mm} (h_l0 : sh l0 = 14) : CT l g yX4_reachFrom cX4_reachFrom 3 (some .int) 1 [rf g l0, .int l1] M (fX4_reachFrom l0 l1 M) (fun r => some (.int r)) := by
  refine ct_I rfl hJ (Nat.le_of_ble_eq_true rfl) (fun x r hg hL hl X hf Hr => ?_)
  subst hg
  exact fun _ ls H locs hl hP hS => sX4_reachFrom_0 X hL Hr h_l0 ⟨_, hf, rfl⟩ ls H locs hl hP hS
/-! CrumbWood$Wood.passHours(I)I -/
set_option maxRecDepth 100000 in
def pX4_passHours (x : SB) (q : Nat × Nat × Int32 × Int32 × Int32 × Int32 × Mm) : Prop := match q.1 with
  | 1 => sh q.2.1 = 14 → ∀ (ls : Array Slot) (H : Heap) (locs : List Loc), lv_has ls x.2.2.2.1 [(0, rf x.2.1 q.2.1), (1, .int q.2.2.1), (2, .int q.2.2.2.1), (3, .int q.2.2.2.2.1)] → PW x.2.1 (q.2.2.2.2.2.2) H → SH x H locs → SW x H locs 4 ls []
  | 2 => sh q.2.1 = 14 → ∀ (ls : Array Slot) (H : Heap) (locs : List Loc), lv_has ls x.2.2.2.1 [(0, rf x.2.1 q.2.1), (1, .int q.2.2.1), (2, .int q.2.2.2.1), (3, .int q.2.2.2.2.1), (4, .int q.2.2.2.2.2.1)] → PW x.2.1 (q.2.2.2.2.2.2) H → SH x H locs → SW x H locs 12 ls []
  | _ => True
set_option maxRecDepth 100000 in
noncomputable def bX4_passHours_12 (l0 : Nat) (l1 : Int32) (l2 : Int32) (l3 : Int32) (l4 : Int32) (M : Mm) : Option ((Nat × Nat × Int32 × Int32 × Int32 × Int32 × Mm) ⊕ Int32 × Mm) := gfI M l0 1 fun v1 => if v1 ≤ l4 then some (.inl (1, l0, l1, l2, (l3 + 1), 0, M)) else gfR M 0 l0 8 fun v2 => ldI M v2 l4 fun v3 => cal (fX4_reachFrom l0 v3 M) fun v5 M4 => cal (fX4_crumbsOn l0 v5 M4) fun v7 M6 => ltI (l2 + v7) fun v8 => cal (fX4_clearCrumbs l0 v5 M6) fun _ M9 => gfR M9 0 l0 8 fun v10 => gfR M9 0 l0 8 fun v11 => ldI M9 v11 l4 fun v12 => cal (fX4_flightFrom l0 v12 M9) fun v14 M13 => stI M13 v10 l4 v14 fun M15 => some (.inl (2, l0, l1, v8, l3, (l4 + 1), M15))
set_option maxRecDepth 100000 in
set_option maxHeartbeats 4000000 in
theorem sX4_passHours_12 {x : SB} {F : ((Nat × Nat × Int32 × Int32 × Int32 × Int32 × Mm) ⊕ Int32 × Mm) → Prop} (X : CX x cX4_passHours RX4 3) (hL : x.2.2.2.1 = 6) (Hr : RTI x cX4_passHours .int F Sum.inr) (HH : ∀ q, F (.inl q) → pX4_passHours x q) {l0 : Nat} {l1 : Int32} {l2 : Int32} {l3 : Int32} {l4 : Int32} {M : Mm} (h_l0 : sh l0 = 14) : SIM x F (bX4_passHours_12 l0 l1 l2 l3 l4 M) 12 [(0, rf x.2.1 l0), (1, .int l1), (2, .int l2), (3, .int l3), (4, .int l4)] [] M := by
  unfold bX4_passHours_12
  refine r_iload X dX4_passHours_12 4 rfl ?_
  refine r_aload_n X dX4_passHours_14 rfl 0 rfl ?_
  refine r_getI X fl_X4_15 (by decide) h_l0 dX4_passHours_15 (fun v1 => ?_)
  refine r_icmp_ge 73 X dX4_passHours_18 (by decide) ?_ ?_
  · refine r_iinc [(3, .int (l3 + 1)), (0, rf x.2.1 l0), (1, .int l1), (2, .int l2), (4, .int l4)] X dX4_passHours_73 3 rfl rfl (nlt hL (by decide)) rfl ?_
    refine r_goto 4 X dX4_passHours_76 (by decide) ?_
    exact r_hdr [(0, rf x.2.1 l0), (1, .int l1), (2, .int l2), (3, .int (l3 + 1))] [1, 2, 3, 0] rfl (fun h => HH _ h h_l0)
  · refine r_aload_n X dX4_passHours_21 rfl 0 rfl ?_
    refine r_aload_n X dX4_passHours_22 rfl 0 rfl ?_
    refine r_getR X fl_X4_39 (by decide) h_l0 dX4_passHours_23 (fun v2 h_v2 => ?_)
    refine r_iload X dX4_passHours_26 4 rfl ?_
    refine r_iald X h_v2 dX4_passHours_28 (fun v3 => ?_)
    refine r_callVI [.int v3] X mt_X4_82 (by decide) h_l0 (by decide) (okX4_reachFrom _ _ X.J h_l0) rfl (Nat.le_of_ble_eq_true rfl) dX4_passHours_29 rfl (fun v5 M4 => ?_)
    refine r_istore [(5, .int v5), (0, rf x.2.1 l0), (1, .int l1), (2, .int l2), (3, .int l3), (4, .int l4)] X dX4_passHours_32 (nlt hL (by decide)) rfl ?_
    refine r_iload_n X dX4_passHours_34 rfl 3 rfl ?_
    refine r_aload_n X dX4_passHours_35 rfl 1 rfl ?_
    refine r_iload X dX4_passHours_36 0 rfl ?_
    refine r_callVI [.int v5] X mt_X4_85 (by decide) h_l0 (by decide) (okX4_crumbsOn _ _ X.J h_l0) rfl (Nat.le_of_ble_eq_true rfl) dX4_passHours_38 rfl (fun v7 M6 => ?_)
    refine r_iadd X dX4_passHours_41 ?_
    refine r_letI (fun v8 => ?_)
    refine r_istore_n [(2, .int v8), (5, .int v5), (0, rf x.2.1 l0), (1, .int l1), (3, .int l3), (4, .int l4)] X dX4_passHours_42 rfl (nlt hL (by decide)) rfl ?_
    refine r_aload_n X dX4_passHours_43 rfl 2 rfl ?_
    refine r_iload X dX4_passHours_44 1 rfl ?_
    refine r_callVV [.int v5] X mt_X4_88 (by decide) h_l0 (by decide) (okX4_clearCrumbs _ _ X.J h_l0) rfl (Nat.le_of_ble_eq_true rfl) dX4_passHours_46 rfl (fun _ M9 => ?_)
    refine r_aload_n X dX4_passHours_49 rfl 2 rfl ?_
    refine r_getR X fl_X4_39 (by decide) h_l0 dX4_passHours_50 (fun v10 h_v10 => ?_)
    refine r_iload X dX4_passHours_53 5 rfl ?_
    refine r_aload_n X dX4_passHours_55 rfl 2 rfl ?_
    refine r_aload_n X dX4_passHours_56 rfl 2 rfl ?_
    refine r_getR X fl_X4_39 (by decide) h_l0 dX4_passHours_57 (fun v11 h_v11 => ?_)
    refine r_iload X dX4_passHours_60 5 rfl ?_
    refine r_iald X h_v11 dX4_passHours_62 (fun v12 => ?_)
    refine r_callVI [.int v12] X mt_X4_79 (by decide) h_l0 (by decide) (okX4_flightFrom _ _ X.J h_l0) rfl (Nat.le_of_ble_eq_true rfl) dX4_passHours_63 rfl (fun v14 M13 => ?_)
    refine r_iast X h_v10 dX4_passHours_66 (fun M15 => ?_)
    refine r_iinc [(4, .int (l4 + 1)), (2, .int v8), (5, .int v5), (0, rf x.2.1 l0), (1, .int l1), (3, .int l3)] X dX4_passHours_67 5 rfl rfl (nlt hL (by decide)) rfl ?_
    refine r_goto 12 X dX4_passHours_70 (by decide) ?_
    exact r_hdr [(0, rf x.2.1 l0), (1, .int l1), (2, .int v8), (3, .int l3), (4, .int (l4 + 1))] [3, 4, 1, 5, 0] rfl (fun h => HH _ h h_l0)
set_option maxRecDepth 100000 in
noncomputable def bX4_passHours_4 (l0 : Nat) (l1 : Int32) (l2 : Int32) (l3 : Int32) (M : Mm) : Option ((Nat × Nat × Int32 × Int32 × Int32 × Int32 × Mm) ⊕ Int32 × Mm) := if l1 ≤ l3 then some (.inr (l2, M)) else some (.inl (2, l0, l1, l2, l3, 0, M))
set_option maxRecDepth 100000 in
set_option maxHeartbeats 4000000 in
theorem sX4_passHours_4 {x : SB} {F : ((Nat × Nat × Int32 × Int32 × Int32 × Int32 × Mm) ⊕ Int32 × Mm) → Prop} (X : CX x cX4_passHours RX4 3) (hL : x.2.2.2.1 = 6) (Hr : RTI x cX4_passHours .int F Sum.inr) (HH : ∀ q, F (.inl q) → pX4_passHours x q) {l0 : Nat} {l1 : Int32} {l2 : Int32} {l3 : Int32} {M : Mm} (h_l0 : sh l0 = 14) : SIM x F (bX4_passHours_4 l0 l1 l2 l3 M) 4 [(0, rf x.2.1 l0), (1, .int l1), (2, .int l2), (3, .int l3)] [] M := by
  unfold bX4_passHours_4
  refine r_iload_n X dX4_passHours_4 rfl 3 rfl ?_
  refine r_iload_n X dX4_passHours_5 rfl 1 rfl ?_
  refine r_icmp_ge 79 X dX4_passHours_6 (by decide) ?_ ?_
  · refine r_iload_n X dX4_passHours_79 rfl 2 rfl ?_
    exact r_iret Hr rfl dX4_passHours_80
  · refine r_iconst (v := 0) X dX4_passHours_9 (by decide) ?_
    refine r_istore [(4, .int 0), (0, rf x.2.1 l0), (1, .int l1), (2, .int l2), (3, .int l3)] X dX4_passHours_10 (nlt hL (by decide)) rfl ?_
    exact r_hdr [(0, rf x.2.1 l0), (1, .int l1), (2, .int l2), (3, .int l3), (4, .int 0)] [1, 2, 3, 4, 0] rfl (fun h => HH _ h h_l0)
set_option maxRecDepth 100000 in
noncomputable def bX4_passHours_0 (l0 : Nat) (l1 : Int32) (M : Mm) : Option ((Nat × Nat × Int32 × Int32 × Int32 × Int32 × Mm) ⊕ Int32 × Mm) := some (.inl (1, l0, l1, 0, 0, 0, M))
set_option maxRecDepth 100000 in
set_option maxHeartbeats 4000000 in
theorem sX4_passHours_0 {x : SB} {F : ((Nat × Nat × Int32 × Int32 × Int32 × Int32 × Mm) ⊕ Int32 × Mm) → Prop} (X : CX x cX4_passHours RX4 3) (hL : x.2.2.2.1 = 6) (Hr : RTI x cX4_passHours .int F Sum.inr) (HH : ∀ q, F (.inl q) → pX4_passHours x q) {l0 : Nat} {l1 : Int32} {M : Mm} (h_l0 : sh l0 = 14) : SIM x F (bX4_passHours_0 l0 l1 M) 0 [(0, rf x.2.1 l0), (1, .int l1)] [] M := by
  unfold bX4_passHours_0
  refine r_iconst (v := 0) X dX4_passHours_0 (by decide) ?_
  refine r_istore_n [(2, .int 0), (0, rf x.2.1 l0), (1, .int l1)] X dX4_passHours_1 rfl (nlt hL (by decide)) rfl ?_
  refine r_iconst (v := 0) X dX4_passHours_2 (by decide) ?_
  refine r_istore_n [(3, .int 0), (2, .int 0), (0, rf x.2.1 l0), (1, .int l1)] X dX4_passHours_3 rfl (nlt hL (by decide)) rfl ?_
  exact r_hdr [(0, rf x.2.1 l0), (1, .int l1), (2, .int 0), (3, .int 0)] [2, 3, 1, 0] rfl (fun h => HH _ h h_l0)
set_option maxRecDepth 100000 in
noncomputable def gX4_passHours (q : Nat × Nat × Int32 × Int32 × Int32 × Int32 × Mm) : Option ((Nat × Nat × Int32 × Int32 × Int32 × Int32 × Mm) ⊕ Int32 × Mm) := match q.1 with
  | 1 => bX4_passHours_4 (q.2.1) (q.2.2.1) (q.2.2.2.1) (q.2.2.2.2.1) (q.2.2.2.2.2.2)
  | 2 => bX4_passHours_12 (q.2.1) (q.2.2.1) (q.2.2.2.1) (q.2.2.2.2.1) (q.2.2.2.2.2.1) (q.2.2.2.2.2.2)
  | _ => none
set_option maxRecDepth 100000 in
noncomputable def fX4_passHours (l0 : Nat) (l1 : Int32) (M : Mm) : Option (Int32 × Mm) := fen gX4_passHours (bX4_passHours_0 l0 l1 M)
set_option maxRecDepth 100000 in
set_option maxHeartbeats 4000000 in
theorem okX4_passHours (l : Launch) (g : GX) (hJ : IJ g) {l0 : Nat} {l1 : Int32} {M : Mm} (h_l0 : sh l0 = 14) : CT l g yX4_passHours cX4_passHours 6 (some .int) 3 [rf g l0, .int l1] M (fX4_passHours l0 l1 M) (fun r => some (.int r)) := by
  refine ct_I rfl hJ (Nat.le_of_ble_eq_true rfl) (fun x r hg hL hl X hf Hr => ?_)
  subst hg
  have Hr2 : RTI x cX4_passHours .int (Sum.elim (pX4_passHours x) (fun q => q = r)) Sum.inr := fun v M h => Hr v M h
  have HP : ∀ q, fnl gX4_passHours q = some r → pX4_passHours x q := by
    intro q hq
    refine fnl_ind (pX4_passHours x) (fun q hq => ?_) hq
    obtain ⟨n, l0, l1, l2, l3, l4, M⟩ := q
    match n, hq with
    | 1, hq => exact fun h_l0 ls H locs hl hP hS => sX4_passHours_4 X hL Hr2 (fun _ h => h) h_l0 hq ls H locs hl hP hS
    | 2, hq => exact fun h_l0 ls H locs hl hP hS => sX4_passHours_12 X hL Hr2 (fun _ h => h) h_l0 hq ls H locs hl hP hS
    | 0, hq => exact trivial
    | n + 3, hq => exact trivial
  exact fun _ ls H locs hl hP hS => sX4_passHours_0 X hL Hr2 (fun _ h => h) h_l0 (fen_w hf HP) ls H locs hl hP hS
/-! CrumbWood$Wood.totalOf(I)I -/
set_option maxRecDepth 100000 in
def pX4_totalOf (x : SB) (q : Nat × Nat × Int32 × Int32 × Int32 × Mm) : Prop := match q.1 with
  | 1 => sh q.2.1 = 14 → ∀ (ls : Array Slot) (H : Heap) (locs : List Loc), lv_has ls x.2.2.2.1 [(0, rf x.2.1 q.2.1), (1, .int q.2.2.1), (2, .int q.2.2.2.1), (3, .int q.2.2.2.2.1)] → PW x.2.1 (q.2.2.2.2.2) H → SH x H locs → SW x H locs 4 ls []
  | _ => True
set_option maxRecDepth 100000 in
noncomputable def bX4_totalOf_4 (l0 : Nat) (l1 : Int32) (l2 : Int32) (l3 : Int32) (M : Mm) : Option ((Nat × Nat × Int32 × Int32 × Int32 × Mm) ⊕ Int32 × Mm) := gfI M l0 0 fun v1 => if v1 ≤ l3 then some (.inr (l2, M)) else gfR M 5 l0 6 fun v2 => ldR M 0 v2 l1 fun v3 => ldI M v3 l3 fun v4 => ltI (l2 + v4) fun v5 => some (.inl (1, l0, l1, v5, (l3 + 1), M))
set_option maxRecDepth 100000 in
set_option maxHeartbeats 4000000 in
theorem sX4_totalOf_4 {x : SB} {F : ((Nat × Nat × Int32 × Int32 × Int32 × Mm) ⊕ Int32 × Mm) → Prop} (X : CX x cX4_totalOf RX4 0) (hL : x.2.2.2.1 = 4) (Hr : RTI x cX4_totalOf .int F Sum.inr) (HH : ∀ q, F (.inl q) → pX4_totalOf x q) {l0 : Nat} {l1 : Int32} {l2 : Int32} {l3 : Int32} {M : Mm} (h_l0 : sh l0 = 14) : SIM x F (bX4_totalOf_4 l0 l1 l2 l3 M) 4 [(0, rf x.2.1 l0), (1, .int l1), (2, .int l2), (3, .int l3)] [] M := by
  unfold bX4_totalOf_4
  refine r_iload_n X dX4_totalOf_4 rfl 3 rfl ?_
  refine r_aload_n X dX4_totalOf_5 rfl 0 rfl ?_
  refine r_getI X fl_X4_9 (by decide) h_l0 dX4_totalOf_6 (fun v1 => ?_)
  refine r_icmp_ge 29 X dX4_totalOf_9 (by decide) ?_ ?_
  · refine r_iload_n X dX4_totalOf_29 rfl 2 rfl ?_
    exact r_iret Hr rfl dX4_totalOf_30
  · refine r_iload_n X dX4_totalOf_12 rfl 2 rfl ?_
    refine r_aload_n X dX4_totalOf_13 rfl 0 rfl ?_
    refine r_getR X fl_X4_33 (by decide) h_l0 dX4_totalOf_14 (fun v2 h_v2 => ?_)
    refine r_iload_n X dX4_totalOf_17 rfl 1 rfl ?_
    refine r_aldA X h_v2 dX4_totalOf_18 (fun v3 h_v3 => ?_)
    refine r_iload_n X dX4_totalOf_19 rfl 3 rfl ?_
    refine r_iald X h_v3 dX4_totalOf_20 (fun v4 => ?_)
    refine r_iadd X dX4_totalOf_21 ?_
    refine r_letI (fun v5 => ?_)
    refine r_istore_n [(2, .int v5), (0, rf x.2.1 l0), (1, .int l1), (3, .int l3)] X dX4_totalOf_22 rfl (nlt hL (by decide)) rfl ?_
    refine r_iinc [(3, .int (l3 + 1)), (2, .int v5), (0, rf x.2.1 l0), (1, .int l1)] X dX4_totalOf_23 3 rfl rfl (nlt hL (by decide)) rfl ?_
    refine r_goto 4 X dX4_totalOf_26 (by decide) ?_
    exact r_hdr [(0, rf x.2.1 l0), (1, .int l1), (2, .int v5), (3, .int (l3 + 1))] [2, 3, 1, 0] rfl (fun h => HH _ h h_l0)
set_option maxRecDepth 100000 in
noncomputable def bX4_totalOf_0 (l0 : Nat) (l1 : Int32) (M : Mm) : Option ((Nat × Nat × Int32 × Int32 × Int32 × Mm) ⊕ Int32 × Mm) := some (.inl (1, l0, l1, 0, 0, M))
set_option maxRecDepth 100000 in
set_option maxHeartbeats 4000000 in
theorem sX4_totalOf_0 {x : SB} {F : ((Nat × Nat × Int32 × Int32 × Int32 × Mm) ⊕ Int32 × Mm) → Prop} (X : CX x cX4_totalOf RX4 0) (hL : x.2.2.2.1 = 4) (Hr : RTI x cX4_totalOf .int F Sum.inr) (HH : ∀ q, F (.inl q) → pX4_totalOf x q) {l0 : Nat} {l1 : Int32} {M : Mm} (h_l0 : sh l0 = 14) : SIM x F (bX4_totalOf_0 l0 l1 M) 0 [(0, rf x.2.1 l0), (1, .int l1)] [] M := by
  unfold bX4_totalOf_0
  refine r_iconst (v := 0) X dX4_totalOf_0 (by decide) ?_
  refine r_istore_n [(2, .int 0), (0, rf x.2.1 l0), (1, .int l1)] X dX4_totalOf_1 rfl (nlt hL (by decide)) rfl ?_
  refine r_iconst (v := 0) X dX4_totalOf_2 (by decide) ?_
  refine r_istore_n [(3, .int 0), (2, .int 0), (0, rf x.2.1 l0), (1, .int l1)] X dX4_totalOf_3 rfl (nlt hL (by decide)) rfl ?_
  exact r_hdr [(0, rf x.2.1 l0), (1, .int l1), (2, .int 0), (3, .int 0)] [2, 3, 1, 0] rfl (fun h => HH _ h h_l0)
set_option maxRecDepth 100000 in
noncomputable def gX4_totalOf (q : Nat × Nat × Int32 × Int32 × Int32 × Mm) : Option ((Nat × Nat × Int32 × Int32 × Int32 × Mm) ⊕ Int32 × Mm) := match q.1 with
  | 1 => bX4_totalOf_4 (q.2.1) (q.2.2.1) (q.2.2.2.1) (q.2.2.2.2.1) (q.2.2.2.2.2)
  | _ => none
set_option maxRecDepth 100000 in
noncomputable def fX4_totalOf (l0 : Nat) (l1 : Int32) (M : Mm) : Option (Int32 × Mm) := fen gX4_totalOf (bX4_totalOf_0 l0 l1 M)
set_option maxRecDepth 100000 in
set_option maxHeartbeats 4000000 in
theorem okX4_totalOf (l : Launch) (g : GX) (hJ : IJ g) {l0 : Nat} {l1 : Int32} {M : Mm} (h_l0 : sh l0 = 14) : CT l g yX4_totalOf cX4_totalOf 4 (some .int) 0 [rf g l0, .int l1] M (fX4_totalOf l0 l1 M) (fun r => some (.int r)) := by
  refine ct_I rfl hJ (Nat.le_of_ble_eq_true rfl) (fun x r hg hL hl X hf Hr => ?_)
  subst hg
  have Hr2 : RTI x cX4_totalOf .int (Sum.elim (pX4_totalOf x) (fun q => q = r)) Sum.inr := fun v M h => Hr v M h
  have HP : ∀ q, fnl gX4_totalOf q = some r → pX4_totalOf x q := by
    intro q hq
    refine fnl_ind (pX4_totalOf x) (fun q hq => ?_) hq
    obtain ⟨n, l0, l1, l2, l3, M⟩ := q
    match n, hq with
    | 1, hq => exact fun h_l0 ls H locs hl hP hS => sX4_totalOf_4 X hL Hr2 (fun _ h => h) h_l0 hq ls H locs hl hP hS
    | 0, hq => exact trivial
    | n + 2, hq => exact trivial
  exact fun _ ls H locs hl hP hS => sX4_totalOf_0 X hL Hr2 (fun _ h => h) h_l0 (fen_w hf HP) ls H locs hl hP hS
/-! CrumbWood.bare()I -/
set_option maxRecDepth 100000 in
def pX5_bare (x : SB) (q : Nat × Nat × Int32 × Mm) : Prop := match q.1 with
  | 1 => sh q.2.1 = 15 → ∀ (ls : Array Slot) (H : Heap) (locs : List Loc), lv_has ls x.2.2.2.1 [(0, rf x.2.1 q.2.1), (1, .int q.2.2.1)] → PW x.2.1 (q.2.2.2) H → SH x H locs → SW x H locs 26 ls []
  | _ => True
set_option maxRecDepth 100000 in
noncomputable def bX5_bare_26 (l0 : Nat) (l1 : Int32) (M : Mm) : Option ((Nat × Nat × Int32 × Mm) ⊕ Int32 × Mm) := if 60 < l1 then some (.inr ((-9), M)) else gfR M 14 l0 4 fun v1 => cal (fX4_totalOf v1 0 M) fun v3 M2 => if v3 = 0 then some (.inr (l1, M2)) else gfR M2 14 l0 4 fun v4 => cal (fX4_passHours v4 1 M2) fun v6 M5 => some (.inl (1, l0, (l1 + 1), M5))
set_option maxRecDepth 100000 in
set_option maxHeartbeats 4000000 in
theorem sX5_bare_26 {x : SB} {F : ((Nat × Nat × Int32 × Mm) ⊕ Int32 × Mm) → Prop} (X : CX x cX5_bare RX5 4) (hL : x.2.2.2.1 = 2) (Hr : RTI x cX5_bare .int F Sum.inr) (HH : ∀ q, F (.inl q) → pX5_bare x q) {l0 : Nat} {l1 : Int32} {M : Mm} (h_l0 : sh l0 = 15) : SIM x F (bX5_bare_26 l0 l1 M) 26 [(0, rf x.2.1 l0), (1, .int l1)] [] M := by
  unfold bX5_bare_26
  refine r_iload_n X dX5_bare_26 rfl 1 rfl ?_
  refine r_bipush (v := 60) X dX5_bare_27 (by decide) ?_
  refine r_icmp_gt 60 X dX5_bare_29 (by decide) ?_ ?_
  · refine r_bipush (v := (-9)) X dX5_bare_60 (by decide) ?_
    exact r_iret Hr rfl dX5_bare_62
  · refine r_aload_n X dX5_bare_32 rfl 0 rfl ?_
    refine r_getR X fl_X5_29 (by decide) h_l0 dX5_bare_33 (fun v1 h_v1 => ?_)
    refine r_iconst (v := 0) X dX5_bare_36 (by decide) ?_
    refine r_callVI [.int 0] X mt_X5_264 (by decide) h_v1 (by decide) (okX4_totalOf _ _ X.J h_v1) rfl (Nat.le_of_ble_eq_true rfl) dX5_bare_37 rfl (fun v3 M2 => ?_)
    refine r_if_ne 45 X dX5_bare_40 (by decide) ?_ ?_
    · refine r_iload_n X dX5_bare_43 rfl 1 rfl ?_
      exact r_iret Hr rfl dX5_bare_44
    · refine r_aload_n X dX5_bare_45 rfl 0 rfl ?_
      refine r_getR X fl_X5_29 (by decide) h_l0 dX5_bare_46 (fun v4 h_v4 => ?_)
      refine r_iconst (v := 1) X dX5_bare_49 (by decide) ?_
      refine r_callVI [.int 1] X mt_X5_202 (by decide) h_v4 (by decide) (okX4_passHours _ _ X.J h_v4) rfl (Nat.le_of_ble_eq_true rfl) dX5_bare_50 rfl (fun v6 M5 => ?_)
      refine r_pop X dX5_bare_53 rfl ?_
      refine r_iinc [(1, .int (l1 + 1)), (0, rf x.2.1 l0)] X dX5_bare_54 1 rfl rfl (nlt hL (by decide)) rfl ?_
      refine r_goto 26 X dX5_bare_57 (by decide) ?_
      exact r_hdr [(0, rf x.2.1 l0), (1, .int (l1 + 1))] [1, 0] rfl (fun h => HH _ h h_l0)
set_option maxRecDepth 100000 in
noncomputable def bX5_bare_0 (l0 : Nat) (M : Mm) : Option ((Nat × Nat × Int32 × Mm) ⊕ Int32 × Mm) := gfR M 14 l0 2 fun v7 => cal (fX4_isEmpty v7 M) fun v9 M8 => if v9 = 0 then gfR M8 14 l0 4 fun v10 => gfR M8 14 l0 2 fun v11 => cal (fX4_become v10 v11 M8) fun _ M12 => some (.inl (1, l0, 0, M12)) else some (.inr ((-4), M8))
set_option maxRecDepth 100000 in
set_option maxHeartbeats 4000000 in
theorem sX5_bare_0 {x : SB} {F : ((Nat × Nat × Int32 × Mm) ⊕ Int32 × Mm) → Prop} (X : CX x cX5_bare RX5 4) (hL : x.2.2.2.1 = 2) (Hr : RTI x cX5_bare .int F Sum.inr) (HH : ∀ q, F (.inl q) → pX5_bare x q) {l0 : Nat} {M : Mm} (h_l0 : sh l0 = 15) : SIM x F (bX5_bare_0 l0 M) 0 [(0, rf x.2.1 l0)] [] M := by
  unfold bX5_bare_0
  refine r_aload_n X dX5_bare_0 rfl 0 rfl ?_
  refine r_getR X fl_X5_21 (by decide) h_l0 dX5_bare_1 (fun v7 h_v7 => ?_)
  refine r_callVI [] X mt_X5_199 (by decide) h_v7 (by decide) (okX4_isEmpty _ _ X.J h_v7) rfl (Nat.le_of_ble_eq_true rfl) dX5_bare_4 rfl (fun v9 M8 => ?_)
  refine r_if_eq 13 X dX5_bare_7 (by decide) ?_ ?_
  · refine r_aload_n X dX5_bare_13 rfl 0 rfl ?_
    refine r_getR X fl_X5_29 (by decide) h_l0 dX5_bare_14 (fun v10 h_v10 => ?_)
    refine r_aload_n X dX5_bare_17 rfl 0 rfl ?_
    refine r_getR X fl_X5_21 (by decide) h_l0 dX5_bare_18 (fun v11 h_v11 => ?_)
    refine r_callVV [rf x.2.1 v11] X mt_X5_116 (by decide) h_v10 (by decide) (okX4_become _ _ X.J h_v10 h_v11) rfl (Nat.le_of_ble_eq_true rfl) dX5_bare_21 rfl (fun _ M12 => ?_)
    refine r_iconst (v := 0) X dX5_bare_24 (by decide) ?_
    refine r_istore_n [(1, .int 0), (0, rf x.2.1 l0)] X dX5_bare_25 rfl (nlt hL (by decide)) rfl ?_
    exact r_hdr [(0, rf x.2.1 l0), (1, .int 0)] [1, 0] rfl (fun h => HH _ h h_l0)
  · refine r_bipush (v := (-4)) X dX5_bare_10 (by decide) ?_
    exact r_iret Hr rfl dX5_bare_12
set_option maxRecDepth 100000 in
noncomputable def gX5_bare (q : Nat × Nat × Int32 × Mm) : Option ((Nat × Nat × Int32 × Mm) ⊕ Int32 × Mm) := match q.1 with
  | 1 => bX5_bare_26 (q.2.1) (q.2.2.1) (q.2.2.2)
  | _ => none
set_option maxRecDepth 100000 in
noncomputable def fX5_bare (l0 : Nat) (M : Mm) : Option (Int32 × Mm) := fen gX5_bare (bX5_bare_0 l0 M)
set_option maxRecDepth 100000 in
set_option maxHeartbeats 4000000 in
theorem okX5_bare (l : Launch) (g : GX) (hJ : IJ g) {l0 : Nat} {M : Mm} (h_l0 : sh l0 = 15) : CT l g yX5_bare cX5_bare 2 (some .int) 4 [rf g l0] M (fX5_bare l0 M) (fun r => some (.int r)) := by
  refine ct_I rfl hJ (Nat.le_of_ble_eq_true rfl) (fun x r hg hL hl X hf Hr => ?_)
  subst hg
  have Hr2 : RTI x cX5_bare .int (Sum.elim (pX5_bare x) (fun q => q = r)) Sum.inr := fun v M h => Hr v M h
  have HP : ∀ q, fnl gX5_bare q = some r → pX5_bare x q := by
    intro q hq
    refine fnl_ind (pX5_bare x) (fun q hq => ?_) hq
    obtain ⟨n, l0, l1, M⟩ := q
    match n, hq with
    | 1, hq => exact fun h_l0 ls H locs hl hP hS => sX5_bare_26 X hL Hr2 (fun _ h => h) h_l0 hq ls H locs hl hP hS
    | 0, hq => exact trivial
    | n + 2, hq => exact trivial
  exact fun _ ls H locs hl hP hS => sX5_bare_0 X hL Hr2 (fun _ h => h) h_l0 (fen_w hf HP) ls H locs hl hP hS
/-! CrumbWood.tellChances(II)V -/
set_option maxRecDepth 100000 in
def pX5_tellChances (x : SB) (q : Nat × Nat × Int32 × Mm) : Prop := match q.1 with
  | 1 => sh q.2.1 = 15 → ∀ (ls : Array Slot) (H : Heap) (locs : List Loc), lv_has ls x.2.2.2.1 [(0, rf x.2.1 q.2.1), (3, .int q.2.2.1)] → PW x.2.1 (q.2.2.2) H → SH x H locs → SW x H locs 14 ls []
  | _ => True
set_option maxRecDepth 100000 in
noncomputable def bX5_tellChances_14 (l0 : Nat) (l3 : Int32) (M : Mm) : Option ((Nat × Nat × Int32 × Mm) ⊕ Unit × Mm) := if 8 ≤ l3 then some (.inr ((), M)) else gfJ M l0 12 fun v1 => if (lg_cmp v1 1) ≤ 0 then some (.inr ((), M)) else gfJ M l0 11 fun v2 => rmJ v2 2 fun v3 => if (lg_cmp v3 0) = 0 then gfJ M l0 11 fun v4 => dvJ v4 2 fun v5 => pfJ M l0 11 v5 fun M6 => gfJ M6 l0 12 fun v7 => dvJ v7 2 fun v8 => pfJ M6 l0 12 v8 fun M9 => some (.inl (1, l0, (l3 + 1), M9)) else some (.inr ((), M))
set_option maxRecDepth 100000 in
set_option maxHeartbeats 4000000 in
theorem sX5_tellChances_14 {x : SB} {F : ((Nat × Nat × Int32 × Mm) ⊕ Unit × Mm) → Prop} (X : CX x cX5_tellChances RX5 0) (hL : x.2.2.2.1 = 4) (Hr : RTV x cX5_tellChances F Sum.inr) (HH : ∀ q, F (.inl q) → pX5_tellChances x q) {l0 : Nat} {l3 : Int32} {M : Mm} (h_l0 : sh l0 = 15) : SIM x F (bX5_tellChances_14 l0 l3 M) 14 [(0, rf x.2.1 l0), (3, .int l3)] [] M := by
  unfold bX5_tellChances_14
  refine r_iload_n X dX5_tellChances_14 rfl 1 rfl ?_
  refine r_bipush (v := 8) X dX5_tellChances_15 (by decide) ?_
  refine r_icmp_ge 72 X dX5_tellChances_17 (by decide) ?_ ?_
  · exact r_vret Hr dX5_tellChances_72
  · refine r_aload_n X dX5_tellChances_20 rfl 0 rfl ?_
    refine r_getJ X fl_X5_68 (by decide) h_l0 dX5_tellChances_21 (fun v1 => ?_)
    refine r_lconst (v := 1) X dX5_tellChances_24 (by decide) ?_
    refine r_lcmp X dX5_tellChances_25 ?_
    refine r_if_le 72 X dX5_tellChances_26 (by decide) ?_ ?_
    · exact r_vret Hr dX5_tellChances_72
    · refine r_aload_n X dX5_tellChances_29 rfl 0 rfl ?_
      refine r_getJ X fl_X5_64 (by decide) h_l0 dX5_tellChances_30 (fun v2 => ?_)
      refine r_ldc2 X dX5_tellChances_33 k_667 ?_
      refine r_lrem X dX5_tellChances_36 (fun v3 => ?_)
      refine r_lconst (v := 0) X dX5_tellChances_37 (by decide) ?_
      refine r_lcmp X dX5_tellChances_38 ?_
      refine r_if_ne 72 X dX5_tellChances_39 (by decide) ?_ ?_
      · refine r_aload_n X dX5_tellChances_42 rfl 0 rfl ?_
        refine r_dup X dX5_tellChances_43 rfl ?_
        refine r_getJ X fl_X5_64 (by decide) h_l0 dX5_tellChances_44 (fun v4 => ?_)
        refine r_ldc2 X dX5_tellChances_47 k_667 ?_
        refine r_ldiv X dX5_tellChances_50 (fun v5 => ?_)
        refine r_putJ X fl_X5_64 (by decide) h_l0 (fun _ => rfl) (fun _ => rfl) dX5_tellChances_51 (fun M6 => ?_)
        refine r_aload_n X dX5_tellChances_54 rfl 0 rfl ?_
        refine r_dup X dX5_tellChances_55 rfl ?_
        refine r_getJ X fl_X5_68 (by decide) h_l0 dX5_tellChances_56 (fun v7 => ?_)
        refine r_ldc2 X dX5_tellChances_59 k_667 ?_
        refine r_ldiv X dX5_tellChances_62 (fun v8 => ?_)
        refine r_putJ X fl_X5_68 (by decide) h_l0 (fun _ => rfl) (fun _ => rfl) dX5_tellChances_63 (fun M9 => ?_)
        refine r_iinc [(3, .int (l3 + 1)), (0, rf x.2.1 l0)] X dX5_tellChances_66 1 rfl rfl (nlt hL (by decide)) rfl ?_
        refine r_goto 14 X dX5_tellChances_69 (by decide) ?_
        exact r_hdr [(0, rf x.2.1 l0), (3, .int (l3 + 1))] [1, 0] rfl (fun h => HH _ h h_l0)
      · exact r_vret Hr dX5_tellChances_72
set_option maxRecDepth 100000 in
noncomputable def bX5_tellChances_0 (l0 : Nat) (l1 : Int32) (l2 : Int32) (M : Mm) : Option ((Nat × Nat × Int32 × Mm) ⊕ Unit × Mm) := pfJ M l0 11 ((l1 : Int32).toInt64) fun M10 => pfJ M10 l0 12 ((l2 : Int32).toInt64) fun M11 => some (.inl (1, l0, 0, M11))
set_option maxRecDepth 100000 in
set_option maxHeartbeats 4000000 in
theorem sX5_tellChances_0 {x : SB} {F : ((Nat × Nat × Int32 × Mm) ⊕ Unit × Mm) → Prop} (X : CX x cX5_tellChances RX5 0) (hL : x.2.2.2.1 = 4) (Hr : RTV x cX5_tellChances F Sum.inr) (HH : ∀ q, F (.inl q) → pX5_tellChances x q) {l0 : Nat} {l1 : Int32} {l2 : Int32} {M : Mm} (h_l0 : sh l0 = 15) : SIM x F (bX5_tellChances_0 l0 l1 l2 M) 0 [(0, rf x.2.1 l0), (1, .int l1), (2, .int l2)] [] M := by
  unfold bX5_tellChances_0
  refine r_aload_n X dX5_tellChances_0 rfl 0 rfl ?_
  refine r_iload_n X dX5_tellChances_1 rfl 1 rfl ?_
  refine r_i2l X dX5_tellChances_2 ?_
  refine r_putJ X fl_X5_64 (by decide) h_l0 (fun _ => rfl) (fun _ => rfl) dX5_tellChances_3 (fun M10 => ?_)
  refine r_aload_n X dX5_tellChances_6 rfl 0 rfl ?_
  refine r_iload_n X dX5_tellChances_7 rfl 2 rfl ?_
  refine r_i2l X dX5_tellChances_8 ?_
  refine r_putJ X fl_X5_68 (by decide) h_l0 (fun _ => rfl) (fun _ => rfl) dX5_tellChances_9 (fun M11 => ?_)
  refine r_iconst (v := 0) X dX5_tellChances_12 (by decide) ?_
  refine r_istore_n [(3, .int 0), (0, rf x.2.1 l0), (1, .int l1), (2, .int l2)] X dX5_tellChances_13 rfl (nlt hL (by decide)) rfl ?_
  exact r_hdr [(0, rf x.2.1 l0), (3, .int 0)] [1, 0] rfl (fun h => HH _ h h_l0)
set_option maxRecDepth 100000 in
noncomputable def gX5_tellChances (q : Nat × Nat × Int32 × Mm) : Option ((Nat × Nat × Int32 × Mm) ⊕ Unit × Mm) := match q.1 with
  | 1 => bX5_tellChances_14 (q.2.1) (q.2.2.1) (q.2.2.2)
  | _ => none
set_option maxRecDepth 100000 in
noncomputable def fX5_tellChances (l0 : Nat) (l1 : Int32) (l2 : Int32) (M : Mm) : Option (Unit × Mm) := fen gX5_tellChances (bX5_tellChances_0 l0 l1 l2 M)
set_option maxRecDepth 100000 in
set_option maxHeartbeats 4000000 in
theorem okX5_tellChances (l : Launch) (g : GX) (hJ : IJ g) {l0 : Nat} {l1 : Int32} {l2 : Int32} {M : Mm} (h_l0 : sh l0 = 15) : CT l g yX5_tellChances cX5_tellChances 4 none 0 [rf g l0, .int l1, .int l2] M (fX5_tellChances l0 l1 l2 M) (fun _ => none) := by
  refine ct_V rfl hJ (Nat.le_of_ble_eq_true rfl) (fun x r hg hL hl X hf Hr => ?_)
  subst hg
  have Hr2 : RTV x cX5_tellChances (Sum.elim (pX5_tellChances x) (fun q => q = r)) Sum.inr := fun M h => Hr M h
  have HP : ∀ q, fnl gX5_tellChances q = some r → pX5_tellChances x q := by
    intro q hq
    refine fnl_ind (pX5_tellChances x) (fun q hq => ?_) hq
    obtain ⟨n, l0, l3, M⟩ := q
    match n, hq with
    | 1, hq => exact fun h_l0 ls H locs hl hP hS => sX5_tellChances_14 X hL Hr2 (fun _ h => h) h_l0 hq ls H locs hl hP hS
    | 0, hq => exact trivial
    | n + 2, hq => exact trivial
  exact fun _ ls H locs hl hP hS => sX5_tellChances_0 X hL Hr2 (fun _ h => h) h_l0 (fen_w hf HP) ls H locs hl hP hS
/-! CrumbWood$Sight.cases()I -/
set_option maxRecDepth 100000 in
noncomputable def fX1_cases (l0 : Nat) (M : Mm) : Option (Int32 × Mm) := gfI M l0 4 fun v1 => cal (fJ6_bitCount_0f7a4 v1 M) fun v3 M2 => some ((((1 : Int32) <<< (v3 &&& 31)), M2))
set_option maxRecDepth 100000 in
set_option maxHeartbeats 4000000 in
theorem sX1_cases_0 {x : SB} {F : (Int32 × Mm) → Prop} (X : CX x cX1_cases RX1 1) (hL : x.2.2.2.1 = 1) (Hr : RTI x cX1_cases .int F (fun q => q)) {l0 : Nat} {M : Mm} (h_l0 : sh l0 = 11) : SIM x F (fX1_cases l0 M) 0 [(0, rf x.2.1 l0)] [] M := by
  unfold fX1_cases
  refine r_iconst (v := 1) X dX1_cases_0 (by decide) ?_
  refine r_aload_n X dX1_cases_1 rfl 0 rfl ?_
  refine r_getI X fl_X1_25 (by decide) h_l0 dX1_cases_2 (fun v1 => ?_)
  refine r_callSI [.int v1] X mt_X1_69 (by decide) (okJ6_bitCount_0f7a4 _ _ X.J) rfl (Nat.le_of_ble_eq_true rfl) dX1_cases_5 rfl (fun v3 M2 => ?_)
  refine r_ishl X dX1_cases_8 ?_
  exact r_iret Hr rfl dX1_cases_9
set_option maxRecDepth 100000 in
set_option maxHeartbeats 4000000 in
theorem okX1_cases (l : Launch) (g : GX) (hJ : IJ g) {l0 : Nat} {M : Mm} (h_l0 : sh l0 = 11) : CT l g yX1_cases cX1_cases 1 (some .int) 1 [rf g l0] M (fX1_cases l0 M) (fun r => some (.int r)) := by
  refine ct_I rfl hJ (Nat.le_of_ble_eq_true rfl) (fun x r hg hL hl X hf Hr => ?_)
  subst hg
  exact fun _ ls H locs hl hP hS => sX1_cases_0 X hL Hr h_l0 ⟨_, hf, rfl⟩ ls H locs hl hP hS
/-! CrumbWood$Sight.luckyCases(II)I -/
set_option maxRecDepth 100000 in
def pX1_luckyCases (x : SB) (q : Nat × Nat × Int32 × Int32 × Int32 × Int32 × Int32 × Int32 × Mm) : Prop := match q.1 with
  | 1 => sh q.2.1 = 11 → ∀ (ls : Array Slot) (H : Heap) (locs : List Loc), lv_has ls x.2.2.2.1 [(0, rf x.2.1 q.2.1), (1, .int q.2.2.1), (3, .int q.2.2.2.1), (4, .int q.2.2.2.2.1), (5, .int q.2.2.2.2.2.1), (6, .int q.2.2.2.2.2.2.1), (7, .int q.2.2.2.2.2.2.2.1)] → PW x.2.1 (q.2.2.2.2.2.2.2.2) H → SH x H locs → SW x H locs 24 ls []
  | _ => True
set_option maxRecDepth 100000 in
noncomputable def bX1_luckyCases_49 (l0 : Nat) (l1 : Int32) (l3 : Int32) (l4 : Int32) (l5 : Int32) (l6 : Int32) (l7 : Int32) (M : Mm) : Option ((Nat × Nat × Int32 × Int32 × Int32 × Int32 × Int32 × Int32 × Mm) ⊕ Int32 × Mm) := gfI M l0 4 fun v1 => ltI ((l6 - 1) &&& v1) fun v2 => some (.inl (1, l0, l1, l3, l4, l5, v2, (l7 + 1), M))
set_option maxRecDepth 100000 in
set_option maxHeartbeats 4000000 in
theorem sX1_luckyCases_49 {x : SB} {F : ((Nat × Nat × Int32 × Int32 × Int32 × Int32 × Int32 × Int32 × Mm) ⊕ Int32 × Mm) → Prop} (X : CX x cX1_luckyCases RX1 3) (hL : x.2.2.2.1 = 8) (Hr : RTI x cX1_luckyCases .int F Sum.inr) (HH : ∀ q, F (.inl q) → pX1_luckyCases x q) {l0 : Nat} {l1 : Int32} {l3 : Int32} {l4 : Int32} {l5 : Int32} {l6 : Int32} {l7 : Int32} {M : Mm} (h_l0 : sh l0 = 11) : SIM x F (bX1_luckyCases_49 l0 l1 l3 l4 l5 l6 l7 M) 49 [(0, rf x.2.1 l0), (1, .int l1), (3, .int l3), (4, .int l4), (5, .int l5), (6, .int l6), (7, .int l7)] [] M := by
  unfold bX1_luckyCases_49
  refine r_iload X dX1_luckyCases_49 5 rfl ?_
  refine r_iconst (v := 1) X dX1_luckyCases_51 (by decide) ?_
  refine r_isub X dX1_luckyCases_52 ?_
  refine r_aload_n X dX1_luckyCases_53 rfl 0 rfl ?_
  refine r_getI X fl_X1_25 (by decide) h_l0 dX1_luckyCases_54 (fun v1 => ?_)
  refine r_iand X dX1_luckyCases_57 ?_
  refine r_letI (fun v2 => ?_)
  refine r_istore [(6, .int v2), (0, rf x.2.1 l0), (1, .int l1), (3, .int l3), (4, .int l4), (5, .int l5), (7, .int l7)] X dX1_luckyCases_58 (nlt hL (by decide)) rfl ?_
  refine r_iinc [(7, .int (l7 + 1)), (6, .int v2), (0, rf x.2.1 l0), (1, .int l1), (3, .int l3), (4, .int l4), (5, .int l5)] X dX1_luckyCases_60 6 rfl rfl (nlt hL (by decide)) rfl ?_
  refine r_goto 24 X dX1_luckyCases_63 (by decide) ?_
  exact r_hdr [(0, rf x.2.1 l0), (1, .int l1), (3, .int l3), (4, .int l4), (5, .int l5), (6, .int v2), (7, .int (l7 + 1))] [2, 3, 4, 5, 6, 1, 0] rfl (fun h => HH _ h h_l0)
set_option maxRecDepth 100000 in
noncomputable def bX1_luckyCases_24 (l0 : Nat) (l1 : Int32) (l3 : Int32) (l4 : Int32) (l5 : Int32) (l6 : Int32) (l7 : Int32) (M : Mm) : Option ((Nat × Nat × Int32 × Int32 × Int32 × Int32 × Int32 × Int32 × Mm) ⊕ Int32 × Mm) := if l4 ≤ l7 then some (.inr (l5, M)) else gfI M l0 6 fun v3 => cal (fX1_follow l0 l1 l3 v3 l6 M) fun v5 M4 => if v5 = 0 then bX1_luckyCases_49 l0 l1 l3 l4 l5 l6 l7 M4 else bX1_luckyCases_49 l0 l1 l3 l4 (l5 + 1) l6 l7 M4
set_option maxRecDepth 100000 in
set_option maxHeartbeats 4000000 in
theorem sX1_luckyCases_24 {x : SB} {F : ((Nat × Nat × Int32 × Int32 × Int32 × Int32 × Int32 × Int32 × Mm) ⊕ Int32 × Mm) → Prop} (X : CX x cX1_luckyCases RX1 3) (hL : x.2.2.2.1 = 8) (Hr : RTI x cX1_luckyCases .int F Sum.inr) (HH : ∀ q, F (.inl q) → pX1_luckyCases x q) {l0 : Nat} {l1 : Int32} {l3 : Int32} {l4 : Int32} {l5 : Int32} {l6 : Int32} {l7 : Int32} {M : Mm} (h_l0 : sh l0 = 11) : SIM x F (bX1_luckyCases_24 l0 l1 l3 l4 l5 l6 l7 M) 24 [(0, rf x.2.1 l0), (1, .int l1), (3, .int l3), (4, .int l4), (5, .int l5), (6, .int l6), (7, .int l7)] [] M := by
  unfold bX1_luckyCases_24
  refine r_iload X dX1_luckyCases_24 6 rfl ?_
  refine r_iload X dX1_luckyCases_26 3 rfl ?_
  refine r_icmp_ge 66 X dX1_luckyCases_28 (by decide) ?_ ?_
  · refine r_iload X dX1_luckyCases_66 4 rfl ?_
    exact r_iret Hr rfl dX1_luckyCases_68
  · refine r_aload_n X dX1_luckyCases_31 rfl 0 rfl ?_
    refine r_iload_n X dX1_luckyCases_32 rfl 1 rfl ?_
    refine r_iload_n X dX1_luckyCases_33 rfl 2 rfl ?_
    refine r_aload_n X dX1_luckyCases_34 rfl 0 rfl ?_
    refine r_getI X fl_X1_31 (by decide) h_l0 dX1_luckyCases_35 (fun v3 => ?_)
    refine r_iload X dX1_luckyCases_38 5 rfl ?_
    refine r_callVI [.int l1, .int l3, .int v3, .int l6] X mt_X1_59 (by decide) h_l0 (by decide) (okX1_follow _ _ X.J h_l0) rfl (Nat.le_of_ble_eq_true rfl) dX1_luckyCases_40 rfl (fun v5 M4 => ?_)
    refine r_if_eq 49 X dX1_luckyCases_43 (by decide) ?_ ?_
    · exact r_to [(0, rf x.2.1 l0), (1, .int l1), (3, .int l3), (4, .int l4), (5, .int l5), (6, .int l6), (7, .int l7)] [0, 1, 2, 3, 4, 5, 6] rfl (sX1_luckyCases_49 X hL Hr HH h_l0)
    · refine r_iinc [(5, .int (l5 + 1)), (0, rf x.2.1 l0), (1, .int l1), (3, .int l3), (4, .int l4), (6, .int l6), (7, .int l7)] X dX1_luckyCases_46 4 rfl rfl (nlt hL (by decide)) rfl ?_
      exact r_to [(0, rf x.2.1 l0), (1, .int l1), (3, .int l3), (4, .int l4), (5, .int (l5 + 1)), (6, .int l6), (7, .int l7)] [1, 2, 3, 4, 0, 5, 6] rfl (sX1_luckyCases_49 X hL Hr HH h_l0)
set_option maxRecDepth 100000 in
noncomputable def bX1_luckyCases_0 (l0 : Nat) (l1 : Int32) (l2 : Int32) (M : Mm) : Option ((Nat × Nat × Int32 × Int32 × Int32 × Int32 × Int32 × Int32 × Mm) ⊕ Int32 × Mm) := cal (fX1_stonesWith l0 l2 M) fun v7 M6 => cal (fX1_cases l0 M6) fun v9 M8 => gfI M8 l0 4 fun v10 => some (.inl (1, l0, l1, v7, v9, 0, v10, 0, M8))
set_option maxRecDepth 100000 in
set_option maxHeartbeats 4000000 in
theorem sX1_luckyCases_0 {x : SB} {F : ((Nat × Nat × Int32 × Int32 × Int32 × Int32 × Int32 × Int32 × Mm) ⊕ Int32 × Mm) → Prop} (X : CX x cX1_luckyCases RX1 3) (hL : x.2.2.2.1 = 8) (Hr : RTI x cX1_luckyCases .int F Sum.inr) (HH : ∀ q, F (.inl q) → pX1_luckyCases x q) {l0 : Nat} {l1 : Int32} {l2 : Int32} {M : Mm} (h_l0 : sh l0 = 11) : SIM x F (bX1_luckyCases_0 l0 l1 l2 M) 0 [(0, rf x.2.1 l0), (1, .int l1), (2, .int l2)] [] M := by
  unfold bX1_luckyCases_0
  refine r_aload_n X dX1_luckyCases_0 rfl 0 rfl ?_
  refine r_iload_n X dX1_luckyCases_1 rfl 2 rfl ?_
  refine r_callVI [.int l2] X mt_X1_66 (by decide) h_l0 (by decide) (okX1_stonesWith _ _ X.J h_l0) rfl (Nat.le_of_ble_eq_true rfl) dX1_luckyCases_2 rfl (fun v7 M6 => ?_)
  refine r_istore_n [(3, .int v7), (0, rf x.2.1 l0), (1, .int l1), (2, .int l2)] X dX1_luckyCases_5 rfl (nlt hL (by decide)) rfl ?_
  refine r_aload_n X dX1_luckyCases_6 rfl 1 rfl ?_
  refine r_callVI [] X mt_X1_78 (by decide) h_l0 (by decide) (okX1_cases _ _ X.J h_l0) rfl (Nat.le_of_ble_eq_true rfl) dX1_luckyCases_7 rfl (fun v9 M8 => ?_)
  refine r_istore [(4, .int v9), (3, .int v7), (0, rf x.2.1 l0), (1, .int l1), (2, .int l2)] X dX1_luckyCases_10 (nlt hL (by decide)) rfl ?_
  refine r_iconst (v := 0) X dX1_luckyCases_12 (by decide) ?_
  refine r_istore [(5, .int 0), (4, .int v9), (3, .int v7), (0, rf x.2.1 l0), (1, .int l1), (2, .int l2)] X dX1_luckyCases_13 (nlt hL (by decide)) rfl ?_
  refine r_aload_n X dX1_luckyCases_15 rfl 3 rfl ?_
  refine r_getI X fl_X1_25 (by decide) h_l0 dX1_luckyCases_16 (fun v10 => ?_)
  refine r_istore [(6, .int v10), (5, .int 0), (4, .int v9), (3, .int v7), (0, rf x.2.1 l0), (1, .int l1), (2, .int l2)] X dX1_luckyCases_19 (nlt hL (by decide)) rfl ?_
  refine r_iconst (v := 0) X dX1_luckyCases_21 (by decide) ?_
  refine r_istore [(7, .int 0), (6, .int v10), (5, .int 0), (4, .int v9), (3, .int v7), (0, rf x.2.1 l0), (1, .int l1), (2, .int l2)] X dX1_luckyCases_22 (nlt hL (by decide)) rfl ?_
  exact r_hdr [(0, rf x.2.1 l0), (1, .int l1), (3, .int v7), (4, .int v9), (5, .int 0), (6, .int v10), (7, .int 0)] [5, 6, 4, 3, 2, 1, 0] rfl (fun h => HH _ h h_l0)
set_option maxRecDepth 100000 in
noncomputable def gX1_luckyCases (q : Nat × Nat × Int32 × Int32 × Int32 × Int32 × Int32 × Int32 × Mm) : Option ((Nat × Nat × Int32 × Int32 × Int32 × Int32 × Int32 × Int32 × Mm) ⊕ Int32 × Mm) := match q.1 with
  | 1 => bX1_luckyCases_24 (q.2.1) (q.2.2.1) (q.2.2.2.1) (q.2.2.2.2.1) (q.2.2.2.2.2.1) (q.2.2.2.2.2.2.1) (q.2.2.2.2.2.2.2.1) (q.2.2.2.2.2.2.2.2)
  | _ => none
set_option maxRecDepth 100000 in
noncomputable def fX1_luckyCases (l0 : Nat) (l1 : Int32) (l2 : Int32) (M : Mm) : Option (Int32 × Mm) := fen gX1_luckyCases (bX1_luckyCases_0 l0 l1 l2 M)
set_option maxRecDepth 100000 in
set_option maxHeartbeats 4000000 in
theorem okX1_luckyCases (l : Launch) (g : GX) (hJ : IJ g) {l0 : Nat} {l1 : Int32} {l2 : Int32} {M : Mm} (h_l0 : sh l0 = 11) : CT l g yX1_luckyCases cX1_luckyCases 8 (some .int) 3 [rf g l0, .int l1, .int l2] M (fX1_luckyCases l0 l1 l2 M) (fun r => some (.int r)) := by
  refine ct_I rfl hJ (Nat.le_of_ble_eq_true rfl) (fun x r hg hL hl X hf Hr => ?_)
  subst hg
  have Hr2 : RTI x cX1_luckyCases .int (Sum.elim (pX1_luckyCases x) (fun q => q = r)) Sum.inr := fun v M h => Hr v M h
  have HP : ∀ q, fnl gX1_luckyCases q = some r → pX1_luckyCases x q := by
    intro q hq
    refine fnl_ind (pX1_luckyCases x) (fun q hq => ?_) hq
    obtain ⟨n, l0, l1, l3, l4, l5, l6, l7, M⟩ := q
    match n, hq with
    | 1, hq => exact fun h_l0 ls H locs hl hP hS => sX1_luckyCases_24 X hL Hr2 (fun _ h => h) h_l0 hq ls H locs hl hP hS
    | 0, hq => exact trivial
    | n + 2, hq => exact trivial
  exact fun _ ls H locs hl hP hS => sX1_luckyCases_0 X hL Hr2 (fun _ h => h) h_l0 (fen_w hf HP) ls H locs hl hP hS
/-! CrumbWood.best()I -/
set_option maxRecDepth 100000 in
def pX5_best (x : SB) (q : Nat × Nat × Int32 × Int32 × Int32 × Mm) : Prop := match q.1 with
  | 1 => sh q.2.1 = 15 → ∀ (ls : Array Slot) (H : Heap) (locs : List Loc), lv_has ls x.2.2.2.1 [(0, rf x.2.1 q.2.1), (1, .int q.2.2.1), (2, .int q.2.2.2.1), (3, .int q.2.2.2.2.1)] → PW x.2.1 (q.2.2.2.2.2) H → SH x H locs → SW x H locs 30 ls []
  | _ => True
set_option maxRecDepth 100000 in
noncomputable def bX5_best_71 (l0 : Nat) (l1 : Int32) (l2 : Int32) (l3 : Int32) (M : Mm) : Option ((Nat × Nat × Int32 × Int32 × Int32 × Mm) ⊕ Int32 × Mm) := some (.inl (1, l0, l1, l2, (l3 + 1), M))
set_option maxRecDepth 100000 in
set_option maxHeartbeats 4000000 in
theorem sX5_best_71 {x : SB} {F : ((Nat × Nat × Int32 × Int32 × Int32 × Mm) ⊕ Int32 × Mm) → Prop} (X : CX x cX5_best RX5 4) (hL : x.2.2.2.1 = 5) (Hr : RTI x cX5_best .int F Sum.inr) (HH : ∀ q, F (.inl q) → pX5_best x q) {l0 : Nat} {l1 : Int32} {l2 : Int32} {l3 : Int32} {M : Mm} (h_l0 : sh l0 = 15) : SIM x F (bX5_best_71 l0 l1 l2 l3 M) 71 [(0, rf x.2.1 l0), (1, .int l1), (2, .int l2), (3, .int l3)] [] M := by
  unfold bX5_best_71
  refine r_iinc [(3, .int (l3 + 1)), (0, rf x.2.1 l0), (1, .int l1), (2, .int l2)] X dX5_best_71 3 rfl rfl (nlt hL (by decide)) rfl ?_
  refine r_goto 30 X dX5_best_74 (by decide) ?_
  exact r_hdr [(0, rf x.2.1 l0), (1, .int l1), (2, .int l2), (3, .int (l3 + 1))] [1, 2, 3, 0] rfl (fun h => HH _ h h_l0)
set_option maxRecDepth 100000 in
noncomputable def bX5_best_30 (l0 : Nat) (l1 : Int32) (l2 : Int32) (l3 : Int32) (M : Mm) : Option ((Nat × Nat × Int32 × Int32 × Int32 × Mm) ⊕ Int32 × Mm) := gfR M 14 l0 2 fun v1 => gfI M v1 0 fun v2 => if v2 ≤ l3 then gfR M 11 l0 6 fun v3 => cal (fX1_cases v3 M) fun v5 M4 => cal (fX5_tellChances l0 l2 v5 M4) fun _ M6 => some (.inr (l1, M6)) else gfR M 11 l0 6 fun v7 => gfR M 14 l0 2 fun v8 => cal (fX4_standing v8 M) fun v10 M9 => cal (fX1_luckyCases v7 v10 ((1 : Int32) <<< (l3 &&& 31)) M9) fun v12 M11 => if v12 ≤ l2 then bX5_best_71 l0 l1 l2 l3 M11 else bX5_best_71 l0 l3 v12 l3 M11
set_option maxRecDepth 100000 in
set_option maxHeartbeats 4000000 in
theorem sX5_best_30 {x : SB} {F : ((Nat × Nat × Int32 × Int32 × Int32 × Mm) ⊕ Int32 × Mm) → Prop} (X : CX x cX5_best RX5 4) (hL : x.2.2.2.1 = 5) (Hr : RTI x cX5_best .int F Sum.inr) (HH : ∀ q, F (.inl q) → pX5_best x q) {l0 : Nat} {l1 : Int32} {l2 : Int32} {l3 : Int32} {M : Mm} (h_l0 : sh l0 = 15) : SIM x F (bX5_best_30 l0 l1 l2 l3 M) 30 [(0, rf x.2.1 l0), (1, .int l1), (2, .int l2), (3, .int l3)] [] M := by
  unfold bX5_best_30
  refine r_iload_n X dX5_best_30 rfl 3 rfl ?_
  refine r_aload_n X dX5_best_31 rfl 0 rfl ?_
  refine r_getR X fl_X5_21 (by decide) h_l0 dX5_best_32 (fun v1 h_v1 => ?_)
  refine r_getI X fl_X5_120 (by decide) h_v1 dX5_best_35 (fun v2 => ?_)
  refine r_icmp_ge 77 X dX5_best_38 (by decide) ?_ ?_
  · refine r_aload_n X dX5_best_77 rfl 0 rfl ?_
    refine r_iload_n X dX5_best_78 rfl 2 rfl ?_
    refine r_aload_n X dX5_best_79 rfl 0 rfl ?_
    refine r_getR X fl_X5_42 (by decide) h_l0 dX5_best_80 (fun v3 h_v3 => ?_)
    refine r_callVI [] X mt_X5_246 (by decide) h_v3 (by decide) (okX1_cases _ _ X.J h_v3) rfl (Nat.le_of_ble_eq_true rfl) dX5_best_83 rfl (fun v5 M4 => ?_)
    refine r_callVV [.int l2, .int v5] X mt_X5_249 (by decide) h_l0 (by decide) (okX5_tellChances _ _ X.J h_l0) rfl (Nat.le_of_ble_eq_true rfl) dX5_best_86 rfl (fun _ M6 => ?_)
    refine r_iload_n X dX5_best_89 rfl 1 rfl ?_
    exact r_iret Hr rfl dX5_best_90
  · refine r_aload_n X dX5_best_41 rfl 0 rfl ?_
    refine r_getR X fl_X5_42 (by decide) h_l0 dX5_best_42 (fun v7 h_v7 => ?_)
    refine r_aload_n X dX5_best_45 rfl 0 rfl ?_
    refine r_getR X fl_X5_21 (by decide) h_l0 dX5_best_46 (fun v8 h_v8 => ?_)
    refine r_callVI [] X mt_X5_180 (by decide) h_v8 (by decide) (okX4_standing _ _ X.J h_v8) rfl (Nat.le_of_ble_eq_true rfl) dX5_best_49 rfl (fun v10 M9 => ?_)
    refine r_iconst (v := 1) X dX5_best_52 (by decide) ?_
    refine r_iload_n X dX5_best_53 rfl 3 rfl ?_
    refine r_ishl X dX5_best_54 ?_
    refine r_callVI [.int v10, .int ((1 : Int32) <<< (l3 &&& 31))] X mt_X5_243 (by decide) h_v7 (by decide) (okX1_luckyCases _ _ X.J h_v7) rfl (Nat.le_of_ble_eq_true rfl) dX5_best_55 rfl (fun v12 M11 => ?_)
    refine r_istore [(4, .int v12), (0, rf x.2.1 l0), (1, .int l1), (2, .int l2), (3, .int l3)] X dX5_best_58 (nlt hL (by decide)) rfl ?_
    refine r_iload X dX5_best_60 0 rfl ?_
    refine r_iload_n X dX5_best_62 rfl 3 rfl ?_
    refine r_icmp_le 71 X dX5_best_63 (by decide) ?_ ?_
    · exact r_to [(0, rf x.2.1 l0), (1, .int l1), (2, .int l2), (3, .int l3)] [1, 2, 3, 4] rfl (sX5_best_71 X hL Hr HH h_l0)
    · refine r_iload X dX5_best_66 0 rfl ?_
      refine r_istore_n [(2, .int v12), (4, .int v12), (0, rf x.2.1 l0), (1, .int l1), (3, .int l3)] X dX5_best_68 rfl (nlt hL (by decide)) rfl ?_
      refine r_iload_n X dX5_best_69 rfl 4 rfl ?_
      refine r_istore_n [(1, .int l3), (2, .int v12), (4, .int v12), (0, rf x.2.1 l0), (3, .int l3)] X dX5_best_70 rfl (nlt hL (by decide)) rfl ?_
      exact r_to [(0, rf x.2.1 l0), (1, .int l3), (2, .int v12), (3, .int l3)] [3, 0, 1, 4] rfl (sX5_best_71 X hL Hr HH h_l0)
set_option maxRecDepth 100000 in
noncomputable def bX5_best_0 (l0 : Nat) (M : Mm) : Option ((Nat × Nat × Int32 × Int32 × Int32 × Mm) ⊕ Int32 × Mm) := gfR M 14 l0 2 fun v13 => cal (fX4_isEmpty v13 M) fun v15 M14 => if v15 = 0 then gfR M14 11 l0 6 fun v16 => gfR M14 14 l0 2 fun v17 => cal (fX1_look v16 v17 M14) fun _ M18 => some (.inl (1, l0, 0, (-1), 0, M18)) else some (.inr ((-4), M14))
set_option maxRecDepth 100000 in
set_option maxHeartbeats 4000000 in
theorem sX5_best_0 {x : SB} {F : ((Nat × Nat × Int32 × Int32 × Int32 × Mm) ⊕ Int32 × Mm) → Prop} (X : CX x cX5_best RX5 4) (hL : x.2.2.2.1 = 5) (Hr : RTI x cX5_best .int F Sum.inr) (HH : ∀ q, F (.inl q) → pX5_best x q) {l0 : Nat} {M : Mm} (h_l0 : sh l0 = 15) : SIM x F (bX5_best_0 l0 M) 0 [(0, rf x.2.1 l0)] [] M := by
  unfold bX5_best_0
  refine r_aload_n X dX5_best_0 rfl 0 rfl ?_
  refine r_getR X fl_X5_21 (by decide) h_l0 dX5_best_1 (fun v13 h_v13 => ?_)
  refine r_callVI [] X mt_X5_199 (by decide) h_v13 (by decide) (okX4_isEmpty _ _ X.J h_v13) rfl (Nat.le_of_ble_eq_true rfl) dX5_best_4 rfl (fun v15 M14 => ?_)
  refine r_if_eq 13 X dX5_best_7 (by decide) ?_ ?_
  · refine r_aload_n X dX5_best_13 rfl 0 rfl ?_
    refine r_getR X fl_X5_42 (by decide) h_l0 dX5_best_14 (fun v16 h_v16 => ?_)
    refine r_aload_n X dX5_best_17 rfl 0 rfl ?_
    refine r_getR X fl_X5_21 (by decide) h_l0 dX5_best_18 (fun v17 h_v17 => ?_)
    refine r_callVV [rf x.2.1 v17] X mt_X5_240 (by decide) h_v16 (by decide) (okX1_look _ _ X.J h_v16 h_v17) rfl (Nat.le_of_ble_eq_true rfl) dX5_best_21 rfl (fun _ M18 => ?_)
    refine r_iconst (v := 0) X dX5_best_24 (by decide) ?_
    refine r_istore_n [(1, .int 0), (0, rf x.2.1 l0)] X dX5_best_25 rfl (nlt hL (by decide)) rfl ?_
    refine r_iconst (v := (-1)) X dX5_best_26 (by decide) ?_
    refine r_istore_n [(2, .int (-1)), (1, .int 0), (0, rf x.2.1 l0)] X dX5_best_27 rfl (nlt hL (by decide)) rfl ?_
    refine r_iconst (v := 0) X dX5_best_28 (by decide) ?_
    refine r_istore_n [(3, .int 0), (2, .int (-1)), (1, .int 0), (0, rf x.2.1 l0)] X dX5_best_29 rfl (nlt hL (by decide)) rfl ?_
    exact r_hdr [(0, rf x.2.1 l0), (1, .int 0), (2, .int (-1)), (3, .int 0)] [3, 2, 1, 0] rfl (fun h => HH _ h h_l0)
  · refine r_bipush (v := (-4)) X dX5_best_10 (by decide) ?_
    exact r_iret Hr rfl dX5_best_12
set_option maxRecDepth 100000 in
noncomputable def gX5_best (q : Nat × Nat × Int32 × Int32 × Int32 × Mm) : Option ((Nat × Nat × Int32 × Int32 × Int32 × Mm) ⊕ Int32 × Mm) := match q.1 with
  | 1 => bX5_best_30 (q.2.1) (q.2.2.1) (q.2.2.2.1) (q.2.2.2.2.1) (q.2.2.2.2.2)
  | _ => none
set_option maxRecDepth 100000 in
noncomputable def fX5_best (l0 : Nat) (M : Mm) : Option (Int32 × Mm) := fen gX5_best (bX5_best_0 l0 M)
set_option maxRecDepth 100000 in
set_option maxHeartbeats 4000000 in
theorem okX5_best (l : Launch) (g : GX) (hJ : IJ g) {l0 : Nat} {M : Mm} (h_l0 : sh l0 = 15) : CT l g yX5_best cX5_best 5 (some .int) 4 [rf g l0] M (fX5_best l0 M) (fun r => some (.int r)) := by
  refine ct_I rfl hJ (Nat.le_of_ble_eq_true rfl) (fun x r hg hL hl X hf Hr => ?_)
  subst hg
  have Hr2 : RTI x cX5_best .int (Sum.elim (pX5_best x) (fun q => q = r)) Sum.inr := fun v M h => Hr v M h
  have HP : ∀ q, fnl gX5_best q = some r → pX5_best x q := by
    intro q hq
    refine fnl_ind (pX5_best x) (fun q hq => ?_) hq
    obtain ⟨n, l0, l1, l2, l3, M⟩ := q
    match n, hq with
    | 1, hq => exact fun h_l0 ls H locs hl hP hS => sX5_best_30 X hL Hr2 (fun _ h => h) h_l0 hq ls H locs hl hP hS
    | 0, hq => exact trivial
    | n + 2, hq => exact trivial
  exact fun _ ls H locs hl hP hS => sX5_best_0 X hL Hr2 (fun _ h => h) h_l0 (fen_w hf HP) ls H locs hl hP hS

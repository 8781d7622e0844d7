/-! CrumbWoodModel.path(III)I -/
set_option maxRecDepth 100000 in
noncomputable def bX6_path_82 (l4 : Int32) (M : Mm) : Option (Int32 × Mm) := some ((l4, M))
set_option maxRecDepth 100000 in
set_option maxHeartbeats 4000000 in
theorem sX6_path_82 {x : SB} {F : (Int32 × Mm) → Prop} (X : CX x cX6_path RX6 2) (hL : x.2.2.2.1 = 5) (Hr : RTI x cX6_path .int F (fun q => q)) {l4 : Int32} {M : Mm}  : SIM x F (bX6_path_82 l4 M) 82 [(4, .int l4)] [] M := by
  unfold bX6_path_82
  refine r_iload X dX6_path_82 0 rfl ?_
  exact r_iret Hr rfl dX6_path_84
set_option maxRecDepth 100000 in
noncomputable def bX6_path_50 (l0 : Nat) (l1 : Int32) (l2 : Int32) (l3 : Int32) (s0 : Int32) (M : Mm) : Option (Int32 × Mm) := if s0 = l3 then bX6_path_82 s0 M else gfR M 0 l0 13 fun v1 => ldI M v1 l1 fun v2 => stI M v1 l1 (v2 ^^^ ((1 : Int32) <<< (l2 &&& 31))) fun M3 => gfR M3 0 l0 13 fun v4 => ldI M3 v4 l2 fun v5 => stI M3 v4 l2 (v5 ^^^ ((1 : Int32) <<< (l1 &&& 31))) fun M6 => bX6_path_82 s0 M6
set_option maxRecDepth 100000 in
set_option maxHeartbeats 4000000 in
theorem sX6_path_50 {x : SB} {F : (Int32 × Mm) → Prop} (X : CX x cX6_path RX6 2) (hL : x.2.2.2.1 = 5) (Hr : RTI x cX6_path .int F (fun q => q)) {l0 : Nat} {l1 : Int32} {l2 : Int32} {l3 : Int32} {s0 : Int32} {M : Mm} (h_l0 : sh l0 = 16) : SIM x F (bX6_path_50 l0 l1 l2 l3 s0 M) 50 [(0, rf x.2.1 l0), (1, .int l1), (2, .int l2), (3, .int l3)] [.int s0] M := by
  unfold bX6_path_50
  refine r_istore [(4, .int s0), (0, rf x.2.1 l0), (1, .int l1), (2, .int l2), (3, .int l3)] X dX6_path_50 (nlt hL (by decide)) rfl ?_
  refine r_iload X dX6_path_52 0 rfl ?_
  refine r_iload_n X dX6_path_54 rfl 4 rfl ?_
  refine r_icmp_eq 82 X dX6_path_55 (by decide) ?_ ?_
  · exact r_to [(4, .int s0)] [0] rfl (sX6_path_82 X hL Hr)
  · refine r_aload_n X dX6_path_58 rfl 1 rfl ?_
    refine r_getR X fl_X6_36 (by decide) h_l0 dX6_path_59 (fun v1 h_v1 => ?_)
    refine r_iload_n X dX6_path_62 rfl 2 rfl ?_
    refine r_dup2 X dX6_path_63 rfl rfl ?_
    refine r_iald X h_v1 dX6_path_64 (fun v2 => ?_)
    refine r_iconst (v := 1) X dX6_path_65 (by decide) ?_
    refine r_iload_n X dX6_path_66 rfl 3 rfl ?_
    refine r_ishl X dX6_path_67 ?_
    refine r_ixor X dX6_path_68 ?_
    refine r_iast X h_v1 dX6_path_69 (fun M3 => ?_)
    refine r_aload_n X dX6_path_70 rfl 1 rfl ?_
    refine r_getR X fl_X6_36 (by decide) h_l0 dX6_path_71 (fun v4 h_v4 => ?_)
    refine r_iload_n X dX6_path_74 rfl 3 rfl ?_
    refine r_dup2 X dX6_path_75 rfl rfl ?_
    refine r_iald X h_v4 dX6_path_76 (fun v5 => ?_)
    refine r_iconst (v := 1) X dX6_path_77 (by decide) ?_
    refine r_iload_n X dX6_path_78 rfl 2 rfl ?_
    refine r_ishl X dX6_path_79 ?_
    refine r_ixor X dX6_path_80 ?_
    refine r_iast X h_v4 dX6_path_81 (fun M6 => ?_)
    exact r_to [(4, .int s0)] [0] rfl (sX6_path_82 X hL Hr)
set_option maxRecDepth 100000 in
noncomputable def bX6_path_30  (M : Mm) : Option (Int32 × Mm) := some (((-1), M))
set_option maxRecDepth 100000 in
set_option maxHeartbeats 4000000 in
theorem sX6_path_30 {x : SB} {F : (Int32 × Mm) → Prop} (X : CX x cX6_path RX6 2) (hL : x.2.2.2.1 = 5) (Hr : RTI x cX6_path .int F (fun q => q))  {M : Mm}  : SIM x F (bX6_path_30  M) 30 [] [] M := by
  unfold bX6_path_30
  refine r_iconst (v := (-1)) X dX6_path_30 (by decide) ?_
  exact r_iret Hr rfl dX6_path_31
set_option maxRecDepth 100000 in
noncomputable def fX6_path (l0 : Nat) (l1 : Int32) (l2 : Int32) (l3 : Int32) (M : Mm) : Option (Int32 × Mm) := cal (fX6_isPlace l0 l1 M) fun v8 M7 => if v8 = 0 then bX6_path_30 M7 else cal (fX6_isPlace l0 l2 M7) fun v10 M9 => if v10 = 0 then bX6_path_30 M9 else if l1 = l2 then bX6_path_30 M9 else cal (fX6_in l3 0 1 M9) fun v12 M11 => if v12 = 0 then bX6_path_30 M11 else gfR M11 0 l0 13 fun v13 => ldI M11 v13 l1 fun v14 => cal (fX6_has v14 l2 M11) fun v16 M15 => if v16 = 0 then bX6_path_50 l0 l1 l2 l3 0 M15 else bX6_path_50 l0 l1 l2 l3 1 M15
set_option maxRecDepth 100000 in
set_option maxHeartbeats 4000000 in
theorem sX6_path_0 {x : SB} {F : (Int32 × Mm) → Prop} (X : CX x cX6_path RX6 2) (hL : x.2.2.2.1 = 5) (Hr : RTI x cX6_path .int F (fun q => q)) {l0 : Nat} {l1 : Int32} {l2 : Int32} {l3 : Int32} {M : Mm} (h_l0 : sh l0 = 16) : SIM x F (fX6_path l0 l1 l2 l3 M) 0 [(0, rf x.2.1 l0), (1, .int l1), (2, .int l2), (3, .int l3)] [] M := by
  unfold fX6_path
  refine r_aload_n X dX6_path_0 rfl 0 rfl ?_
  refine r_iload_n X dX6_path_1 rfl 1 rfl ?_
  refine r_callVI [.int l1] X mt_X6_211 (by decide) h_l0 (by decide) (okX6_isPlace _ _ X.J h_l0) rfl (Nat.le_of_ble_eq_true rfl) dX6_path_2 rfl (fun v8 M7 => ?_)
  refine r_if_eq 30 X dX6_path_5 (by decide) ?_ ?_
  · exact r_to [] [] rfl (sX6_path_30 X hL Hr)
  · refine r_aload_n X dX6_path_8 rfl 0 rfl ?_
    refine r_iload_n X dX6_path_9 rfl 2 rfl ?_
    refine r_callVI [.int l2] X mt_X6_211 (by decide) h_l0 (by decide) (okX6_isPlace _ _ X.J h_l0) rfl (Nat.le_of_ble_eq_true rfl) dX6_path_10 rfl (fun v10 M9 => ?_)
    refine r_if_eq 30 X dX6_path_13 (by decide) ?_ ?_
    · exact r_to [] [] rfl (sX6_path_30 X hL Hr)
    · refine r_iload_n X dX6_path_16 rfl 1 rfl ?_
      refine r_iload_n X dX6_path_17 rfl 2 rfl ?_
      refine r_icmp_eq 30 X dX6_path_18 (by decide) ?_ ?_
      · exact r_to [] [] rfl (sX6_path_30 X hL Hr)
      · refine r_iload_n X dX6_path_21 rfl 3 rfl ?_
        refine r_iconst (v := 0) X dX6_path_22 (by decide) ?_
        refine r_iconst (v := 1) X dX6_path_23 (by decide) ?_
        refine r_callSI [.int l3, .int 0, .int 1] X mt_X6_92 (by decide) (okX6_in _ _ X.J) rfl (Nat.le_of_ble_eq_true rfl) dX6_path_24 rfl (fun v12 M11 => ?_)
        refine r_if_ne 32 X dX6_path_27 (by decide) ?_ ?_
        · exact r_to [] [] rfl (sX6_path_30 X hL Hr)
        · refine r_aload_n X dX6_path_32 rfl 0 rfl ?_
          refine r_getR X fl_X6_36 (by decide) h_l0 dX6_path_33 (fun v13 h_v13 => ?_)
          refine r_iload_n X dX6_path_36 rfl 1 rfl ?_
          refine r_iald X h_v13 dX6_path_37 (fun v14 => ?_)
          refine r_iload_n X dX6_path_38 rfl 2 rfl ?_
          refine r_callSI [.int v14, .int l2] X mt_X6_145 (by decide) (okX6_has _ _ X.J) rfl (Nat.le_of_ble_eq_true rfl) dX6_path_39 rfl (fun v16 M15 => ?_)
          refine r_if_eq 49 X dX6_path_42 (by decide) ?_ ?_
          · refine r_iconst (v := 0) X dX6_path_49 (by decide) ?_
            exact r_to [(0, rf x.2.1 l0), (1, .int l1), (2, .int l2), (3, .int l3)] [0, 1, 2, 3] rfl (sX6_path_50 X hL Hr h_l0)
          · refine r_iconst (v := 1) X dX6_path_45 (by decide) ?_
            refine r_goto 50 X dX6_path_46 (by decide) ?_
            exact r_to [(0, rf x.2.1 l0), (1, .int l1), (2, .int l2), (3, .int l3)] [0, 1, 2, 3] rfl (sX6_path_50 X hL Hr h_l0)
set_option maxRecDepth 100000 in
set_option maxHeartbeats 4000000 in
theorem okX6_path (l : Launch) (g : GX) (hJ : IJ g) {l0 : Nat} {l1 : Int32} {l2 : Int32} {l3 : Int32} {M : Mm} (h_l0 : sh l0 = 16) : CT l g yX6_path cX6_path 5 (some .int) 2 [rf g l0, .int l1, .int l2, .int l3] M (fX6_path l0 l1 l2 l3 M) (fun r => some (.int r)) := by
  refine ct_I rfl hJ (Nat.le_of_ble_eq_true rfl) (fun x r hg hL hl X hf Hr => ?_)
  subst hg
  exact fun _ ls H locs hl hP hS => sX6_path_0 X hL Hr h_l0 ⟨_, hf, rfl⟩ ls H locs hl hP hS
/-! CrumbWoodModel.place(II)I -/
set_option maxRecDepth 100000 in
noncomputable def bX6_place_31  (M : Mm) : Option (Int32 × Mm) := some (((-1), M))
set_option maxRecDepth 100000 in
set_option maxHeartbeats 4000000 in
theorem sX6_place_31 {x : SB} {F : (Int32 × Mm) → Prop} (X : CX x cX6_place RX6 4) (hL : x.2.2.2.1 = 3) (Hr : RTI x cX6_place .int F (fun q => q))  {M : Mm}  : SIM x F (bX6_place_31  M) 31 [] [] M := by
  unfold bX6_place_31
  refine r_iconst (v := (-1)) X dX6_place_31 (by decide) ?_
  exact r_iret Hr rfl dX6_place_32
set_option maxRecDepth 100000 in
noncomputable def fX6_place (l0 : Nat) (l1 : Int32) (l2 : Int32) (M : Mm) : Option (Int32 × Mm) := cal (fX6_isPlace l0 l1 M) fun v2 M1 => if v2 = 0 then bX6_place_31 M1 else cal (fX6_in l2 0 5 M1) fun v4 M3 => if v4 = 0 then bX6_place_31 M3 else cal (fX6_placeTells l0 l1 l2 M3) fun v6 M5 => cal (fX6_tells l0 v6 1 M5) fun v8 M7 => some ((v8, M7))
set_option maxRecDepth 100000 in
set_option maxHeartbeats 4000000 in
theorem sX6_place_0 {x : SB} {F : (Int32 × Mm) → Prop} (X : CX x cX6_place RX6 4) (hL : x.2.2.2.1 = 3) (Hr : RTI x cX6_place .int F (fun q => q)) {l0 : Nat} {l1 : Int32} {l2 : Int32} {M : Mm} (h_l0 : sh l0 = 16) : SIM x F (fX6_place l0 l1 l2 M) 0 [(0, rf x.2.1 l0), (1, .int l1), (2, .int l2)] [] M := by
  unfold fX6_place
  refine r_aload_n X dX6_place_0 rfl 0 rfl ?_
  refine r_iload_n X dX6_place_1 rfl 1 rfl ?_
  refine r_callVI [.int l1] X mt_X6_211 (by decide) h_l0 (by decide) (okX6_isPlace _ _ X.J h_l0) rfl (Nat.le_of_ble_eq_true rfl) dX6_place_2 rfl (fun v2 M1 => ?_)
  refine r_if_eq 31 X dX6_place_5 (by decide) ?_ ?_
  · exact r_to [] [] rfl (sX6_place_31 X hL Hr)
  · refine r_iload_n X dX6_place_8 rfl 2 rfl ?_
    refine r_iconst (v := 0) X dX6_place_9 (by decide) ?_
    refine r_iconst (v := 5) X dX6_place_10 (by decide) ?_
    refine r_callSI [.int l2, .int 0, .int 5] X mt_X6_92 (by decide) (okX6_in _ _ X.J) rfl (Nat.le_of_ble_eq_true rfl) dX6_place_11 rfl (fun v4 M3 => ?_)
    refine r_if_eq 31 X dX6_place_14 (by decide) ?_ ?_
    · exact r_to [] [] rfl (sX6_place_31 X hL Hr)
    · refine r_aload_n X dX6_place_17 rfl 0 rfl ?_
      refine r_aload_n X dX6_place_18 rfl 0 rfl ?_
      refine r_iload_n X dX6_place_19 rfl 1 rfl ?_
      refine r_iload_n X dX6_place_20 rfl 2 rfl ?_
      refine r_callVI [.int l1, .int l2] X mt_X6_214 (by decide) h_l0 (by decide) (okX6_placeTells _ _ X.J h_l0) rfl (Nat.le_of_ble_eq_true rfl) dX6_place_21 rfl (fun v6 M5 => ?_)
      refine r_iconst (v := 1) X dX6_place_24 (by decide) ?_
      refine r_callVI [.int v6, .int 1] X mt_X6_114 (by decide) h_l0 (by decide) (okX6_tells _ _ X.J h_l0) rfl (Nat.le_of_ble_eq_true rfl) dX6_place_25 rfl (fun v8 M7 => ?_)
      refine r_goto 32 X dX6_place_28 (by decide) ?_
      exact r_iret Hr rfl dX6_place_32
set_option maxRecDepth 100000 in
set_option maxHeartbeats 4000000 in
theorem okX6_place (l : Launch) (g : GX) (hJ : IJ g) {l0 : Nat} {l1 : Int32} {l2 : Int32} {M : Mm} (h_l0 : sh l0 = 16) : CT l g yX6_place cX6_place 3 (some .int) 4 [rf g l0, .int l1, .int l2] M (fX6_place l0 l1 l2 M) (fun r => some (.int r)) := by
  refine ct_I rfl hJ (Nat.le_of_ble_eq_true rfl) (fun x r hg hL hl X hf Hr => ?_)
  subst hg
  exact fun _ ls H locs hl hP hS => sX6_place_0 X hL Hr h_l0 ⟨_, hf, rfl⟩ ls H locs hl hP hS
/-! CrumbWoodModel.pocket(I)I -/
set_option maxRecDepth 100000 in
noncomputable def fX6_pocket (l0 : Nat) (l1 : Int32) (M : Mm) : Option (Int32 × Mm) := cal (fX6_in l1 0 2 M) fun v2 M1 => if v2 = 0 then some (((-1), M1)) else cal (fX6_v l0 0 36 l1 M1) fun v4 M3 => some ((v4, M3))
set_option maxRecDepth 100000 in
set_option maxHeartbeats 4000000 in
theorem sX6_pocket_0 {x : SB} {F : (Int32 × Mm) → Prop} (X : CX x cX6_pocket RX6 1) (hL : x.2.2.2.1 = 2) (Hr : RTI x cX6_pocket .int F (fun q => q)) {l0 : Nat} {l1 : Int32} {M : Mm} (h_l0 : sh l0 = 16) : SIM x F (fX6_pocket l0 l1 M) 0 [(0, rf x.2.1 l0), (1, .int l1)] [] M := by
  unfold fX6_pocket
  refine r_iload_n X dX6_pocket_0 rfl 1 rfl ?_
  refine r_iconst (v := 0) X dX6_pocket_1 (by decide) ?_
  refine r_iconst (v := 2) X dX6_pocket_2 (by decide) ?_
  refine r_callSI [.int l1, .int 0, .int 2] X mt_X6_92 (by decide) (okX6_in _ _ X.J) rfl (Nat.le_of_ble_eq_true rfl) dX6_pocket_3 rfl (fun v2 M1 => ?_)
  refine r_if_eq 20 X dX6_pocket_6 (by decide) ?_ ?_
  · refine r_iconst (v := (-1)) X dX6_pocket_20 (by decide) ?_
    exact r_iret Hr rfl dX6_pocket_21
  · refine r_aload_n X dX6_pocket_9 rfl 0 rfl ?_
    refine r_iconst (v := 0) X dX6_pocket_10 (by decide) ?_
    refine r_bipush (v := 36) X dX6_pocket_11 (by decide) ?_
    refine r_iload_n X dX6_pocket_13 rfl 1 rfl ?_
    refine r_callVI [.int 0, .int 36, .int l1] X mt_X6_180 (by decide) h_l0 (by decide) (okX6_v _ _ X.J h_l0) rfl (Nat.le_of_ble_eq_true rfl) dX6_pocket_14 rfl (fun v4 M3 => ?_)
    refine r_goto 21 X dX6_pocket_17 (by decide) ?_
    exact r_iret Hr rfl dX6_pocket_21
set_option maxRecDepth 100000 in
set_option maxHeartbeats 4000000 in
theorem okX6_pocket (l : Launch) (g : GX) (hJ : IJ g) {l0 : Nat} {l1 : Int32} {M : Mm} (h_l0 : sh l0 = 16) : CT l g yX6_pocket cX6_pocket 2 (some .int) 1 [rf g l0, .int l1] M (fX6_pocket l0 l1 M) (fun r => some (.int r)) := by
  refine ct_I rfl hJ (Nat.le_of_ble_eq_true rfl) (fun x r hg hL hl X hf Hr => ?_)
  subst hg
  exact fun _ ls H locs hl hP hS => sX6_pocket_0 X hL Hr h_l0 ⟨_, hf, rfl⟩ ls H locs hl hP hS
/-! CrumbWoodModel.put(III)I -/
set_option maxRecDepth 100000 in
noncomputable def fX6_put (l0 : Nat) (l1 : Int32) (l2 : Int32) (l3 : Int32) (M : Mm) : Option (Int32 × Mm) := cal (fX6_isText l1 M) fun v2 M1 => if v2 = 0 then some (((-1), M1)) else gfR M1 0 l0 8 fun v3 => ldI M1 v3 l1 fun v4 => if 0 ≤ v4 then gfR M1 0 l0 8 fun v5 => ldI M1 v5 l1 fun v6 => cal (fX6_in l2 0 (v6 - 1) M1) fun v8 M7 => if v8 = 0 then cal (fX6_meets l0 2 M7) fun v14 M13 => some ((v14, M13)) else gfR M7 1 l0 9 fun v9 => ldI M7 v9 (((80 : Int32) * l1) + l2) fun v10 => gfR M7 1 l0 9 fun v11 => stI M7 v11 (((80 : Int32) * l1) + l2) (vp_nar .byte ((l3 : Int32).toInt8.toInt32)) fun M12 => some ((((1000 : Int32) + v10), M12)) else cal (fX6_meets l0 1 M1) fun v16 M15 => some ((v16, M15))
set_option maxRecDepth 100000 in
set_option maxHeartbeats 4000000 in
theorem sX6_put_0 {x : SB} {F : (Int32 × Mm) → Prop} (X : CX x cX6_put RX6 2) (hL : x.2.2.2.1 = 5) (Hr : RTI x cX6_put .int F (fun q => q)) {l0 : Nat} {l1 : Int32} {l2 : Int32} {l3 : Int32} {M : Mm} (h_l0 : sh l0 = 16) : SIM x F (fX6_put l0 l1 l2 l3 M) 0 [(0, rf x.2.1 l0), (1, .int l1), (2, .int l2), (3, .int l3)] [] M := by
  unfold fX6_put
  refine r_iload_n X dX6_put_0 rfl 1 rfl ?_
  refine r_callSI [.int l1] X mt_X6_117 (by decide) (okX6_isText _ _ X.J) rfl (Nat.le_of_ble_eq_true rfl) dX6_put_1 rfl (fun v2 M1 => ?_)
  refine r_if_ne 9 X dX6_put_4 (by decide) ?_ ?_
  · refine r_iconst (v := (-1)) X dX6_put_7 (by decide) ?_
    exact r_iret Hr rfl dX6_put_8
  · refine r_aload_n X dX6_put_9 rfl 0 rfl ?_
    refine r_getR X fl_X6_26 (by decide) h_l0 dX6_put_10 (fun v3 h_v3 => ?_)
    refine r_iload_n X dX6_put_13 rfl 1 rfl ?_
    refine r_iald X h_v3 dX6_put_14 (fun v4 => ?_)
    refine r_if_ge 24 X dX6_put_15 (by decide) ?_ ?_
    · refine r_iload_n X dX6_put_24 rfl 2 rfl ?_
      refine r_iconst (v := 0) X dX6_put_25 (by decide) ?_
      refine r_aload_n X dX6_put_26 rfl 0 rfl ?_
      refine r_getR X fl_X6_26 (by decide) h_l0 dX6_put_27 (fun v5 h_v5 => ?_)
      refine r_iload_n X dX6_put_30 rfl 1 rfl ?_
      refine r_iald X h_v5 dX6_put_31 (fun v6 => ?_)
      refine r_iconst (v := 1) X dX6_put_32 (by decide) ?_
      refine r_isub X dX6_put_33 ?_
      refine r_callSI [.int l2, .int 0, .int (v6 - 1)] X mt_X6_92 (by decide) (okX6_in _ _ X.J) rfl (Nat.le_of_ble_eq_true rfl) dX6_put_34 rfl (fun v8 M7 => ?_)
      refine r_if_ne 46 X dX6_put_37 (by decide) ?_ ?_
      · refine r_aload_n X dX6_put_40 rfl 0 rfl ?_
        refine r_iconst (v := 2) X dX6_put_41 (by decide) ?_
        refine r_callVI [.int 2] X mt_X6_106 (by decide) h_l0 (by decide) (okX6_meets _ _ X.J h_l0) rfl (Nat.le_of_ble_eq_true rfl) dX6_put_42 rfl (fun v14 M13 => ?_)
        exact r_iret Hr rfl dX6_put_45
      · refine r_aload_n X dX6_put_46 rfl 0 rfl ?_
        refine r_getR X fl_X6_29 (by decide) h_l0 dX6_put_47 (fun v9 h_v9 => ?_)
        refine r_bipush (v := 80) X dX6_put_50 (by decide) ?_
        refine r_iload_n X dX6_put_52 rfl 1 rfl ?_
        refine r_imul X dX6_put_53 ?_
        refine r_iload_n X dX6_put_54 rfl 2 rfl ?_
        refine r_iadd X dX6_put_55 ?_
        refine r_bald X h_v9 dX6_put_56 (fun v10 => ?_)
        refine r_istore [(4, .int v10), (0, rf x.2.1 l0), (1, .int l1), (2, .int l2), (3, .int l3)] X dX6_put_57 (nlt hL (by decide)) rfl ?_
        refine r_aload_n X dX6_put_59 rfl 1 rfl ?_
        refine r_getR X fl_X6_29 (by decide) h_l0 dX6_put_60 (fun v11 h_v11 => ?_)
        refine r_bipush (v := 80) X dX6_put_63 (by decide) ?_
        refine r_iload_n X dX6_put_65 rfl 2 rfl ?_
        refine r_imul X dX6_put_66 ?_
        refine r_iload_n X dX6_put_67 rfl 3 rfl ?_
        refine r_iadd X dX6_put_68 ?_
        refine r_iload_n X dX6_put_69 rfl 4 rfl ?_
        refine r_i2b X dX6_put_70 ?_
        refine r_bast X h_v11 dX6_put_71 (fun M12 => ?_)
        refine r_sipush (v := 1000) X dX6_put_72 (by decide) ?_
        refine r_iload X dX6_put_75 0 rfl ?_
        refine r_iadd X dX6_put_77 ?_
        exact r_iret Hr rfl dX6_put_78
    · refine r_aload_n X dX6_put_18 rfl 0 rfl ?_
      refine r_iconst (v := 1) X dX6_put_19 (by decide) ?_
      refine r_callVI [.int 1] X mt_X6_106 (by decide) h_l0 (by decide) (okX6_meets _ _ X.J h_l0) rfl (Nat.le_of_ble_eq_true rfl) dX6_put_20 rfl (fun v16 M15 => ?_)
      exact r_iret Hr rfl dX6_put_23
set_option maxRecDepth 100000 in
set_option maxHeartbeats 4000000 in
theorem okX6_put (l : Launch) (g : GX) (hJ : IJ g) {l0 : Nat} {l1 : Int32} {l2 : Int32} {l3 : Int32} {M : Mm} (h_l0 : sh l0 = 16) : CT l g yX6_put cX6_put 5 (some .int) 2 [rf g l0, .int l1, .int l2, .int l3] M (fX6_put l0 l1 l2 l3 M) (fun r => some (.int r)) := by
  refine ct_I rfl hJ (Nat.le_of_ble_eq_true rfl) (fun x r hg hL hl X hf Hr => ?_)
  subst hg
  exact fun _ ls H locs hl hP hS => sX6_put_0 X hL Hr h_l0 ⟨_, hf, rfl⟩ ls H locs hl hP hS
/-! CrumbWoodModel.row(II)I -/
set_option maxRecDepth 100000 in
def pX6_row (x : SB) (q : Nat × Nat × Int32 × Int32 × Int32 × Mm) : Prop := match q.1 with
  | 1 => sh q.2.1 = 16 → ∀ (ls : Array Slot) (H : Heap) (locs : List Loc), lv_has ls x.2.2.2.1 [(0, rf x.2.1 q.2.1), (1, .int q.2.2.1), (2, .int q.2.2.2.1), (3, .int q.2.2.2.2.1)] → PW x.2.1 (q.2.2.2.2.2) H → SH x H locs → SW x H locs 34 ls []
  | _ => True
set_option maxRecDepth 100000 in
noncomputable def bX6_row_34 (l0 : Nat) (l1 : Int32) (l2 : Int32) (l3 : Int32) (M : Mm) : Option ((Nat × Nat × Int32 × Int32 × Int32 × Mm) ⊕ Int32 × Mm) := if 40 ≤ l3 then some (.inr (l2, M)) else gfR M 0 l0 6 fun v1 => stI M v1 (((40 : Int32) * l1) + l3) 0 fun M2 => some (.inl (1, l0, l1, l2, (l3 + 1), M2))
set_option maxRecDepth 100000 in
set_option maxHeartbeats 4000000 in
theorem sX6_row_34 {x : SB} {F : ((Nat × Nat × Int32 × Int32 × Int32 × Mm) ⊕ Int32 × Mm) → Prop} (X : CX x cX6_row RX6 2) (hL : x.2.2.2.1 = 4) (Hr : RTI x cX6_row .int F Sum.inr) (HH : ∀ q, F (.inl q) → pX6_row x q) {l0 : Nat} {l1 : Int32} {l2 : Int32} {l3 : Int32} {M : Mm} (h_l0 : sh l0 = 16) : SIM x F (bX6_row_34 l0 l1 l2 l3 M) 34 [(0, rf x.2.1 l0), (1, .int l1), (2, .int l2), (3, .int l3)] [] M := by
  unfold bX6_row_34
  refine r_iload_n X dX6_row_34 rfl 3 rfl ?_
  refine r_bipush (v := 40) X dX6_row_35 (by decide) ?_
  refine r_icmp_ge 58 X dX6_row_37 (by decide) ?_ ?_
  · refine r_iload_n X dX6_row_58 rfl 2 rfl ?_
    exact r_iret Hr rfl dX6_row_59
  · refine r_aload_n X dX6_row_40 rfl 0 rfl ?_
    refine r_getR X fl_X6_20 (by decide) h_l0 dX6_row_41 (fun v1 h_v1 => ?_)
    refine r_bipush (v := 40) X dX6_row_44 (by decide) ?_
    refine r_iload_n X dX6_row_46 rfl 1 rfl ?_
    refine r_imul X dX6_row_47 ?_
    refine r_iload_n X dX6_row_48 rfl 3 rfl ?_
    refine r_iadd X dX6_row_49 ?_
    refine r_iconst (v := 0) X dX6_row_50 (by decide) ?_
    refine r_iast X h_v1 dX6_row_51 (fun M2 => ?_)
    refine r_iinc [(3, .int (l3 + 1)), (0, rf x.2.1 l0), (1, .int l1), (2, .int l2)] X dX6_row_52 3 rfl rfl (nlt hL (by decide)) rfl ?_
    refine r_goto 34 X dX6_row_55 (by decide) ?_
    exact r_hdr [(0, rf x.2.1 l0), (1, .int l1), (2, .int l2), (3, .int (l3 + 1))] [1, 2, 3, 0] rfl (fun h => HH _ h h_l0)
set_option maxRecDepth 100000 in
noncomputable def bX6_row_13  (M : Mm) : Option ((Nat × Nat × Int32 × Int32 × Int32 × Mm) ⊕ Int32 × Mm) := some (.inr ((-1), M))
set_option maxRecDepth 100000 in
set_option maxHeartbeats 4000000 in
theorem sX6_row_13 {x : SB} {F : ((Nat × Nat × Int32 × Int32 × Int32 × Mm) ⊕ Int32 × Mm) → Prop} (X : CX x cX6_row RX6 2) (hL : x.2.2.2.1 = 4) (Hr : RTI x cX6_row .int F Sum.inr) (HH : ∀ q, F (.inl q) → pX6_row x q)  {M : Mm}  : SIM x F (bX6_row_13  M) 13 [] [] M := by
  unfold bX6_row_13
  refine r_iconst (v := (-1)) X dX6_row_13 (by decide) ?_
  exact r_iret Hr rfl dX6_row_14
set_option maxRecDepth 100000 in
noncomputable def bX6_row_0 (l0 : Nat) (l1 : Int32) (l2 : Int32) (M : Mm) : Option ((Nat × Nat × Int32 × Int32 × Int32 × Mm) ⊕ Int32 × Mm) := cal (fX6_isRow l1 M) fun v4 M3 => if v4 = 0 then bX6_row_13 M3 else if l2 ≤ 40 then if 0 ≤ l2 then gfR M3 0 l0 5 fun v5 => stI M3 v5 l1 l2 fun M6 => some (.inl (1, l0, l1, l2, 0, M6)) else cal (fX6_meets l0 5 M3) fun v8 M7 => some (.inr (v8, M7)) else bX6_row_13 M3
set_option maxRecDepth 100000 in
set_option maxHeartbeats 4000000 in
theorem sX6_row_0 {x : SB} {F : ((Nat × Nat × Int32 × Int32 × Int32 × Mm) ⊕ Int32 × Mm) → Prop} (X : CX x cX6_row RX6 2) (hL : x.2.2.2.1 = 4) (Hr : RTI x cX6_row .int F Sum.inr) (HH : ∀ q, F (.inl q) → pX6_row x q) {l0 : Nat} {l1 : Int32} {l2 : Int32} {M : Mm} (h_l0 : sh l0 = 16) : SIM x F (bX6_row_0 l0 l1 l2 M) 0 [(0, rf x.2.1 l0), (1, .int l1), (2, .int l2)] [] M := by
  unfold bX6_row_0
  refine r_iload_n X dX6_row_0 rfl 1 rfl ?_
  refine r_callSI [.int l1] X mt_X6_102 (by decide) (okX6_isRow _ _ X.J) rfl (Nat.le_of_ble_eq_true rfl) dX6_row_1 rfl (fun v4 M3 => ?_)
  refine r_if_eq 13 X dX6_row_4 (by decide) ?_ ?_
  · exact r_to [] [] rfl (sX6_row_13 X hL Hr HH)
  · refine r_iload_n X dX6_row_7 rfl 2 rfl ?_
    refine r_bipush (v := 40) X dX6_row_8 (by decide) ?_
    refine r_icmp_le 15 X dX6_row_10 (by decide) ?_ ?_
    · refine r_iload_n X dX6_row_15 rfl 2 rfl ?_
      refine r_if_ge 25 X dX6_row_16 (by decide) ?_ ?_
      · refine r_aload_n X dX6_row_25 rfl 0 rfl ?_
        refine r_getR X fl_X6_17 (by decide) h_l0 dX6_row_26 (fun v5 h_v5 => ?_)
        refine r_iload_n X dX6_row_29 rfl 1 rfl ?_
        refine r_iload_n X dX6_row_30 rfl 2 rfl ?_
        refine r_iast X h_v5 dX6_row_31 (fun M6 => ?_)
        refine r_iconst (v := 0) X dX6_row_32 (by decide) ?_
        refine r_istore_n [(3, .int 0), (0, rf x.2.1 l0), (1, .int l1), (2, .int l2)] X dX6_row_33 rfl (nlt hL (by decide)) rfl ?_
        exact r_hdr [(0, rf x.2.1 l0), (1, .int l1), (2, .int l2), (3, .int 0)] [1, 2, 3, 0] rfl (fun h => HH _ h h_l0)
      · refine r_aload_n X dX6_row_19 rfl 0 rfl ?_
        refine r_iconst (v := 5) X dX6_row_20 (by decide) ?_
        refine r_callVI [.int 5] X mt_X6_106 (by decide) h_l0 (by decide) (okX6_meets _ _ X.J h_l0) rfl (Nat.le_of_ble_eq_true rfl) dX6_row_21 rfl (fun v8 M7 => ?_)
        exact r_iret Hr rfl dX6_row_24
    · exact r_to [] [] rfl (sX6_row_13 X hL Hr HH)
set_option maxRecDepth 100000 in
noncomputable def gX6_row (q : Nat × Nat × Int32 × Int32 × Int32 × Mm) : Option ((Nat × Nat × Int32 × Int32 × Int32 × Mm) ⊕ Int32 × Mm) := match q.1 with
  | 1 => bX6_row_34 (q.2.1) (q.2.2.1) (q.2.2.2.1) (q.2.2.2.2.1) (q.2.2.2.2.2)
  | _ => none
set_option maxRecDepth 100000 in
noncomputable def fX6_row (l0 : Nat) (l1 : Int32) (l2 : Int32) (M : Mm) : Option (Int32 × Mm) := fen gX6_row (bX6_row_0 l0 l1 l2 M)
set_option maxRecDepth 100000 in
set_option maxHeartbeats 4000000 in
theorem okX6_row (l : Launch) (g : GX) (hJ : IJ g) {l0 : Nat} {l1 : Int32} {l2 : Int32} {M : Mm} (h_l0 : sh l0 = 16) : CT l g yX6_row cX6_row 4 (some .int) 2 [rf g l0, .int l1, .int l2] M (fX6_row l0 l1 l2 M) (fun r => some (.int r)) := by
  refine ct_I rfl hJ (Nat.le_of_ble_eq_true rfl) (fun x r hg hL hl X hf Hr => ?_)
  subst hg
  have Hr2 : RTI x cX6_row .int (Sum.elim (pX6_row x) (fun q => q = r)) Sum.inr := fun v M h => Hr v M h
  have HP : ∀ q, fnl gX6_row q = some r → pX6_row x q := by
    intro q hq
    refine fnl_ind (pX6_row x) (fun q hq => ?_) hq
    obtain ⟨n, l0, l1, l2, l3, M⟩ := q
    match n, hq with
    | 1, hq => exact fun h_l0 ls H locs hl hP hS => sX6_row_34 X hL Hr2 (fun _ h => h) h_l0 hq ls H locs hl hP hS
    | 0, hq => exact trivial
    | n + 2, hq => exact trivial
  exact fun _ ls H locs hl hP hS => sX6_row_0 X hL Hr2 (fun _ h => h) h_l0 (fen_w hf HP) ls H locs hl hP hS
/-! CrumbWoodModel.sure(I)I -/
set_option maxRecDepth 100000 in
def pX6_sure (x : SB) (q : Nat × Nat × Int32 × Int32 × Int32 × Mm) : Prop := match q.1 with
  | 1 => sh q.2.1 = 16 → ∀ (ls : Array Slot) (H : Heap) (locs : List Loc), lv_has ls x.2.2.2.1 [(0, rf x.2.1 q.2.1), (1, .int q.2.2.1), (2, .int q.2.2.2.1), (3, .int q.2.2.2.2.1)] → PW x.2.1 (q.2.2.2.2.2) H → SH x H locs → SW x H locs 46 ls []
  | _ => True
set_option maxRecDepth 100000 in
noncomputable def bX6_sure_82 (l0 : Nat) (l1 : Int32) (l3 : Int32) (s0 : Int32) (s1 : Int32) (M : Mm) : Option ((Nat × Nat × Int32 × Int32 × Int32 × Mm) ⊕ Int32 × Mm) := ltI (s1 ||| s0) fun v1 => some (.inl (1, l0, l1, v1, (l3 + 1), M))
set_option maxRecDepth 100000 in
set_option maxHeartbeats 4000000 in
theorem sX6_sure_82 {x : SB} {F : ((Nat × Nat × Int32 × Int32 × Int32 × Mm) ⊕ Int32 × Mm) → Prop} (X : CX x cX6_sure RX6 3) (hL : x.2.2.2.1 = 4) (Hr : RTI x cX6_sure .int F Sum.inr) (HH : ∀ q, F (.inl q) → pX6_sure x q) {l0 : Nat} {l1 : Int32} {l3 : Int32} {s0 : Int32} {s1 : Int32} {M : Mm} (h_l0 : sh l0 = 16) : SIM x F (bX6_sure_82 l0 l1 l3 s0 s1 M) 82 [(0, rf x.2.1 l0), (1, .int l1), (3, .int l3)] [.int s0, .int s1] M := by
  unfold bX6_sure_82
  refine r_ior X dX6_sure_82 ?_
  refine r_letI (fun v1 => ?_)
  refine r_istore_n [(2, .int v1), (0, rf x.2.1 l0), (1, .int l1), (3, .int l3)] X dX6_sure_83 rfl (nlt hL (by decide)) rfl ?_
  refine r_iinc [(3, .int (l3 + 1)), (2, .int v1), (0, rf x.2.1 l0), (1, .int l1)] X dX6_sure_84 3 rfl rfl (nlt hL (by decide)) rfl ?_
  refine r_goto 46 X dX6_sure_87 (by decide) ?_
  exact r_hdr [(0, rf x.2.1 l0), (1, .int l1), (2, .int v1), (3, .int (l3 + 1))] [2, 3, 1, 0] rfl (fun h => HH _ h h_l0)
set_option maxRecDepth 100000 in
noncomputable def bX6_sure_46 (l0 : Nat) (l1 : Int32) (l2 : Int32) (l3 : Int32) (M : Mm) : Option ((Nat × Nat × Int32 × Int32 × Int32 × Mm) ⊕ Int32 × Mm) := gfI M l0 10 fun v2 => if v2 ≤ l3 then some (.inr (l2, M)) else cal (fX6_layWays l0 l1 ((1 : Int32) <<< (l3 &&& 31)) M) fun _ M3 => gfR M3 0 l0 39 fun v4 => ldI M3 v4 ((8 : Int32) * l1) fun v5 => if v5 = 0 then bX6_sure_82 l0 l1 l3 ((1 : Int32) <<< (l3 &&& 31)) l2 M3 else bX6_sure_82 l0 l1 l3 0 l2 M3
set_option maxRecDepth 100000 in
set_option maxHeartbeats 4000000 in
theorem sX6_sure_46 {x : SB} {F : ((Nat × Nat × Int32 × Int32 × Int32 × Mm) ⊕ Int32 × Mm) → Prop} (X : CX x cX6_sure RX6 3) (hL : x.2.2.2.1 = 4) (Hr : RTI x cX6_sure .int F Sum.inr) (HH : ∀ q, F (.inl q) → pX6_sure x q) {l0 : Nat} {l1 : Int32} {l2 : Int32} {l3 : Int32} {M : Mm} (h_l0 : sh l0 = 16) : SIM x F (bX6_sure_46 l0 l1 l2 l3 M) 46 [(0, rf x.2.1 l0), (1, .int l1), (2, .int l2), (3, .int l3)] [] M := by
  unfold bX6_sure_46
  refine r_iload_n X dX6_sure_46 rfl 3 rfl ?_
  refine r_aload_n X dX6_sure_47 rfl 0 rfl ?_
  refine r_getI X fl_X6_167 (by decide) h_l0 dX6_sure_48 (fun v2 => ?_)
  refine r_icmp_ge 90 X dX6_sure_51 (by decide) ?_ ?_
  · refine r_iload_n X dX6_sure_90 rfl 2 rfl ?_
    exact r_iret Hr rfl dX6_sure_91
  · refine r_aload_n X dX6_sure_54 rfl 0 rfl ?_
    refine r_iload_n X dX6_sure_55 rfl 1 rfl ?_
    refine r_iconst (v := 1) X dX6_sure_56 (by decide) ?_
    refine r_iload_n X dX6_sure_57 rfl 3 rfl ?_
    refine r_ishl X dX6_sure_58 ?_
    refine r_callVV [.int l1, .int ((1 : Int32) <<< (l3 &&& 31))] X mt_X6_282 (by decide) h_l0 (by decide) (okX6_layWays _ _ X.J h_l0) rfl (Nat.le_of_ble_eq_true rfl) dX6_sure_59 rfl (fun _ M3 => ?_)
    refine r_iload_n X dX6_sure_62 rfl 2 rfl ?_
    refine r_aload_n X dX6_sure_63 rfl 0 rfl ?_
    refine r_getR X fl_X6_85 (by decide) h_l0 dX6_sure_64 (fun v4 h_v4 => ?_)
    refine r_bipush (v := 8) X dX6_sure_67 (by decide) ?_
    refine r_iload_n X dX6_sure_69 rfl 1 rfl ?_
    refine r_imul X dX6_sure_70 ?_
    refine r_iald X h_v4 dX6_sure_71 (fun v5 => ?_)
    refine r_if_ne 81 X dX6_sure_72 (by decide) ?_ ?_
    · refine r_iconst (v := 1) X dX6_sure_75 (by decide) ?_
      refine r_iload_n X dX6_sure_76 rfl 3 rfl ?_
      refine r_ishl X dX6_sure_77 ?_
      refine r_goto 82 X dX6_sure_78 (by decide) ?_
      exact r_to [(0, rf x.2.1 l0), (1, .int l1), (3, .int l3)] [0, 1, 3] rfl (sX6_sure_82 X hL Hr HH h_l0)
    · refine r_iconst (v := 0) X dX6_sure_81 (by decide) ?_
      exact r_to [(0, rf x.2.1 l0), (1, .int l1), (3, .int l3)] [0, 1, 3] rfl (sX6_sure_82 X hL Hr HH h_l0)
set_option maxRecDepth 100000 in
noncomputable def bX6_sure_0 (l0 : Nat) (l1 : Int32) (M : Mm) : Option ((Nat × Nat × Int32 × Int32 × Int32 × Mm) ⊕ Int32 × Mm) := cal (fX6_in l1 0 8 M) fun v7 M6 => if v7 = 0 then some (.inr ((-1), M6)) else gfI M6 l0 10 fun v8 => if v8 = 0 then some (.inr ((-4), M6)) else cal (fX6_layWays l0 l1 0 M6) fun _ M9 => gfR M9 0 l0 39 fun v10 => ldI M9 v10 ((8 : Int32) * l1) fun v11 => if v11 = 0 then some (.inr (0, M9)) else some (.inl (1, l0, l1, 0, 0, M9))
set_option maxRecDepth 100000 in
set_option maxHeartbeats 4000000 in
theorem sX6_sure_0 {x : SB} {F : ((Nat × Nat × Int32 × Int32 × Int32 × Mm) ⊕ Int32 × Mm) → Prop} (X : CX x cX6_sure RX6 3) (hL : x.2.2.2.1 = 4) (Hr : RTI x cX6_sure .int F Sum.inr) (HH : ∀ q, F (.inl q) → pX6_sure x q) {l0 : Nat} {l1 : Int32} {M : Mm} (h_l0 : sh l0 = 16) : SIM x F (bX6_sure_0 l0 l1 M) 0 [(0, rf x.2.1 l0), (1, .int l1)] [] M := by
  unfold bX6_sure_0
  refine r_iload_n X dX6_sure_0 rfl 1 rfl ?_
  refine r_iconst (v := 0) X dX6_sure_1 (by decide) ?_
  refine r_bipush (v := 8) X dX6_sure_2 (by decide) ?_
  refine r_callSI [.int l1, .int 0, .int 8] X mt_X6_92 (by decide) (okX6_in _ _ X.J) rfl (Nat.le_of_ble_eq_true rfl) dX6_sure_4 rfl (fun v7 M6 => ?_)
  refine r_if_ne 12 X dX6_sure_7 (by decide) ?_ ?_
  · refine r_iconst (v := (-1)) X dX6_sure_10 (by decide) ?_
    exact r_iret Hr rfl dX6_sure_11
  · refine r_aload_n X dX6_sure_12 rfl 0 rfl ?_
    refine r_getI X fl_X6_167 (by decide) h_l0 dX6_sure_13 (fun v8 => ?_)
    refine r_if_ne 22 X dX6_sure_16 (by decide) ?_ ?_
    · refine r_bipush (v := (-4)) X dX6_sure_19 (by decide) ?_
      exact r_iret Hr rfl dX6_sure_21
    · refine r_aload_n X dX6_sure_22 rfl 0 rfl ?_
      refine r_iload_n X dX6_sure_23 rfl 1 rfl ?_
      refine r_iconst (v := 0) X dX6_sure_24 (by decide) ?_
      refine r_callVV [.int l1, .int 0] X mt_X6_282 (by decide) h_l0 (by decide) (okX6_layWays _ _ X.J h_l0) rfl (Nat.le_of_ble_eq_true rfl) dX6_sure_25 rfl (fun _ M9 => ?_)
      refine r_aload_n X dX6_sure_28 rfl 0 rfl ?_
      refine r_getR X fl_X6_85 (by decide) h_l0 dX6_sure_29 (fun v10 h_v10 => ?_)
      refine r_bipush (v := 8) X dX6_sure_32 (by decide) ?_
      refine r_iload_n X dX6_sure_34 rfl 1 rfl ?_
      refine r_imul X dX6_sure_35 ?_
      refine r_iald X h_v10 dX6_sure_36 (fun v11 => ?_)
      refine r_if_ne 42 X dX6_sure_37 (by decide) ?_ ?_
      · refine r_iconst (v := 0) X dX6_sure_40 (by decide) ?_
        exact r_iret Hr rfl dX6_sure_41
      · refine r_iconst (v := 0) X dX6_sure_42 (by decide) ?_
        refine r_istore_n [(2, .int 0), (0, rf x.2.1 l0), (1, .int l1)] X dX6_sure_43 rfl (nlt hL (by decide)) rfl ?_
        refine r_iconst (v := 0) X dX6_sure_44 (by decide) ?_
        refine r_istore_n [(3, .int 0), (2, .int 0), (0, rf x.2.1 l0), (1, .int l1)] X dX6_sure_45 rfl (nlt hL (by decide)) rfl ?_
        exact r_hdr [(0, rf x.2.1 l0), (1, .int l1), (2, .int 0), (3, .int 0)] [2, 3, 1, 0] rfl (fun h => HH _ h h_l0)
set_option maxRecDepth 100000 in
noncomputable def gX6_sure (q : Nat × Nat × Int32 × Int32 × Int32 × Mm) : Option ((Nat × Nat × Int32 × Int32 × Int32 × Mm) ⊕ Int32 × Mm) := match q.1 with
  | 1 => bX6_sure_46 (q.2.1) (q.2.2.1) (q.2.2.2.1) (q.2.2.2.2.1) (q.2.2.2.2.2)
  | _ => none
set_option maxRecDepth 100000 in
noncomputable def fX6_sure (l0 : Nat) (l1 : Int32) (M : Mm) : Option (Int32 × Mm) := fen gX6_sure (bX6_sure_0 l0 l1 M)
set_option maxRecDepth 100000 in
set_option maxHeartbeats 4000000 in
theorem okX6_sure (l : Launch) (g : GX) (hJ : IJ g) {l0 : Nat} {l1 : Int32} {M : Mm} (h_l0 : sh l0 = 16) : CT l g yX6_sure cX6_sure 4 (some .int) 3 [rf g l0, .int l1] M (fX6_sure l0 l1 M) (fun r => some (.int r)) := by
  refine ct_I rfl hJ (Nat.le_of_ble_eq_true rfl) (fun x r hg hL hl X hf Hr => ?_)
  subst hg
  have Hr2 : RTI x cX6_sure .int (Sum.elim (pX6_sure x) (fun q => q = r)) Sum.inr := fun v M h => Hr v M h
  have HP : ∀ q, fnl gX6_sure q = some r → pX6_sure x q := by
    intro q hq
    refine fnl_ind (pX6_sure x) (fun q hq => ?_) hq
    obtain ⟨n, l0, l1, l2, l3, M⟩ := q
    match n, hq with
    | 1, hq => exact fun h_l0 ls H locs hl hP hS => sX6_sure_46 X hL Hr2 (fun _ h => h) h_l0 hq ls H locs hl hP hS
    | 0, hq => exact trivial
    | n + 2, hq => exact trivial
  exact fun _ ls H locs hl hP hS => sX6_sure_0 X hL Hr2 (fun _ h => h) h_l0 (fen_w hf HP) ls H locs hl hP hS
/-! CrumbWoodModel.surest(II)I -/
set_option maxRecDepth 100000 in
noncomputable def fX6_surest (l0 : Nat) (l1 : Int32) (l2 : Int32) (M : Mm) : Option (Int32 × Mm) := cal (fX6_needPlan l0 l1 l2 M) fun v2 M1 => if 0 ≤ v2 then cal (fX6_stonesFor l0 l2 1 M1) fun v4 M3 => some ((v4, M3)) else some ((v2, M1))
set_option maxRecDepth 100000 in
set_option maxHeartbeats 4000000 in
theorem sX6_surest_0 {x : SB} {F : (Int32 × Mm) → Prop} (X : CX x cX6_surest RX6 7) (hL : x.2.2.2.1 = 4) (Hr : RTI x cX6_surest .int F (fun q => q)) {l0 : Nat} {l1 : Int32} {l2 : Int32} {M : Mm} (h_l0 : sh l0 = 16) : SIM x F (fX6_surest l0 l1 l2 M) 0 [(0, rf x.2.1 l0), (1, .int l1), (2, .int l2)] [] M := by
  unfold fX6_surest
  refine r_aload_n X dX6_surest_0 rfl 0 rfl ?_
  refine r_iload_n X dX6_surest_1 rfl 1 rfl ?_
  refine r_iload_n X dX6_surest_2 rfl 2 rfl ?_
  refine r_callVI [.int l1, .int l2] X mt_X6_264 (by decide) h_l0 (by decide) (okX6_needPlan _ _ X.J h_l0) rfl (Nat.le_of_ble_eq_true rfl) dX6_surest_3 rfl (fun v2 M1 => ?_)
  refine r_istore_n [(3, .int v2), (0, rf x.2.1 l0), (1, .int l1), (2, .int l2)] X dX6_surest_6 rfl (nlt hL (by decide)) rfl ?_
  refine r_iload_n X dX6_surest_7 rfl 0 rfl ?_
  refine r_if_ge 15 X dX6_surest_8 (by decide) ?_ ?_
  · refine r_aload_n X dX6_surest_15 rfl 1 rfl ?_
    refine r_iload_n X dX6_surest_16 rfl 3 rfl ?_
    refine r_iconst (v := 1) X dX6_surest_17 (by decide) ?_
    refine r_callVI [.int l2, .int 1] X mt_X6_267 (by decide) h_l0 (by decide) (okX6_stonesFor _ _ X.J h_l0) rfl (Nat.le_of_ble_eq_true rfl) dX6_surest_18 rfl (fun v4 M3 => ?_)
    exact r_iret Hr rfl dX6_surest_21
  · refine r_iload_n X dX6_surest_11 rfl 0 rfl ?_
    refine r_goto 21 X dX6_surest_12 (by decide) ?_
    exact r_iret Hr rfl dX6_surest_21
set_option maxRecDepth 100000 in
set_option maxHeartbeats 4000000 in
theorem okX6_surest (l : Launch) (g : GX) (hJ : IJ g) {l0 : Nat} {l1 : Int32} {l2 : Int32} {M : Mm} (h_l0 : sh l0 = 16) : CT l g yX6_surest cX6_surest 4 (some .int) 7 [rf g l0, .int l1, .int l2] M (fX6_surest l0 l1 l2 M) (fun r => some (.int r)) := by
  refine ct_I rfl hJ (Nat.le_of_ble_eq_true rfl) (fun x r hg hL hl X hf Hr => ?_)
  subst hg
  exact fun _ ls H locs hl hP hS => sX6_surest_0 X hL Hr h_l0 ⟨_, hf, rfl⟩ ls H locs hl hP hS
/-! CrumbWoodModel.take(II)I -/
set_option maxRecDepth 100000 in
noncomputable def bX6_take_17  (M : Mm) : Option (Int32 × Mm) := some (((-1), M))
set_option maxRecDepth 100000 in
set_option maxHeartbeats 4000000 in
theorem sX6_take_17 {x : SB} {F : (Int32 × Mm) → Prop} (X : CX x cX6_take RX6 2) (hL : x.2.2.2.1 = 4) (Hr : RTI x cX6_take .int F (fun q => q))  {M : Mm}  : SIM x F (bX6_take_17  M) 17 [] [] M := by
  unfold bX6_take_17
  refine r_iconst (v := (-1)) X dX6_take_17 (by decide) ?_
  exact r_iret Hr rfl dX6_take_18
set_option maxRecDepth 100000 in
noncomputable def fX6_take (l0 : Nat) (l1 : Int32) (l2 : Int32) (M : Mm) : Option (Int32 × Mm) := cal (fX6_isPlace l0 l1 M) fun v2 M1 => if v2 = 0 then bX6_take_17 M1 else cal (fX6_in l2 0 2 M1) fun v4 M3 => if v4 = 0 then bX6_take_17 M3 else cal (fX6_marks l0 0 l2 l1 M3) fun v6 M5 => cal (fX6_setMarks l0 0 l2 l1 0 M5) fun _ M7 => some ((v6, M7))
set_option maxRecDepth 100000 in
set_option maxHeartbeats 4000000 in
theorem sX6_take_0 {x : SB} {F : (Int32 × Mm) → Prop} (X : CX x cX6_take RX6 2) (hL : x.2.2.2.1 = 4) (Hr : RTI x cX6_take .int F (fun q => q)) {l0 : Nat} {l1 : Int32} {l2 : Int32} {M : Mm} (h_l0 : sh l0 = 16) : SIM x F (fX6_take l0 l1 l2 M) 0 [(0, rf x.2.1 l0), (1, .int l1), (2, .int l2)] [] M := by
  unfold fX6_take
  refine r_aload_n X dX6_take_0 rfl 0 rfl ?_
  refine r_iload_n X dX6_take_1 rfl 1 rfl ?_
  refine r_callVI [.int l1] X mt_X6_211 (by decide) h_l0 (by decide) (okX6_isPlace _ _ X.J h_l0) rfl (Nat.le_of_ble_eq_true rfl) dX6_take_2 rfl (fun v2 M1 => ?_)
  refine r_if_eq 17 X dX6_take_5 (by decide) ?_ ?_
  · exact r_to [] [] rfl (sX6_take_17 X hL Hr)
  · refine r_iload_n X dX6_take_8 rfl 2 rfl ?_
    refine r_iconst (v := 0) X dX6_take_9 (by decide) ?_
    refine r_iconst (v := 2) X dX6_take_10 (by decide) ?_
    refine r_callSI [.int l2, .int 0, .int 2] X mt_X6_92 (by decide) (okX6_in _ _ X.J) rfl (Nat.le_of_ble_eq_true rfl) dX6_take_11 rfl (fun v4 M3 => ?_)
    refine r_if_ne 19 X dX6_take_14 (by decide) ?_ ?_
    · exact r_to [] [] rfl (sX6_take_17 X hL Hr)
    · refine r_aload_n X dX6_take_19 rfl 0 rfl ?_
      refine r_iconst (v := 0) X dX6_take_20 (by decide) ?_
      refine r_iload_n X dX6_take_21 rfl 2 rfl ?_
      refine r_iload_n X dX6_take_22 rfl 1 rfl ?_
      refine r_callVI [.int 0, .int l2, .int l1] X mt_X6_184 (by decide) h_l0 (by decide) (okX6_marks _ _ X.J h_l0) rfl (Nat.le_of_ble_eq_true rfl) dX6_take_23 rfl (fun v6 M5 => ?_)
      refine r_istore_n [(3, .int v6), (0, rf x.2.1 l0), (1, .int l1), (2, .int l2)] X dX6_take_26 rfl (nlt hL (by decide)) rfl ?_
      refine r_aload_n X dX6_take_27 rfl 1 rfl ?_
      refine r_iconst (v := 0) X dX6_take_28 (by decide) ?_
      refine r_iload_n X dX6_take_29 rfl 3 rfl ?_
      refine r_iload_n X dX6_take_30 rfl 2 rfl ?_
      refine r_iconst (v := 0) X dX6_take_31 (by decide) ?_
      refine r_callVV [.int 0, .int l2, .int l1, .int 0] X mt_X6_187 (by decide) h_l0 (by decide) (okX6_setMarks _ _ X.J h_l0) rfl (Nat.le_of_ble_eq_true rfl) dX6_take_32 rfl (fun _ M7 => ?_)
      refine r_iload_n X dX6_take_35 rfl 0 rfl ?_
      exact r_iret Hr rfl dX6_take_36
set_option maxRecDepth 100000 in
set_option maxHeartbeats 4000000 in
theorem okX6_take (l : Launch) (g : GX) (hJ : IJ g) {l0 : Nat} {l1 : Int32} {l2 : Int32} {M : Mm} (h_l0 : sh l0 = 16) : CT l g yX6_take cX6_take 4 (some .int) 2 [rf g l0, .int l1, .int l2] M (fX6_take l0 l1 l2 M) (fun r => some (.int r)) := by
  refine ct_I rfl hJ (Nat.le_of_ble_eq_true rfl) (fun x r hg hL hl X hf Hr => ?_)
  subst hg
  exact fun _ ls H locs hl hP hS => sX6_take_0 X hL Hr h_l0 ⟨_, hf, rfl⟩ ls H locs hl hP hS
/-! CrumbWoodModel.tear(I)I -/
set_option maxRecDepth 100000 in
noncomputable def fX6_tear (l0 : Nat) (l1 : Int32) (M : Mm) : Option (Int32 × Mm) := cal (fX6_isRow l1 M) fun v2 M1 => if v2 = 0 then some (((-1), M1)) else gfR M1 0 l0 5 fun v3 => ldI M1 v3 l1 fun v4 => if 0 ≤ v4 then gfR M1 0 l0 5 fun v5 => stI M1 v5 l1 (-1) fun M6 => some ((1, M6)) else cal (fX6_meets l0 1 M1) fun v8 M7 => some ((v8, M7))
set_option maxRecDepth 100000 in
set_option maxHeartbeats 4000000 in
theorem sX6_tear_0 {x : SB} {F : (Int32 × Mm) → Prop} (X : CX x cX6_tear RX6 2) (hL : x.2.2.2.1 = 2) (Hr : RTI x cX6_tear .int F (fun q => q)) {l0 : Nat} {l1 : Int32} {M : Mm} (h_l0 : sh l0 = 16) : SIM x F (fX6_tear l0 l1 M) 0 [(0, rf x.2.1 l0), (1, .int l1)] [] M := by
  unfold fX6_tear
  refine r_iload_n X dX6_tear_0 rfl 1 rfl ?_
  refine r_callSI [.int l1] X mt_X6_102 (by decide) (okX6_isRow _ _ X.J) rfl (Nat.le_of_ble_eq_true rfl) dX6_tear_1 rfl (fun v2 M1 => ?_)
  refine r_if_ne 9 X dX6_tear_4 (by decide) ?_ ?_
  · refine r_iconst (v := (-1)) X dX6_tear_7 (by decide) ?_
    exact r_iret Hr rfl dX6_tear_8
  · refine r_aload_n X dX6_tear_9 rfl 0 rfl ?_
    refine r_getR X fl_X6_17 (by decide) h_l0 dX6_tear_10 (fun v3 h_v3 => ?_)
    refine r_iload_n X dX6_tear_13 rfl 1 rfl ?_
    refine r_iald X h_v3 dX6_tear_14 (fun v4 => ?_)
    refine r_if_ge 24 X dX6_tear_15 (by decide) ?_ ?_
    · refine r_aload_n X dX6_tear_24 rfl 0 rfl ?_
      refine r_getR X fl_X6_17 (by decide) h_l0 dX6_tear_25 (fun v5 h_v5 => ?_)
      refine r_iload_n X dX6_tear_28 rfl 1 rfl ?_
      refine r_iconst (v := (-1)) X dX6_tear_29 (by decide) ?_
      refine r_iast X h_v5 dX6_tear_30 (fun M6 => ?_)
      refine r_iconst (v := 1) X dX6_tear_31 (by decide) ?_
      exact r_iret Hr rfl dX6_tear_32
    · refine r_aload_n X dX6_tear_18 rfl 0 rfl ?_
      refine r_iconst (v := 1) X dX6_tear_19 (by decide) ?_
      refine r_callVI [.int 1] X mt_X6_106 (by decide) h_l0 (by decide) (okX6_meets _ _ X.J h_l0) rfl (Nat.le_of_ble_eq_true rfl) dX6_tear_20 rfl (fun v8 M7 => ?_)
      exact r_iret Hr rfl dX6_tear_23
set_option maxRecDepth 100000 in
set_option maxHeartbeats 4000000 in
theorem okX6_tear (l : Launch) (g : GX) (hJ : IJ g) {l0 : Nat} {l1 : Int32} {M : Mm} (h_l0 : sh l0 = 16) : CT l g yX6_tear cX6_tear 2 (some .int) 2 [rf g l0, .int l1] M (fX6_tear l0 l1 M) (fun r => some (.int r)) := by
  refine ct_I rfl hJ (Nat.le_of_ble_eq_true rfl) (fun x r hg hL hl X hf Hr => ?_)
  subst hg
  exact fun _ ls H locs hl hP hS => sX6_tear_0 X hL Hr h_l0 ⟨_, hf, rfl⟩ ls H locs hl hP hS
/-! CrumbWoodModel.text(II)I -/
set_option maxRecDepth 100000 in
def pX6_text (x : SB) (q : Nat × Nat × Int32 × Int32 × Int32 × Mm) : Prop := match q.1 with
  | 1 => sh q.2.1 = 16 → ∀ (ls : Array Slot) (H : Heap) (locs : List Loc), lv_has ls x.2.2.2.1 [(0, rf x.2.1 q.2.1), (1, .int q.2.2.1), (2, .int q.2.2.2.1), (3, .int q.2.2.2.2.1)] → PW x.2.1 (q.2.2.2.2.2) H → SH x H locs → SW x H locs 34 ls []
  | _ => True
set_option maxRecDepth 100000 in
noncomputable def bX6_text_34 (l0 : Nat) (l1 : Int32) (l2 : Int32) (l3 : Int32) (M : Mm) : Option ((Nat × Nat × Int32 × Int32 × Int32 × Mm) ⊕ Int32 × Mm) := if 80 ≤ l3 then some (.inr (l2, M)) else gfR M 1 l0 9 fun v1 => stI M v1 (((80 : Int32) * l1) + l3) (vp_nar .byte 32) fun M2 => some (.inl (1, l0, l1, l2, (l3 + 1), M2))
set_option maxRecDepth 100000 in
set_option maxHeartbeats 4000000 in
theorem sX6_text_34 {x : SB} {F : ((Nat × Nat × Int32 × Int32 × Int32 × Mm) ⊕ Int32 × Mm) → Prop} (X : CX x cX6_text RX6 2) (hL : x.2.2.2.1 = 4) (Hr : RTI x cX6_text .int F Sum.inr) (HH : ∀ q, F (.inl q) → pX6_text x q) {l0 : Nat} {l1 : Int32} {l2 : Int32} {l3 : Int32} {M : Mm} (h_l0 : sh l0 = 16) : SIM x F (bX6_text_34 l0 l1 l2 l3 M) 34 [(0, rf x.2.1 l0), (1, .int l1), (2, .int l2), (3, .int l3)] [] M := by
  unfold bX6_text_34
  refine r_iload_n X dX6_text_34 rfl 3 rfl ?_
  refine r_bipush (v := 80) X dX6_text_35 (by decide) ?_
  refine r_icmp_ge 59 X dX6_text_37 (by decide) ?_ ?_
  · refine r_iload_n X dX6_text_59 rfl 2 rfl ?_
    exact r_iret Hr rfl dX6_text_60
  · refine r_aload_n X dX6_text_40 rfl 0 rfl ?_
    refine r_getR X fl_X6_29 (by decide) h_l0 dX6_text_41 (fun v1 h_v1 => ?_)
    refine r_bipush (v := 80) X dX6_text_44 (by decide) ?_
    refine r_iload_n X dX6_text_46 rfl 1 rfl ?_
    refine r_imul X dX6_text_47 ?_
    refine r_iload_n X dX6_text_48 rfl 3 rfl ?_
    refine r_iadd X dX6_text_49 ?_
    refine r_bipush (v := 32) X dX6_text_50 (by decide) ?_
    refine r_bast X h_v1 dX6_text_52 (fun M2 => ?_)
    refine r_iinc [(3, .int (l3 + 1)), (0, rf x.2.1 l0), (1, .int l1), (2, .int l2)] X dX6_text_53 3 rfl rfl (nlt hL (by decide)) rfl ?_
    refine r_goto 34 X dX6_text_56 (by decide) ?_
    exact r_hdr [(0, rf x.2.1 l0), (1, .int l1), (2, .int l2), (3, .int (l3 + 1))] [1, 2, 3, 0] rfl (fun h => HH _ h h_l0)
set_option maxRecDepth 100000 in
noncomputable def bX6_text_13  (M : Mm) : Option ((Nat × Nat × Int32 × Int32 × Int32 × Mm) ⊕ Int32 × Mm) := some (.inr ((-1), M))
set_option maxRecDepth 100000 in
set_option maxHeartbeats 4000000 in
theorem sX6_text_13 {x : SB} {F : ((Nat × Nat × Int32 × Int32 × Int32 × Mm) ⊕ Int32 × Mm) → Prop} (X : CX x cX6_text RX6 2) (hL : x.2.2.2.1 = 4) (Hr : RTI x cX6_text .int F Sum.inr) (HH : ∀ q, F (.inl q) → pX6_text x q)  {M : Mm}  : SIM x F (bX6_text_13  M) 13 [] [] M := by
  unfold bX6_text_13
  refine r_iconst (v := (-1)) X dX6_text_13 (by decide) ?_
  exact r_iret Hr rfl dX6_text_14
set_option maxRecDepth 100000 in
noncomputable def bX6_text_0 (l0 : Nat) (l1 : Int32) (l2 : Int32) (M : Mm) : Option ((Nat × Nat × Int32 × Int32 × Int32 × Mm) ⊕ Int32 × Mm) := cal (fX6_isText l1 M) fun v4 M3 => if v4 = 0 then bX6_text_13 M3 else if l2 ≤ 80 then if 0 ≤ l2 then gfR M3 0 l0 8 fun v5 => stI M3 v5 l1 l2 fun M6 => some (.inl (1, l0, l1, l2, 0, M6)) else cal (fX6_meets l0 5 M3) fun v8 M7 => some (.inr (v8, M7)) else bX6_text_13 M3
set_option maxRecDepth 100000 in
set_option maxHeartbeats 4000000 in
theorem sX6_text_0 {x : SB} {F : ((Nat × Nat × Int32 × Int32 × Int32 × Mm) ⊕ Int32 × Mm) → Prop} (X : CX x cX6_text RX6 2) (hL : x.2.2.2.1 = 4) (Hr : RTI x cX6_text .int F Sum.inr) (HH : ∀ q, F (.inl q) → pX6_text x q) {l0 : Nat} {l1 : Int32} {l2 : Int32} {M : Mm} (h_l0 : sh l0 = 16) : SIM x F (bX6_text_0 l0 l1 l2 M) 0 [(0, rf x.2.1 l0), (1, .int l1), (2, .int l2)] [] M := by
  unfold bX6_text_0
  refine r_iload_n X dX6_text_0 rfl 1 rfl ?_
  refine r_callSI [.int l1] X mt_X6_117 (by decide) (okX6_isText _ _ X.J) rfl (Nat.le_of_ble_eq_true rfl) dX6_text_1 rfl (fun v4 M3 => ?_)
  refine r_if_eq 13 X dX6_text_4 (by decide) ?_ ?_
  · exact r_to [] [] rfl (sX6_text_13 X hL Hr HH)
  · refine r_iload_n X dX6_text_7 rfl 2 rfl ?_
    refine r_bipush (v := 80) X dX6_text_8 (by decide) ?_
    refine r_icmp_le 15 X dX6_text_10 (by decide) ?_ ?_
    · refine r_iload_n X dX6_text_15 rfl 2 rfl ?_
      refine r_if_ge 25 X dX6_text_16 (by decide) ?_ ?_
      · refine r_aload_n X dX6_text_25 rfl 0 rfl ?_
        refine r_getR X fl_X6_26 (by decide) h_l0 dX6_text_26 (fun v5 h_v5 => ?_)
        refine r_iload_n X dX6_text_29 rfl 1 rfl ?_
        refine r_iload_n X dX6_text_30 rfl 2 rfl ?_
        refine r_iast X h_v5 dX6_text_31 (fun M6 => ?_)
        refine r_iconst (v := 0) X dX6_text_32 (by decide) ?_
        refine r_istore_n [(3, .int 0), (0, rf x.2.1 l0), (1, .int l1), (2, .int l2)] X dX6_text_33 rfl (nlt hL (by decide)) rfl ?_
        exact r_hdr [(0, rf x.2.1 l0), (1, .int l1), (2, .int l2), (3, .int 0)] [1, 2, 3, 0] rfl (fun h => HH _ h h_l0)
      · refine r_aload_n X dX6_text_19 rfl 0 rfl ?_
        refine r_iconst (v := 5) X dX6_text_20 (by decide) ?_
        refine r_callVI [.int 5] X mt_X6_106 (by decide) h_l0 (by decide) (okX6_meets _ _ X.J h_l0) rfl (Nat.le_of_ble_eq_true rfl) dX6_text_21 rfl (fun v8 M7 => ?_)
        exact r_iret Hr rfl dX6_text_24
    · exact r_to [] [] rfl (sX6_text_13 X hL Hr HH)
set_option maxRecDepth 100000 in
noncomputable def gX6_text (q : Nat × Nat × Int32 × Int32 × Int32 × Mm) : Option ((Nat × Nat × Int32 × Int32 × Int32 × Mm) ⊕ Int32 × Mm) := match q.1 with
  | 1 => bX6_text_34 (q.2.1) (q.2.2.1) (q.2.2.2.1) (q.2.2.2.2.1) (q.2.2.2.2.2)
  | _ => none
set_option maxRecDepth 100000 in
noncomputable def fX6_text (l0 : Nat) (l1 : Int32) (l2 : Int32) (M : Mm) : Option (Int32 × Mm) := fen gX6_text (bX6_text_0 l0 l1 l2 M)
set_option maxRecDepth 100000 in
set_option maxHeartbeats 4000000 in
theorem okX6_text (l : Launch) (g : GX) (hJ : IJ g) {l0 : Nat} {l1 : Int32} {l2 : Int32} {M : Mm} (h_l0 : sh l0 = 16) : CT l g yX6_text cX6_text 4 (some .int) 2 [rf g l0, .int l1, .int l2] M (fX6_text l0 l1 l2 M) (fun r => some (.int r)) := by
  refine ct_I rfl hJ (Nat.le_of_ble_eq_true rfl) (fun x r hg hL hl X hf Hr => ?_)
  subst hg
  have Hr2 : RTI x cX6_text .int (Sum.elim (pX6_text x) (fun q => q = r)) Sum.inr := fun v M h => Hr v M h
  have HP : ∀ q, fnl gX6_text q = some r → pX6_text x q := by
    intro q hq
    refine fnl_ind (pX6_text x) (fun q hq => ?_) hq
    obtain ⟨n, l0, l1, l2, l3, M⟩ := q
    match n, hq with
    | 1, hq => exact fun h_l0 ls H locs hl hP hS => sX6_text_34 X hL Hr2 (fun _ h => h) h_l0 hq ls H locs hl hP hS
    | 0, hq => exact trivial
    | n + 2, hq => exact trivial
  exact fun _ ls H locs hl hP hS => sX6_text_0 X hL Hr2 (fun _ h => h) h_l0 (fen_w hf HP) ls H locs hl hP hS
/-! CrumbWoodModel.upper()J -/
set_option maxRecDepth 100000 in
noncomputable def fX6_upper (l0 : Nat) (M : Mm) : Option (Int64 × Mm) := gfJ M l0 3 fun v1 => some ((v1, M))
set_option maxRecDepth 100000 in
set_option maxHeartbeats 4000000 in
theorem sX6_upper_0 {x : SB} {F : (Int64 × Mm) → Prop} (X : CX x cX6_upper RX6 0) (hL : x.2.2.2.1 = 1) (Hr : RTJ x cX6_upper F (fun q => q)) {l0 : Nat} {M : Mm} (h_l0 : sh l0 = 16) : SIM x F (fX6_upper l0 M) 0 [(0, rf x.2.1 l0)] [] M := by
  unfold fX6_upper
  refine r_aload_n X dX6_upper_0 rfl 0 rfl ?_
  refine r_getJ X fl_X6_99 (by decide) h_l0 dX6_upper_1 (fun v1 => ?_)
  exact r_lret Hr dX6_upper_4
set_option maxRecDepth 100000 in
set_option maxHeartbeats 4000000 in
theorem okX6_upper (l : Launch) (g : GX) (hJ : IJ g) {l0 : Nat} {M : Mm} (h_l0 : sh l0 = 16) : CT l g yX6_upper cX6_upper 1 (some .long) 0 [rf g l0] M (fX6_upper l0 M) (fun r => some (.long r)) := by
  refine ct_J rfl hJ (Nat.le_of_ble_eq_true rfl) (fun x r hg hL hl X hf Hr => ?_)
  subst hg
  exact fun _ ls H locs hl hP hS => sX6_upper_0 X hL Hr h_l0 ⟨_, hf, rfl⟩ ls H locs hl hP hS
/-! CrumbWoodModel.waits()I -/
set_option maxRecDepth 100000 in
def pX6_waits (x : SB) (q : Nat × Nat × Int32 × Mm) : Prop := match q.1 with
  | 1 => sh q.2.1 = 16 → ∀ (ls : Array Slot) (H : Heap) (locs : List Loc), lv_has ls x.2.2.2.1 [(0, rf x.2.1 q.2.1), (1, .int q.2.2.1)] → PW x.2.1 (q.2.2.2) H → SH x H locs → SW x H locs 18 ls []
  | _ => True
set_option maxRecDepth 100000 in
noncomputable def bX6_waits_18 (l0 : Nat) (l1 : Int32) (M : Mm) : Option ((Nat × Nat × Int32 × Mm) ⊕ Int32 × Mm) := if 60 < l1 then some (.inr ((-9), M)) else cal (fX6_hereNow l0 M) fun v2 M1 => cal (fX6_follows l0 1 v2 M1) fun v4 M3 => if v4 = 0 then some (.inr (l1, M3)) else cal (fX6_hourOf l0 1 M3) fun v6 M5 => some (.inl (1, l0, (l1 + 1), M5))
set_option maxRecDepth 100000 in
set_option maxHeartbeats 4000000 in
theorem sX6_waits_18 {x : SB} {F : ((Nat × Nat × Int32 × Mm) ⊕ Int32 × Mm) → Prop} (X : CX x cX6_waits RX6 5) (hL : x.2.2.2.1 = 2) (Hr : RTI x cX6_waits .int F Sum.inr) (HH : ∀ q, F (.inl q) → pX6_waits x q) {l0 : Nat} {l1 : Int32} {M : Mm} (h_l0 : sh l0 = 16) : SIM x F (bX6_waits_18 l0 l1 M) 18 [(0, rf x.2.1 l0), (1, .int l1)] [] M := by
  unfold bX6_waits_18
  refine r_iload_n X dX6_waits_18 rfl 1 rfl ?_
  refine r_bipush (v := 60) X dX6_waits_19 (by decide) ?_
  refine r_icmp_gt 50 X dX6_waits_21 (by decide) ?_ ?_
  · refine r_bipush (v := (-9)) X dX6_waits_50 (by decide) ?_
    exact r_iret Hr rfl dX6_waits_52
  · refine r_aload_n X dX6_waits_24 rfl 0 rfl ?_
    refine r_iconst (v := 1) X dX6_waits_25 (by decide) ?_
    refine r_aload_n X dX6_waits_26 rfl 0 rfl ?_
    refine r_callVI [] X mt_X6_223 (by decide) h_l0 (by decide) (okX6_hereNow _ _ X.J h_l0) rfl (Nat.le_of_ble_eq_true rfl) dX6_waits_27 rfl (fun v2 M1 => ?_)
    refine r_callVI [.int 1, .int v2] X mt_X6_244 (by decide) h_l0 (by decide) (okX6_follows _ _ X.J h_l0) rfl (Nat.le_of_ble_eq_true rfl) dX6_waits_30 rfl (fun v4 M3 => ?_)
    refine r_if_ne 38 X dX6_waits_33 (by decide) ?_ ?_
    · refine r_iload_n X dX6_waits_36 rfl 1 rfl ?_
      exact r_iret Hr rfl dX6_waits_37
    · refine r_aload_n X dX6_waits_38 rfl 0 rfl ?_
      refine r_iconst (v := 1) X dX6_waits_39 (by decide) ?_
      refine r_callVI [.int 1] X mt_X6_205 (by decide) h_l0 (by decide) (okX6_hourOf _ _ X.J h_l0) rfl (Nat.le_of_ble_eq_true rfl) dX6_waits_40 rfl (fun v6 M5 => ?_)
      refine r_pop X dX6_waits_43 rfl ?_
      refine r_iinc [(1, .int (l1 + 1)), (0, rf x.2.1 l0)] X dX6_waits_44 1 rfl rfl (nlt hL (by decide)) rfl ?_
      refine r_goto 18 X dX6_waits_47 (by decide) ?_
      exact r_hdr [(0, rf x.2.1 l0), (1, .int (l1 + 1))] [1, 0] rfl (fun h => HH _ h h_l0)
set_option maxRecDepth 100000 in
noncomputable def bX6_waits_0 (l0 : Nat) (M : Mm) : Option ((Nat × Nat × Int32 × Mm) ⊕ Int32 × Mm) := gfI M l0 10 fun v7 => if v7 = 0 then some (.inr ((-4), M)) else cal (fX6_copyTo l0 0 1 M) fun _ M8 => some (.inl (1, l0, 0, M8))
set_option maxRecDepth 100000 in
set_option maxHeartbeats 4000000 in
theorem sX6_waits_0 {x : SB} {F : ((Nat × Nat × Int32 × Mm) ⊕ Int32 × Mm) → Prop} (X : CX x cX6_waits RX6 5) (hL : x.2.2.2.1 = 2) (Hr : RTI x cX6_waits .int F Sum.inr) (HH : ∀ q, F (.inl q) → pX6_waits x q) {l0 : Nat} {M : Mm} (h_l0 : sh l0 = 16) : SIM x F (bX6_waits_0 l0 M) 0 [(0, rf x.2.1 l0)] [] M := by
  unfold bX6_waits_0
  refine r_aload_n X dX6_waits_0 rfl 0 rfl ?_
  refine r_getI X fl_X6_167 (by decide) h_l0 dX6_waits_1 (fun v7 => ?_)
  refine r_if_ne 10 X dX6_waits_4 (by decide) ?_ ?_
  · refine r_bipush (v := (-4)) X dX6_waits_7 (by decide) ?_
    exact r_iret Hr rfl dX6_waits_9
  · refine r_aload_n X dX6_waits_10 rfl 0 rfl ?_
    refine r_iconst (v := 0) X dX6_waits_11 (by decide) ?_
    refine r_iconst (v := 1) X dX6_waits_12 (by decide) ?_
    refine r_callVV [.int 0, .int 1] X mt_X6_247 (by decide) h_l0 (by decide) (okX6_copyTo _ _ X.J h_l0) rfl (Nat.le_of_ble_eq_true rfl) dX6_waits_13 rfl (fun _ M8 => ?_)
    refine r_iconst (v := 0) X dX6_waits_16 (by decide) ?_
    refine r_istore_n [(1, .int 0), (0, rf x.2.1 l0)] X dX6_waits_17 rfl (nlt hL (by decide)) rfl ?_
    exact r_hdr [(0, rf x.2.1 l0), (1, .int 0)] [1, 0] rfl (fun h => HH _ h h_l0)
set_option maxRecDepth 100000 in
noncomputable def gX6_waits (q : Nat × Nat × Int32 × Mm) : Option ((Nat × Nat × Int32 × Mm) ⊕ Int32 × Mm) := match q.1 with
  | 1 => bX6_waits_18 (q.2.1) (q.2.2.1) (q.2.2.2)
  | _ => none
set_option maxRecDepth 100000 in
noncomputable def fX6_waits (l0 : Nat) (M : Mm) : Option (Int32 × Mm) := fen gX6_waits (bX6_waits_0 l0 M)
set_option maxRecDepth 100000 in
set_option maxHeartbeats 4000000 in
theorem okX6_waits (l : Launch) (g : GX) (hJ : IJ g) {l0 : Nat} {M : Mm} (h_l0 : sh l0 = 16) : CT l g yX6_waits cX6_waits 2 (some .int) 5 [rf g l0] M (fX6_waits l0 M) (fun r => some (.int r)) := by
  refine ct_I rfl hJ (Nat.le_of_ble_eq_true rfl) (fun x r hg hL hl X hf Hr => ?_)
  subst hg
  have Hr2 : RTI x cX6_waits .int (Sum.elim (pX6_waits x) (fun q => q = r)) Sum.inr := fun v M h => Hr v M h
  have HP : ∀ q, fnl gX6_waits q = some r → pX6_waits x q := by
    intro q hq
    refine fnl_ind (pX6_waits x) (fun q hq => ?_) hq
    obtain ⟨n, l0, l1, M⟩ := q
    match n, hq with
    | 1, hq => exact fun h_l0 ls H locs hl hP hS => sX6_waits_18 X hL Hr2 (fun _ h => h) h_l0 hq ls H locs hl hP hS
    | 0, hq => exact trivial
    | n + 2, hq => exact trivial
  exact fun _ ls H locs hl hP hS => sX6_waits_0 X hL Hr2 (fun _ h => h) h_l0 (fen_w hf HP) ls H locs hl hP hS
/-! CrumbWoodModel.was(II)I -/
set_option maxRecDepth 100000 in
def pX6_was (x : SB) (q : Nat × Nat × Int32 × Int32 × Int32 × Int32 × Int32 × Int32 × Mm) : Prop := match q.1 with
  | 1 => sh q.2.1 = 16 → ∀ (ls : Array Slot) (H : Heap) (locs : List Loc), lv_has ls x.2.2.2.1 [(0, rf x.2.1 q.2.1), (1, .int q.2.2.1), (2, .int q.2.2.2.1), (3, .int q.2.2.2.2.1), (4, .int q.2.2.2.2.2.1)] → PW x.2.1 (q.2.2.2.2.2.2.2.2) H → SH x H locs → SW x H locs 31 ls []
  | 2 => sh q.2.1 = 16 → ∀ (ls : Array Slot) (H : Heap) (locs : List Loc), lv_has ls x.2.2.2.1 [(0, rf x.2.1 q.2.1), (1, .int q.2.2.1), (2, .int q.2.2.2.1), (3, .int q.2.2.2.2.1), (4, .int q.2.2.2.2.2.1), (5, .int q.2.2.2.2.2.2.1), (6, .int q.2.2.2.2.2.2.2.1)] → PW x.2.1 (q.2.2.2.2.2.2.2.2) H → SH x H locs → SW x H locs 47 ls []
  | _ => True
set_option maxRecDepth 100000 in
noncomputable def bX6_was_89 (l0 : Nat) (l1 : Int32) (l2 : Int32) (l4 : Int32) (s0 : Int32) (s1 : Int32) (M : Mm) : Option ((Nat × Nat × Int32 × Int32 × Int32 × Int32 × Int32 × Int32 × Mm) ⊕ Int32 × Mm) := ltI (s1 ||| s0) fun v1 => some (.inl (1, l0, l1, l2, v1, (l4 + 1), 0, 0, M))
set_option maxRecDepth 100000 in
set_option maxHeartbeats 4000000 in
theorem sX6_was_89 {x : SB} {F : ((Nat × Nat × Int32 × Int32 × Int32 × Int32 × Int32 × Int32 × Mm) ⊕ Int32 × Mm) → Prop} (X : CX x cX6_was RX6 2) (hL : x.2.2.2.1 = 7) (Hr : RTI x cX6_was .int F Sum.inr) (HH : ∀ q, F (.inl q) → pX6_was x q) {l0 : Nat} {l1 : Int32} {l2 : Int32} {l4 : Int32} {s0 : Int32} {s1 : Int32} {M : Mm} (h_l0 : sh l0 = 16) : SIM x F (bX6_was_89 l0 l1 l2 l4 s0 s1 M) 89 [(0, rf x.2.1 l0), (1, .int l1), (2, .int l2), (4, .int l4)] [.int s0, .int s1] M := by
  unfold bX6_was_89
  refine r_ior X dX6_was_89 ?_
  refine r_letI (fun v1 => ?_)
  refine r_istore_n [(3, .int v1), (0, rf x.2.1 l0), (1, .int l1), (2, .int l2), (4, .int l4)] X dX6_was_90 rfl (nlt hL (by decide)) rfl ?_
  refine r_iinc [(4, .int (l4 + 1)), (3, .int v1), (0, rf x.2.1 l0), (1, .int l1), (2, .int l2)] X dX6_was_91 4 rfl rfl (nlt hL (by decide)) rfl ?_
  refine r_goto 31 X dX6_was_94 (by decide) ?_
  exact r_hdr [(0, rf x.2.1 l0), (1, .int l1), (2, .int l2), (3, .int v1), (4, .int (l4 + 1))] [2, 3, 4, 1, 0] rfl (fun h => HH _ h h_l0)
set_option maxRecDepth 100000 in
noncomputable def bX6_was_47 (l0 : Nat) (l1 : Int32) (l2 : Int32) (l3 : Int32) (l4 : Int32) (l5 : Int32) (l6 : Int32) (M : Mm) : Option ((Nat × Nat × Int32 × Int32 × Int32 × Int32 × Int32 × Int32 × Mm) ⊕ Int32 × Mm) := if l2 ≤ l6 then cal (fX6_v l0 0 32 l1 M) fun v3 M2 => if l5 = v3 then bX6_was_89 l0 l1 l2 l4 ((1 : Int32) <<< (l4 &&& 31)) l3 M2 else bX6_was_89 l0 l1 l2 l4 0 l3 M2 else cal (fX6_nextOf l0 l5 M) fun v5 M4 => some (.inl (2, l0, l1, l2, l3, l4, v5, (l6 + 1), M4))
set_option maxRecDepth 100000 in
set_option maxHeartbeats 4000000 in
theorem sX6_was_47 {x : SB} {F : ((Nat × Nat × Int32 × Int32 × Int32 × Int32 × Int32 × Int32 × Mm) ⊕ Int32 × Mm) → Prop} (X : CX x cX6_was RX6 2) (hL : x.2.2.2.1 = 7) (Hr : RTI x cX6_was .int F Sum.inr) (HH : ∀ q, F (.inl q) → pX6_was x q) {l0 : Nat} {l1 : Int32} {l2 : Int32} {l3 : Int32} {l4 : Int32} {l5 : Int32} {l6 : Int32} {M : Mm} (h_l0 : sh l0 = 16) : SIM x F (bX6_was_47 l0 l1 l2 l3 l4 l5 l6 M) 47 [(0, rf x.2.1 l0), (1, .int l1), (2, .int l2), (3, .int l3), (4, .int l4), (5, .int l5), (6, .int l6)] [] M := by
  unfold bX6_was_47
  refine r_iload X dX6_was_47 6 rfl ?_
  refine r_iload_n X dX6_was_49 rfl 2 rfl ?_
  refine r_icmp_ge 67 X dX6_was_50 (by decide) ?_ ?_
  · refine r_iload_n X dX6_was_67 rfl 3 rfl ?_
    refine r_iload X dX6_was_68 5 rfl ?_
    refine r_aload_n X dX6_was_70 rfl 0 rfl ?_
    refine r_iconst (v := 0) X dX6_was_71 (by decide) ?_
    refine r_bipush (v := 32) X dX6_was_72 (by decide) ?_
    refine r_iload_n X dX6_was_74 rfl 1 rfl ?_
    refine r_callVI [.int 0, .int 32, .int l1] X mt_X6_180 (by decide) h_l0 (by decide) (okX6_v _ _ X.J h_l0) rfl (Nat.le_of_ble_eq_true rfl) dX6_was_75 rfl (fun v3 M2 => ?_)
    refine r_icmp_ne 88 X dX6_was_78 (by decide) ?_ ?_
    · refine r_iconst (v := 1) X dX6_was_81 (by decide) ?_
      refine r_iload X dX6_was_82 4 rfl ?_
      refine r_ishl X dX6_was_84 ?_
      refine r_goto 89 X dX6_was_85 (by decide) ?_
      exact r_to [(0, rf x.2.1 l0), (1, .int l1), (2, .int l2), (4, .int l4)] [0, 1, 2, 4] rfl (sX6_was_89 X hL Hr HH h_l0)
    · refine r_iconst (v := 0) X dX6_was_88 (by decide) ?_
      exact r_to [(0, rf x.2.1 l0), (1, .int l1), (2, .int l2), (4, .int l4)] [0, 1, 2, 4] rfl (sX6_was_89 X hL Hr HH h_l0)
  · refine r_aload_n X dX6_was_53 rfl 0 rfl ?_
    refine r_iload X dX6_was_54 5 rfl ?_
    refine r_callVI [.int l5] X mt_X6_202 (by decide) h_l0 (by decide) (okX6_nextOf _ _ X.J h_l0) rfl (Nat.le_of_ble_eq_true rfl) dX6_was_56 rfl (fun v5 M4 => ?_)
    refine r_istore [(5, .int v5), (0, rf x.2.1 l0), (1, .int l1), (2, .int l2), (3, .int l3), (4, .int l4), (6, .int l6)] X dX6_was_59 (nlt hL (by decide)) rfl ?_
    refine r_iinc [(6, .int (l6 + 1)), (5, .int v5), (0, rf x.2.1 l0), (1, .int l1), (2, .int l2), (3, .int l3), (4, .int l4)] X dX6_was_61 6 rfl rfl (nlt hL (by decide)) rfl ?_
    refine r_goto 47 X dX6_was_64 (by decide) ?_
    exact r_hdr [(0, rf x.2.1 l0), (1, .int l1), (2, .int l2), (3, .int l3), (4, .int l4), (5, .int v5), (6, .int (l6 + 1))] [2, 3, 4, 5, 6, 1, 0] rfl (fun h => HH _ h h_l0)
set_option maxRecDepth 100000 in
noncomputable def bX6_was_31 (l0 : Nat) (l1 : Int32) (l2 : Int32) (l3 : Int32) (l4 : Int32) (M : Mm) : Option ((Nat × Nat × Int32 × Int32 × Int32 × Int32 × Int32 × Int32 × Mm) ⊕ Int32 × Mm) := gfI M l0 10 fun v6 => if v6 ≤ l4 then some (.inr (l3, M)) else some (.inl (2, l0, l1, l2, l3, l4, l4, 0, M))
set_option maxRecDepth 100000 in
set_option maxHeartbeats 4000000 in
theorem sX6_was_31 {x : SB} {F : ((Nat × Nat × Int32 × Int32 × Int32 × Int32 × Int32 × Int32 × Mm) ⊕ Int32 × Mm) → Prop} (X : CX x cX6_was RX6 2) (hL : x.2.2.2.1 = 7) (Hr : RTI x cX6_was .int F Sum.inr) (HH : ∀ q, F (.inl q) → pX6_was x q) {l0 : Nat} {l1 : Int32} {l2 : Int32} {l3 : Int32} {l4 : Int32} {M : Mm} (h_l0 : sh l0 = 16) : SIM x F (bX6_was_31 l0 l1 l2 l3 l4 M) 31 [(0, rf x.2.1 l0), (1, .int l1), (2, .int l2), (3, .int l3), (4, .int l4)] [] M := by
  unfold bX6_was_31
  refine r_iload X dX6_was_31 4 rfl ?_
  refine r_aload_n X dX6_was_33 rfl 0 rfl ?_
  refine r_getI X fl_X6_167 (by decide) h_l0 dX6_was_34 (fun v6 => ?_)
  refine r_icmp_ge 97 X dX6_was_37 (by decide) ?_ ?_
  · refine r_iload_n X dX6_was_97 rfl 3 rfl ?_
    exact r_iret Hr rfl dX6_was_98
  · refine r_iload X dX6_was_40 4 rfl ?_
    refine r_istore [(5, .int l4), (0, rf x.2.1 l0), (1, .int l1), (2, .int l2), (3, .int l3), (4, .int l4)] X dX6_was_42 (nlt hL (by decide)) rfl ?_
    refine r_iconst (v := 0) X dX6_was_44 (by decide) ?_
    refine r_istore [(6, .int 0), (5, .int l4), (0, rf x.2.1 l0), (1, .int l1), (2, .int l2), (3, .int l3), (4, .int l4)] X dX6_was_45 (nlt hL (by decide)) rfl ?_
    exact r_hdr [(0, rf x.2.1 l0), (1, .int l1), (2, .int l2), (3, .int l3), (4, .int l4), (5, .int l4), (6, .int 0)] [2, 3, 4, 5, 6, 1, 0] rfl (fun h => HH _ h h_l0)
set_option maxRecDepth 100000 in
noncomputable def bX6_was_24  (M : Mm) : Option ((Nat × Nat × Int32 × Int32 × Int32 × Int32 × Int32 × Int32 × Mm) ⊕ Int32 × Mm) := some (.inr ((-1), M))
set_option maxRecDepth 100000 in
set_option maxHeartbeats 4000000 in
theorem sX6_was_24 {x : SB} {F : ((Nat × Nat × Int32 × Int32 × Int32 × Int32 × Int32 × Int32 × Mm) ⊕ Int32 × Mm) → Prop} (X : CX x cX6_was RX6 2) (hL : x.2.2.2.1 = 7) (Hr : RTI x cX6_was .int F Sum.inr) (HH : ∀ q, F (.inl q) → pX6_was x q)  {M : Mm}  : SIM x F (bX6_was_24  M) 24 [] [] M := by
  unfold bX6_was_24
  refine r_iconst (v := (-1)) X dX6_was_24 (by decide) ?_
  exact r_iret Hr rfl dX6_was_25
set_option maxRecDepth 100000 in
noncomputable def bX6_was_0 (l0 : Nat) (l1 : Int32) (l2 : Int32) (M : Mm) : Option ((Nat × Nat × Int32 × Int32 × Int32 × Int32 × Int32 × Int32 × Mm) ⊕ Int32 × Mm) := gfI M l0 11 fun v7 => cal (fX6_in l1 0 (v7 - 1) M) fun v9 M8 => if v9 = 0 then bX6_was_24 M8 else cal (fX6_in l2 0 40 M8) fun v11 M10 => if v11 = 0 then bX6_was_24 M10 else some (.inl (1, l0, l1, l2, 0, 0, 0, 0, M10))
set_option maxRecDepth 100000 in
set_option maxHeartbeats 4000000 in
theorem sX6_was_0 {x : SB} {F : ((Nat × Nat × Int32 × Int32 × Int32 × Int32 × Int32 × Int32 × Mm) ⊕ Int32 × Mm) → Prop} (X : CX x cX6_was RX6 2) (hL : x.2.2.2.1 = 7) (Hr : RTI x cX6_was .int F Sum.inr) (HH : ∀ q, F (.inl q) → pX6_was x q) {l0 : Nat} {l1 : Int32} {l2 : Int32} {M : Mm} (h_l0 : sh l0 = 16) : SIM x F (bX6_was_0 l0 l1 l2 M) 0 [(0, rf x.2.1 l0), (1, .int l1), (2, .int l2)] [] M := by
  unfold bX6_was_0
  refine r_iload_n X dX6_was_0 rfl 1 rfl ?_
  refine r_iconst (v := 0) X dX6_was_1 (by decide) ?_
  refine r_aload_n X dX6_was_2 rfl 0 rfl ?_
  refine r_getI X fl_X6_170 (by decide) h_l0 dX6_was_3 (fun v7 => ?_)
  refine r_iconst (v := 1) X dX6_was_6 (by decide) ?_
  refine r_isub X dX6_was_7 ?_
  refine r_callSI [.int l1, .int 0, .int (v7 - 1)] X mt_X6_92 (by decide) (okX6_in _ _ X.J) rfl (Nat.le_of_ble_eq_true rfl) dX6_was_8 rfl (fun v9 M8 => ?_)
  refine r_if_eq 24 X dX6_was_11 (by decide) ?_ ?_
  · exact r_to [] [] rfl (sX6_was_24 X hL Hr HH)
  · refine r_iload_n X dX6_was_14 rfl 2 rfl ?_
    refine r_iconst (v := 0) X dX6_was_15 (by decide) ?_
    refine r_bipush (v := 40) X dX6_was_16 (by decide) ?_
    refine r_callSI [.int l2, .int 0, .int 40] X mt_X6_92 (by decide) (okX6_in _ _ X.J) rfl (Nat.le_of_ble_eq_true rfl) dX6_was_18 rfl (fun v11 M10 => ?_)
    refine r_if_ne 26 X dX6_was_21 (by decide) ?_ ?_
    · exact r_to [] [] rfl (sX6_was_24 X hL Hr HH)
    · refine r_iconst (v := 0) X dX6_was_26 (by decide) ?_
      refine r_istore_n [(3, .int 0), (0, rf x.2.1 l0), (1, .int l1), (2, .int l2)] X dX6_was_27 rfl (nlt hL (by decide)) rfl ?_
      refine r_iconst (v := 0) X dX6_was_28 (by decide) ?_
      refine r_istore [(4, .int 0), (3, .int 0), (0, rf x.2.1 l0), (1, .int l1), (2, .int l2)] X dX6_was_29 (nlt hL (by decide)) rfl ?_
      exact r_hdr [(0, rf x.2.1 l0), (1, .int l1), (2, .int l2), (3, .int 0), (4, .int 0)] [2, 3, 4, 1, 0] rfl (fun h => HH _ h h_l0)
set_option maxRecDepth 100000 in
noncomputable def gX6_was (q : Nat × Nat × Int32 × Int32 × Int32 × Int32 × Int32 × Int32 × Mm) : Option ((Nat × Nat × Int32 × Int32 × Int32 × Int32 × Int32 × Int32 × Mm) ⊕ Int32 × Mm) := match q.1 with
  | 1 => bX6_was_31 (q.2.1) (q.2.2.1) (q.2.2.2.1) (q.2.2.2.2.1) (q.2.2.2.2.2.1) (q.2.2.2.2.2.2.2.2)
  | 2 => bX6_was_47 (q.2.1) (q.2.2.1) (q.2.2.2.1) (q.2.2.2.2.1) (q.2.2.2.2.2.1) (q.2.2.2.2.2.2.1) (q.2.2.2.2.2.2.2.1) (q.2.2.2.2.2.2.2.2)
  | _ => none
set_option maxRecDepth 100000 in
noncomputable def fX6_was (l0 : Nat) (l1 : Int32) (l2 : Int32) (M : Mm) : Option (Int32 × Mm) := fen gX6_was (bX6_was_0 l0 l1 l2 M)
set_option maxRecDepth 100000 in
set_option maxHeartbeats 4000000 in
theorem okX6_was (l : Launch) (g : GX) (hJ : IJ g) {l0 : Nat} {l1 : Int32} {l2 : Int32} {M : Mm} (h_l0 : sh l0 = 16) : CT l g yX6_was cX6_was 7 (some .int) 2 [rf g l0, .int l1, .int l2] M (fX6_was l0 l1 l2 M) (fun r => some (.int r)) := by
  refine ct_I rfl hJ (Nat.le_of_ble_eq_true rfl) (fun x r hg hL hl X hf Hr => ?_)
  subst hg
  have Hr2 : RTI x cX6_was .int (Sum.elim (pX6_was x) (fun q => q = r)) Sum.inr := fun v M h => Hr v M h
  have HP : ∀ q, fnl gX6_was q = some r → pX6_was x q := by
    intro q hq
    refine fnl_ind (pX6_was x) (fun q hq => ?_) hq
    obtain ⟨n, l0, l1, l2, l3, l4, l5, l6, M⟩ := q
    match n, hq with
    | 1, hq => exact fun h_l0 ls H locs hl hP hS => sX6_was_31 X hL Hr2 (fun _ h => h) h_l0 hq ls H locs hl hP hS
    | 2, hq => exact fun h_l0 ls H locs hl hP hS => sX6_was_47 X hL Hr2 (fun _ h => h) h_l0 hq ls H locs hl hP hS
    | 0, hq => exact trivial
    | n + 3, hq => exact trivial
  exact fun _ ls H locs hl hP hS => sX6_was_0 X hL Hr2 (fun _ h => h) h_l0 (fen_w hf HP) ls H locs hl hP hS
/-! CrumbWoodModel.ways(I)I -/
set_option maxRecDepth 100000 in
def pX6_ways (x : SB) (q : Nat × Nat × Int32 × Int32 × Int32 × Mm) : Prop := match q.1 with
  | 1 => sh q.2.1 = 16 → ∀ (ls : Array Slot) (H : Heap) (locs : List Loc), lv_has ls x.2.2.2.1 [(0, rf x.2.1 q.2.1), (1, .int q.2.2.1), (2, .int q.2.2.2.1), (3, .int q.2.2.2.2.1)] → PW x.2.1 (q.2.2.2.2.2) H → SH x H locs → SW x H locs 38 ls []
  | _ => True
set_option maxRecDepth 100000 in
noncomputable def bX6_ways_125 (l0 : Nat) (l1 : Int32) (l2 : Int32) (M : Mm) : Option ((Nat × Nat × Int32 × Int32 × Int32 × Mm) ⊕ Int32 × Mm) := gfR M 0 l0 39 fun v1 => ldI M v1 ((8 : Int32) * l1) fun v2 => cal (fX6_tells l0 l2 v2 M) fun v4 M3 => some (.inr (v4, M3))
set_option maxRecDepth 100000 in
set_option maxHeartbeats 4000000 in
theorem sX6_ways_125 {x : SB} {F : ((Nat × Nat × Int32 × Int32 × Int32 × Mm) ⊕ Int32 × Mm) → Prop} (X : CX x cX6_ways RX6 3) (hL : x.2.2.2.1 = 5) (Hr : RTI x cX6_ways .int F Sum.inr) (HH : ∀ q, F (.inl q) → pX6_ways x q) {l0 : Nat} {l1 : Int32} {l2 : Int32} {M : Mm} (h_l0 : sh l0 = 16) : SIM x F (bX6_ways_125 l0 l1 l2 M) 125 [(0, rf x.2.1 l0), (1, .int l1), (2, .int l2)] [] M := by
  unfold bX6_ways_125
  refine r_aload_n X dX6_ways_125 rfl 0 rfl ?_
  refine r_iload_n X dX6_ways_126 rfl 2 rfl ?_
  refine r_aload_n X dX6_ways_127 rfl 0 rfl ?_
  refine r_getR X fl_X6_85 (by decide) h_l0 dX6_ways_128 (fun v1 h_v1 => ?_)
  refine r_bipush (v := 8) X dX6_ways_131 (by decide) ?_
  refine r_iload_n X dX6_ways_133 rfl 1 rfl ?_
  refine r_imul X dX6_ways_134 ?_
  refine r_iald X h_v1 dX6_ways_135 (fun v2 => ?_)
  refine r_callVI [.int l2, .int v2] X mt_X6_114 (by decide) h_l0 (by decide) (okX6_tells _ _ X.J h_l0) rfl (Nat.le_of_ble_eq_true rfl) dX6_ways_136 rfl (fun v4 M3 => ?_)
  exact r_iret Hr rfl dX6_ways_139
set_option maxRecDepth 100000 in
noncomputable def bX6_ways_118 (l0 : Nat) (l1 : Int32) (l3 : Int32) (s0 : Int32) (M : Mm) : Option ((Nat × Nat × Int32 × Int32 × Int32 × Mm) ⊕ Int32 × Mm) := some (.inl (1, l0, l1, s0, (l3 + (-1)), M))
set_option maxRecDepth 100000 in
set_option maxHeartbeats 4000000 in
theorem sX6_ways_118 {x : SB} {F : ((Nat × Nat × Int32 × Int32 × Int32 × Mm) ⊕ Int32 × Mm) → Prop} (X : CX x cX6_ways RX6 3) (hL : x.2.2.2.1 = 5) (Hr : RTI x cX6_ways .int F Sum.inr) (HH : ∀ q, F (.inl q) → pX6_ways x q) {l0 : Nat} {l1 : Int32} {l3 : Int32} {s0 : Int32} {M : Mm} (h_l0 : sh l0 = 16) : SIM x F (bX6_ways_118 l0 l1 l3 s0 M) 118 [(0, rf x.2.1 l0), (1, .int l1), (3, .int l3)] [.int s0] M := by
  unfold bX6_ways_118
  refine r_istore_n [(2, .int s0), (0, rf x.2.1 l0), (1, .int l1), (3, .int l3)] X dX6_ways_118 rfl (nlt hL (by decide)) rfl ?_
  refine r_iinc [(3, .int (l3 + (-1))), (2, .int s0), (0, rf x.2.1 l0), (1, .int l1)] X dX6_ways_119 3 rfl rfl (nlt hL (by decide)) rfl ?_
  refine r_goto 38 X dX6_ways_122 (by decide) ?_
  exact r_hdr [(0, rf x.2.1 l0), (1, .int l1), (2, .int s0), (3, .int (l3 + (-1)))] [2, 3, 1, 0] rfl (fun h => HH _ h h_l0)
set_option maxRecDepth 100000 in
noncomputable def bX6_ways_117 (l0 : Nat) (l1 : Int32) (l2 : Int32) (l3 : Int32) (M : Mm) : Option ((Nat × Nat × Int32 × Int32 × Int32 × Mm) ⊕ Int32 × Mm) := bX6_ways_118 l0 l1 l3 l2 M
set_option maxRecDepth 100000 in
set_option maxHeartbeats 4000000 in
theorem sX6_ways_117 {x : SB} {F : ((Nat × Nat × Int32 × Int32 × Int32 × Mm) ⊕ Int32 × Mm) → Prop} (X : CX x cX6_ways RX6 3) (hL : x.2.2.2.1 = 5) (Hr : RTI x cX6_ways .int F Sum.inr) (HH : ∀ q, F (.inl q) → pX6_ways x q) {l0 : Nat} {l1 : Int32} {l2 : Int32} {l3 : Int32} {M : Mm} (h_l0 : sh l0 = 16) : SIM x F (bX6_ways_117 l0 l1 l2 l3 M) 117 [(0, rf x.2.1 l0), (1, .int l1), (2, .int l2), (3, .int l3)] [] M := by
  unfold bX6_ways_117
  refine r_iload_n X dX6_ways_117 rfl 2 rfl ?_
  exact r_to [(0, rf x.2.1 l0), (1, .int l1), (3, .int l3)] [0, 1, 3] rfl (sX6_ways_118 X hL Hr HH h_l0)
set_option maxRecDepth 100000 in
noncomputable def bX6_ways_77 (l0 : Nat) (l1 : Int32) (l2 : Int32) (l3 : Int32) (s0 : Int32) (M : Mm) : Option ((Nat × Nat × Int32 × Int32 × Int32 × Mm) ⊕ Int32 × Mm) := gfR M 0 l0 13 fun v5 => ldI M v5 0 fun v6 => cal (fX6_has v6 l3 M) fun v8 M7 => if v8 = 0 then bX6_ways_117 l0 l1 l2 l3 M7 else if s0 = 0 then bX6_ways_117 l0 l1 l2 l3 M7 else gfR M7 0 l0 39 fun v9 => ldI M7 v9 (((8 : Int32) * (l1 - 1)) + l3) fun v10 => if v10 ≤ 0 then bX6_ways_117 l0 l1 l2 l3 M7 else bX6_ways_118 l0 l1 l3 l3 M7
set_option maxRecDepth 100000 in
set_option maxHeartbeats 4000000 in
theorem sX6_ways_77 {x : SB} {F : ((Nat × Nat × Int32 × Int32 × Int32 × Mm) ⊕ Int32 × Mm) → Prop} (X : CX x cX6_ways RX6 3) (hL : x.2.2.2.1 = 5) (Hr : RTI x cX6_ways .int F Sum.inr) (HH : ∀ q, F (.inl q) → pX6_ways x q) {l0 : Nat} {l1 : Int32} {l2 : Int32} {l3 : Int32} {s0 : Int32} {M : Mm} (h_l0 : sh l0 = 16) : SIM x F (bX6_ways_77 l0 l1 l2 l3 s0 M) 77 [(0, rf x.2.1 l0), (1, .int l1), (2, .int l2), (3, .int l3)] [.int s0] M := by
  unfold bX6_ways_77
  refine r_istore [(4, .int s0), (0, rf x.2.1 l0), (1, .int l1), (2, .int l2), (3, .int l3)] X dX6_ways_77 (nlt hL (by decide)) rfl ?_
  refine r_aload_n X dX6_ways_79 rfl 1 rfl ?_
  refine r_getR X fl_X6_36 (by decide) h_l0 dX6_ways_80 (fun v5 h_v5 => ?_)
  refine r_iconst (v := 0) X dX6_ways_83 (by decide) ?_
  refine r_iald X h_v5 dX6_ways_84 (fun v6 => ?_)
  refine r_iload_n X dX6_ways_85 rfl 4 rfl ?_
  refine r_callSI [.int v6, .int l3] X mt_X6_145 (by decide) (okX6_has _ _ X.J) rfl (Nat.le_of_ble_eq_true rfl) dX6_ways_86 rfl (fun v8 M7 => ?_)
  refine r_if_eq 117 X dX6_ways_89 (by decide) ?_ ?_
  · exact r_to [(0, rf x.2.1 l0), (1, .int l1), (2, .int l2), (3, .int l3)] [1, 2, 3, 4] rfl (sX6_ways_117 X hL Hr HH h_l0)
  · refine r_iload X dX6_ways_92 0 rfl ?_
    refine r_if_eq 117 X dX6_ways_94 (by decide) ?_ ?_
    · exact r_to [(0, rf x.2.1 l0), (1, .int l1), (2, .int l2), (3, .int l3)] [1, 2, 3, 4] rfl (sX6_ways_117 X hL Hr HH h_l0)
    · refine r_aload_n X dX6_ways_97 rfl 1 rfl ?_
      refine r_getR X fl_X6_85 (by decide) h_l0 dX6_ways_98 (fun v9 h_v9 => ?_)
      refine r_bipush (v := 8) X dX6_ways_101 (by decide) ?_
      refine r_iload_n X dX6_ways_103 rfl 2 rfl ?_
      refine r_iconst (v := 1) X dX6_ways_104 (by decide) ?_
      refine r_isub X dX6_ways_105 ?_
      refine r_imul X dX6_ways_106 ?_
      refine r_iload_n X dX6_ways_107 rfl 4 rfl ?_
      refine r_iadd X dX6_ways_108 ?_
      refine r_iald X h_v9 dX6_ways_109 (fun v10 => ?_)
      refine r_if_le 117 X dX6_ways_110 (by decide) ?_ ?_
      · exact r_to [(0, rf x.2.1 l0), (1, .int l1), (2, .int l2), (3, .int l3)] [1, 2, 3, 4] rfl (sX6_ways_117 X hL Hr HH h_l0)
      · refine r_iload_n X dX6_ways_113 rfl 4 rfl ?_
        refine r_goto 118 X dX6_ways_114 (by decide) ?_
        exact r_to [(0, rf x.2.1 l0), (1, .int l1), (3, .int l3)] [1, 2, 4] rfl (sX6_ways_118 X hL Hr HH h_l0)
set_option maxRecDepth 100000 in
noncomputable def bX6_ways_38 (l0 : Nat) (l1 : Int32) (l2 : Int32) (l3 : Int32) (M : Mm) : Option ((Nat × Nat × Int32 × Int32 × Int32 × Mm) ⊕ Int32 × Mm) := if l3 < 0 then bX6_ways_125 l0 l1 l2 M else if l1 ≤ 0 then bX6_ways_125 l0 l1 l2 M else cal (fX6_marks l0 0 0 l3 M) fun v12 M11 => cal (fX6_marks l0 0 1 l3 M11) fun v14 M13 => cal (fX6_marks l0 0 2 l3 M13) fun v16 M15 => if ((v12 + v14) + v16) ≤ 0 then bX6_ways_77 l0 l1 l2 l3 0 M15 else bX6_ways_77 l0 l1 l2 l3 1 M15
set_option maxRecDepth 100000 in
set_option maxHeartbeats 4000000 in
theorem sX6_ways_38 {x : SB} {F : ((Nat × Nat × Int32 × Int32 × Int32 × Mm) ⊕ Int32 × Mm) → Prop} (X : CX x cX6_ways RX6 3) (hL : x.2.2.2.1 = 5) (Hr : RTI x cX6_ways .int F Sum.inr) (HH : ∀ q, F (.inl q) → pX6_ways x q) {l0 : Nat} {l1 : Int32} {l2 : Int32} {l3 : Int32} {M : Mm} (h_l0 : sh l0 = 16) : SIM x F (bX6_ways_38 l0 l1 l2 l3 M) 38 [(0, rf x.2.1 l0), (1, .int l1), (2, .int l2), (3, .int l3)] [] M := by
  unfold bX6_ways_38
  refine r_iload_n X dX6_ways_38 rfl 3 rfl ?_
  refine r_if_lt 125 X dX6_ways_39 (by decide) ?_ ?_
  · exact r_to [(0, rf x.2.1 l0), (1, .int l1), (2, .int l2)] [0, 1, 2] rfl (sX6_ways_125 X hL Hr HH h_l0)
  · refine r_iload_n X dX6_ways_42 rfl 1 rfl ?_
    refine r_if_le 125 X dX6_ways_43 (by decide) ?_ ?_
    · exact r_to [(0, rf x.2.1 l0), (1, .int l1), (2, .int l2)] [0, 1, 2] rfl (sX6_ways_125 X hL Hr HH h_l0)
    · refine r_aload_n X dX6_ways_46 rfl 0 rfl ?_
      refine r_iconst (v := 0) X dX6_ways_47 (by decide) ?_
      refine r_iconst (v := 0) X dX6_ways_48 (by decide) ?_
      refine r_iload_n X dX6_ways_49 rfl 3 rfl ?_
      refine r_callVI [.int 0, .int 0, .int l3] X mt_X6_184 (by decide) h_l0 (by decide) (okX6_marks _ _ X.J h_l0) rfl (Nat.le_of_ble_eq_true rfl) dX6_ways_50 rfl (fun v12 M11 => ?_)
      refine r_aload_n X dX6_ways_53 rfl 0 rfl ?_
      refine r_iconst (v := 0) X dX6_ways_54 (by decide) ?_
      refine r_iconst (v := 1) X dX6_ways_55 (by decide) ?_
      refine r_iload_n X dX6_ways_56 rfl 3 rfl ?_
      refine r_callVI [.int 0, .int 1, .int l3] X mt_X6_184 (by decide) h_l0 (by decide) (okX6_marks _ _ X.J h_l0) rfl (Nat.le_of_ble_eq_true rfl) dX6_ways_57 rfl (fun v14 M13 => ?_)
      refine r_iadd X dX6_ways_60 ?_
      refine r_aload_n X dX6_ways_61 rfl 0 rfl ?_
      refine r_iconst (v := 0) X dX6_ways_62 (by decide) ?_
      refine r_iconst (v := 2) X dX6_ways_63 (by decide) ?_
      refine r_iload_n X dX6_ways_64 rfl 3 rfl ?_
      refine r_callVI [.int 0, .int 2, .int l3] X mt_X6_184 (by decide) h_l0 (by decide) (okX6_marks _ _ X.J h_l0) rfl (Nat.le_of_ble_eq_true rfl) dX6_ways_65 rfl (fun v16 M15 => ?_)
      refine r_iadd X dX6_ways_68 ?_
      refine r_if_le 76 X dX6_ways_69 (by decide) ?_ ?_
      · refine r_iconst (v := 0) X dX6_ways_76 (by decide) ?_
        exact r_to [(0, rf x.2.1 l0), (1, .int l1), (2, .int l2), (3, .int l3)] [0, 1, 2, 3] rfl (sX6_ways_77 X hL Hr HH h_l0)
      · refine r_iconst (v := 1) X dX6_ways_72 (by decide) ?_
        refine r_goto 77 X dX6_ways_73 (by decide) ?_
        exact r_to [(0, rf x.2.1 l0), (1, .int l1), (2, .int l2), (3, .int l3)] [0, 1, 2, 3] rfl (sX6_ways_77 X hL Hr HH h_l0)
set_option maxRecDepth 100000 in
noncomputable def bX6_ways_0 (l0 : Nat) (l1 : Int32) (M : Mm) : Option ((Nat × Nat × Int32 × Int32 × Int32 × Mm) ⊕ Int32 × Mm) := cal (fX6_in l1 0 8 M) fun v18 M17 => if v18 = 0 then some (.inr ((-1), M17)) else gfI M17 l0 10 fun v19 => if v19 = 0 then some (.inr ((-4), M17)) else cal (fX6_layWays l0 l1 0 M17) fun _ M20 => gfI M20 l0 10 fun v21 => ltI (v21 - 1) fun v22 => some (.inl (1, l0, l1, (-9), v22, M20))
set_option maxRecDepth 100000 in
set_option maxHeartbeats 4000000 in
theorem sX6_ways_0 {x : SB} {F : ((Nat × Nat × Int32 × Int32 × Int32 × Mm) ⊕ Int32 × Mm) → Prop} (X : CX x cX6_ways RX6 3) (hL : x.2.2.2.1 = 5) (Hr : RTI x cX6_ways .int F Sum.inr) (HH : ∀ q, F (.inl q) → pX6_ways x q) {l0 : Nat} {l1 : Int32} {M : Mm} (h_l0 : sh l0 = 16) : SIM x F (bX6_ways_0 l0 l1 M) 0 [(0, rf x.2.1 l0), (1, .int l1)] [] M := by
  unfold bX6_ways_0
  refine r_iload_n X dX6_ways_0 rfl 1 rfl ?_
  refine r_iconst (v := 0) X dX6_ways_1 (by decide) ?_
  refine r_bipush (v := 8) X dX6_ways_2 (by decide) ?_
  refine r_callSI [.int l1, .int 0, .int 8] X mt_X6_92 (by decide) (okX6_in _ _ X.J) rfl (Nat.le_of_ble_eq_true rfl) dX6_ways_4 rfl (fun v18 M17 => ?_)
  refine r_if_ne 12 X dX6_ways_7 (by decide) ?_ ?_
  · refine r_iconst (v := (-1)) X dX6_ways_10 (by decide) ?_
    exact r_iret Hr rfl dX6_ways_11
  · refine r_aload_n X dX6_ways_12 rfl 0 rfl ?_
    refine r_getI X fl_X6_167 (by decide) h_l0 dX6_ways_13 (fun v19 => ?_)
    refine r_if_ne 22 X dX6_ways_16 (by decide) ?_ ?_
    · refine r_bipush (v := (-4)) X dX6_ways_19 (by decide) ?_
      exact r_iret Hr rfl dX6_ways_21
    · refine r_aload_n X dX6_ways_22 rfl 0 rfl ?_
      refine r_iload_n X dX6_ways_23 rfl 1 rfl ?_
      refine r_iconst (v := 0) X dX6_ways_24 (by decide) ?_
      refine r_callVV [.int l1, .int 0] X mt_X6_282 (by decide) h_l0 (by decide) (okX6_layWays _ _ X.J h_l0) rfl (Nat.le_of_ble_eq_true rfl) dX6_ways_25 rfl (fun _ M20 => ?_)
      refine r_bipush (v := (-9)) X dX6_ways_28 (by decide) ?_
      refine r_istore_n [(2, .int (-9)), (0, rf x.2.1 l0), (1, .int l1)] X dX6_ways_30 rfl (nlt hL (by decide)) rfl ?_
      refine r_aload_n X dX6_ways_31 rfl 1 rfl ?_
      refine r_getI X fl_X6_167 (by decide) h_l0 dX6_ways_32 (fun v21 => ?_)
      refine r_iconst (v := 1) X dX6_ways_35 (by decide) ?_
      refine r_isub X dX6_ways_36 ?_
      refine r_letI (fun v22 => ?_)
      refine r_istore_n [(3, .int v22), (2, .int (-9)), (0, rf x.2.1 l0), (1, .int l1)] X dX6_ways_37 rfl (nlt hL (by decide)) rfl ?_
      exact r_hdr [(0, rf x.2.1 l0), (1, .int l1), (2, .int (-9)), (3, .int v22)] [2, 3, 1, 0] rfl (fun h => HH _ h h_l0)
set_option maxRecDepth 100000 in
noncomputable def gX6_ways (q : Nat × Nat × Int32 × Int32 × Int32 × Mm) : Option ((Nat × Nat × Int32 × Int32 × Int32 × Mm) ⊕ Int32 × Mm) := match q.1 with
  | 1 => bX6_ways_38 (q.2.1) (q.2.2.1) (q.2.2.2.1) (q.2.2.2.2.1) (q.2.2.2.2.2)
  | _ => none
set_option maxRecDepth 100000 in
noncomputable def fX6_ways (l0 : Nat) (l1 : Int32) (M : Mm) : Option (Int32 × Mm) := fen gX6_ways (bX6_ways_0 l0 l1 M)
set_option maxRecDepth 100000 in
set_option maxHeartbeats 4000000 in
theorem okX6_ways (l : Launch) (g : GX) (hJ : IJ g) {l0 : Nat} {l1 : Int32} {M : Mm} (h_l0 : sh l0 = 16) : CT l g yX6_ways cX6_ways 5 (some .int) 3 [rf g l0, .int l1] M (fX6_ways l0 l1 M) (fun r => some (.int r)) := by
  refine ct_I rfl hJ (Nat.le_of_ble_eq_true rfl) (fun x r hg hL hl X hf Hr => ?_)
  subst hg
  have Hr2 : RTI x cX6_ways .int (Sum.elim (pX6_ways x) (fun q => q = r)) Sum.inr := fun v M h => Hr v M h
  have HP : ∀ q, fnl gX6_ways q = some r → pX6_ways x q := by
    intro q hq
    refine fnl_ind (pX6_ways x) (fun q hq => ?_) hq
    obtain ⟨n, l0, l1, l2, l3, M⟩ := q
    match n, hq with
    | 1, hq => exact fun h_l0 ls H locs hl hP hS => sX6_ways_38 X hL Hr2 (fun _ h => h) h_l0 hq ls H locs hl hP hS
    | 0, hq => exact trivial
    | n + 2, hq => exact trivial
  exact fun _ ls H locs hl hP hS => sX6_ways_0 X hL Hr2 (fun _ h => h) h_l0 (fen_w hf HP) ls H locs hl hP hS
/-! CrumbWoodModel.wood(I)I -/
set_option maxRecDepth 100000 in
def pX6_wood (x : SB) (q : Nat × Nat × Int32 × Mm) : Prop := match q.1 with
  | 1 => sh q.2.1 = 16 → ∀ (ls : Array Slot) (H : Heap) (locs : List Loc), lv_has ls x.2.2.2.1 [(0, rf x.2.1 q.2.1), (2, .int q.2.2.1)] → PW x.2.1 (q.2.2.2) H → SH x H locs → SW x H locs 55 ls []
  | 2 => sh q.2.1 = 16 → ∀ (ls : Array Slot) (H : Heap) (locs : List Loc), lv_has ls x.2.2.2.1 [(0, rf x.2.1 q.2.1), (2, .int q.2.2.1)] → PW x.2.1 (q.2.2.2) H → SH x H locs → SW x H locs 77 ls []
  | 3 => sh q.2.1 = 16 → ∀ (ls : Array Slot) (H : Heap) (locs : List Loc), lv_has ls x.2.2.2.1 [(0, rf x.2.1 q.2.1), (2, .int q.2.2.1)] → PW x.2.1 (q.2.2.2) H → SH x H locs → SW x H locs 117 ls []
  | 4 => sh q.2.1 = 16 → ∀ (ls : Array Slot) (H : Heap) (locs : List Loc), lv_has ls x.2.2.2.1 [(0, rf x.2.1 q.2.1), (2, .int q.2.2.1)] → PW x.2.1 (q.2.2.2) H → SH x H locs → SW x H locs 147 ls []
  | 5 => sh q.2.1 = 16 → ∀ (ls : Array Slot) (H : Heap) (locs : List Loc), lv_has ls x.2.2.2.1 [(0, rf x.2.1 q.2.1), (2, .int q.2.2.1)] → PW x.2.1 (q.2.2.2) H → SH x H locs → SW x H locs 186 ls []
  | _ => True
set_option maxRecDepth 100000 in
noncomputable def bX6_wood_186 (l0 : Nat) (l2 : Int32) (M : Mm) : Option ((Nat × Nat × Int32 × Mm) ⊕ Int32 × Mm) := if 3 ≤ l2 then gfI M l0 10 fun v1 => some (.inr (v1, M)) else gfR M 2 l0 27 fun v2 => stI M v2 l2 (vp_nar .boolean 0) fun M3 => some (.inl (5, l0, (l2 + 1), M3))
set_option maxRecDepth 100000 in
set_option maxHeartbeats 4000000 in
theorem sX6_wood_186 {x : SB} {F : ((Nat × Nat × Int32 × Mm) ⊕ Int32 × Mm) → Prop} (X : CX x cX6_wood RX6 4) (hL : x.2.2.2.1 = 3) (Hr : RTI x cX6_wood .int F Sum.inr) (HH : ∀ q, F (.inl q) → pX6_wood x q) {l0 : Nat} {l2 : Int32} {M : Mm} (h_l0 : sh l0 = 16) : SIM x F (bX6_wood_186 l0 l2 M) 186 [(0, rf x.2.1 l0), (2, .int l2)] [] M := by
  unfold bX6_wood_186
  refine r_iload_n X dX6_wood_186 rfl 1 rfl ?_
  refine r_iconst (v := 3) X dX6_wood_187 (by decide) ?_
  refine r_icmp_ge 204 X dX6_wood_188 (by decide) ?_ ?_
  · refine r_aload_n X dX6_wood_204 rfl 0 rfl ?_
    refine r_getI X fl_X6_167 (by decide) h_l0 dX6_wood_205 (fun v1 => ?_)
    exact r_iret Hr rfl dX6_wood_208
  · refine r_aload_n X dX6_wood_191 rfl 0 rfl ?_
    refine r_getR X fl_X6_57 (by decide) h_l0 dX6_wood_192 (fun v2 h_v2 => ?_)
    refine r_iload_n X dX6_wood_195 rfl 1 rfl ?_
    refine r_iconst (v := 0) X dX6_wood_196 (by decide) ?_
    refine r_zast X h_v2 dX6_wood_197 (fun M3 => ?_)
    refine r_iinc [(2, .int (l2 + 1)), (0, rf x.2.1 l0)] X dX6_wood_198 1 rfl rfl (nlt hL (by decide)) rfl ?_
    refine r_goto 186 X dX6_wood_201 (by decide) ?_
    exact r_hdr [(0, rf x.2.1 l0), (2, .int (l2 + 1))] [1, 0] rfl (fun h => HH _ h h_l0)
set_option maxRecDepth 100000 in
noncomputable def bX6_wood_147 (l0 : Nat) (l2 : Int32) (M : Mm) : Option ((Nat × Nat × Int32 × Mm) ⊕ Int32 × Mm) := if 3 ≤ l2 then pfI M l0 25 0 fun M4 => gfR M4 0 l0 26 fun v5 => stI M4 v5 0 0 fun M6 => some (.inl (5, l0, 0, M6)) else gfR M 0 l0 22 fun v7 => ldI M v7 l2 fun v8 => cal (fX6_set l0 0 36 l2 v8 M) fun _ M9 => some (.inl (4, l0, (l2 + 1), M9))
set_option maxRecDepth 100000 in
set_option maxHeartbeats 4000000 in
theorem sX6_wood_147 {x : SB} {F : ((Nat × Nat × Int32 × Mm) ⊕ Int32 × Mm) → Prop} (X : CX x cX6_wood RX6 4) (hL : x.2.2.2.1 = 3) (Hr : RTI x cX6_wood .int F Sum.inr) (HH : ∀ q, F (.inl q) → pX6_wood x q) {l0 : Nat} {l2 : Int32} {M : Mm} (h_l0 : sh l0 = 16) : SIM x F (bX6_wood_147 l0 l2 M) 147 [(0, rf x.2.1 l0), (2, .int l2)] [] M := by
  unfold bX6_wood_147
  refine r_iload_n X dX6_wood_147 rfl 1 rfl ?_
  refine r_iconst (v := 3) X dX6_wood_148 (by decide) ?_
  refine r_icmp_ge 172 X dX6_wood_149 (by decide) ?_ ?_
  · refine r_aload_n X dX6_wood_172 rfl 0 rfl ?_
    refine r_iconst (v := 0) X dX6_wood_173 (by decide) ?_
    refine r_putI X fl_X6_177 (by decide) h_l0 (fun _ => rfl) (fun _ => rfl) dX6_wood_174 (fun M4 => ?_)
    refine r_aload_n X dX6_wood_177 rfl 0 rfl ?_
    refine r_getR X fl_X6_54 (by decide) h_l0 dX6_wood_178 (fun v5 h_v5 => ?_)
    refine r_iconst (v := 0) X dX6_wood_181 (by decide) ?_
    refine r_iconst (v := 0) X dX6_wood_182 (by decide) ?_
    refine r_iast X h_v5 dX6_wood_183 (fun M6 => ?_)
    refine r_iconst (v := 0) X dX6_wood_184 (by decide) ?_
    refine r_istore_n [(2, .int 0), (0, rf x.2.1 l0)] X dX6_wood_185 rfl (nlt hL (by decide)) rfl ?_
    exact r_hdr [(0, rf x.2.1 l0), (2, .int 0)] [1, 0] rfl (fun h => HH _ h h_l0)
  · refine r_aload_n X dX6_wood_152 rfl 0 rfl ?_
    refine r_iconst (v := 0) X dX6_wood_153 (by decide) ?_
    refine r_bipush (v := 36) X dX6_wood_154 (by decide) ?_
    refine r_iload_n X dX6_wood_156 rfl 1 rfl ?_
    refine r_aload_n X dX6_wood_157 rfl 0 rfl ?_
    refine r_getR X fl_X6_48 (by decide) h_l0 dX6_wood_158 (fun v7 h_v7 => ?_)
    refine r_iload_n X dX6_wood_161 rfl 1 rfl ?_
    refine r_iald X h_v7 dX6_wood_162 (fun v8 => ?_)
    refine r_callVV [.int 0, .int 36, .int l2, .int v8] X mt_X6_173 (by decide) h_l0 (by decide) (okX6_set _ _ X.J h_l0) rfl (Nat.le_of_ble_eq_true rfl) dX6_wood_163 rfl (fun _ M9 => ?_)
    refine r_iinc [(2, .int (l2 + 1)), (0, rf x.2.1 l0)] X dX6_wood_166 1 rfl rfl (nlt hL (by decide)) rfl ?_
    refine r_goto 147 X dX6_wood_169 (by decide) ?_
    exact r_hdr [(0, rf x.2.1 l0), (2, .int (l2 + 1))] [1, 0] rfl (fun h => HH _ h h_l0)
set_option maxRecDepth 100000 in
noncomputable def bX6_wood_117 (l0 : Nat) (l2 : Int32) (M : Mm) : Option ((Nat × Nat × Int32 × Mm) ⊕ Int32 × Mm) := gfI M l0 11 fun v10 => if v10 ≤ l2 then some (.inl (4, l0, 0, M)) else gfR M 0 l0 21 fun v11 => ldI M v11 l2 fun v12 => cal (fX6_set l0 0 32 l2 v12 M) fun _ M13 => some (.inl (3, l0, (l2 + 1), M13))
set_option maxRecDepth 100000 in
set_option maxHeartbeats 4000000 in
theorem sX6_wood_117 {x : SB} {F : ((Nat × Nat × Int32 × Mm) ⊕ Int32 × Mm) → Prop} (X : CX x cX6_wood RX6 4) (hL : x.2.2.2.1 = 3) (Hr : RTI x cX6_wood .int F Sum.inr) (HH : ∀ q, F (.inl q) → pX6_wood x q) {l0 : Nat} {l2 : Int32} {M : Mm} (h_l0 : sh l0 = 16) : SIM x F (bX6_wood_117 l0 l2 M) 117 [(0, rf x.2.1 l0), (2, .int l2)] [] M := by
  unfold bX6_wood_117
  refine r_iload_n X dX6_wood_117 rfl 1 rfl ?_
  refine r_aload_n X dX6_wood_118 rfl 0 rfl ?_
  refine r_getI X fl_X6_170 (by decide) h_l0 dX6_wood_119 (fun v10 => ?_)
  refine r_icmp_ge 145 X dX6_wood_122 (by decide) ?_ ?_
  · refine r_iconst (v := 0) X dX6_wood_145 (by decide) ?_
    refine r_istore_n [(2, .int 0), (0, rf x.2.1 l0)] X dX6_wood_146 rfl (nlt hL (by decide)) rfl ?_
    exact r_hdr [(0, rf x.2.1 l0), (2, .int 0)] [1, 0] rfl (fun h => HH _ h h_l0)
  · refine r_aload_n X dX6_wood_125 rfl 0 rfl ?_
    refine r_iconst (v := 0) X dX6_wood_126 (by decide) ?_
    refine r_bipush (v := 32) X dX6_wood_127 (by decide) ?_
    refine r_iload_n X dX6_wood_129 rfl 1 rfl ?_
    refine r_aload_n X dX6_wood_130 rfl 0 rfl ?_
    refine r_getR X fl_X6_45 (by decide) h_l0 dX6_wood_131 (fun v11 h_v11 => ?_)
    refine r_iload_n X dX6_wood_134 rfl 1 rfl ?_
    refine r_iald X h_v11 dX6_wood_135 (fun v12 => ?_)
    refine r_callVV [.int 0, .int 32, .int l2, .int v12] X mt_X6_173 (by decide) h_l0 (by decide) (okX6_set _ _ X.J h_l0) rfl (Nat.le_of_ble_eq_true rfl) dX6_wood_136 rfl (fun _ M13 => ?_)
    refine r_iinc [(2, .int (l2 + 1)), (0, rf x.2.1 l0)] X dX6_wood_139 1 rfl rfl (nlt hL (by decide)) rfl ?_
    refine r_goto 117 X dX6_wood_142 (by decide) ?_
    exact r_hdr [(0, rf x.2.1 l0), (2, .int (l2 + 1))] [1, 0] rfl (fun h => HH _ h h_l0)
set_option maxRecDepth 100000 in
noncomputable def bX6_wood_77 (l0 : Nat) (l2 : Int32) (M : Mm) : Option ((Nat × Nat × Int32 × Mm) ⊕ Int32 × Mm) := gfI M l0 10 fun v14 => if v14 ≤ l2 then some (.inl (3, l0, 0, M)) else gfR M 0 l0 12 fun v15 => gfR M 0 l0 19 fun v16 => ldI M v16 l2 fun v17 => stI M v15 l2 v17 fun M18 => gfR M18 0 l0 13 fun v19 => gfR M18 0 l0 20 fun v20 => ldI M18 v20 l2 fun v21 => stI M18 v19 l2 v21 fun M22 => some (.inl (2, l0, (l2 + 1), M22))
set_option maxRecDepth 100000 in
set_option maxHeartbeats 4000000 in
theorem sX6_wood_77 {x : SB} {F : ((Nat × Nat × Int32 × Mm) ⊕ Int32 × Mm) → Prop} (X : CX x cX6_wood RX6 4) (hL : x.2.2.2.1 = 3) (Hr : RTI x cX6_wood .int F Sum.inr) (HH : ∀ q, F (.inl q) → pX6_wood x q) {l0 : Nat} {l2 : Int32} {M : Mm} (h_l0 : sh l0 = 16) : SIM x F (bX6_wood_77 l0 l2 M) 77 [(0, rf x.2.1 l0), (2, .int l2)] [] M := by
  unfold bX6_wood_77
  refine r_iload_n X dX6_wood_77 rfl 1 rfl ?_
  refine r_aload_n X dX6_wood_78 rfl 0 rfl ?_
  refine r_getI X fl_X6_167 (by decide) h_l0 dX6_wood_79 (fun v14 => ?_)
  refine r_icmp_ge 115 X dX6_wood_82 (by decide) ?_ ?_
  · refine r_iconst (v := 0) X dX6_wood_115 (by decide) ?_
    refine r_istore_n [(2, .int 0), (0, rf x.2.1 l0)] X dX6_wood_116 rfl (nlt hL (by decide)) rfl ?_
    exact r_hdr [(0, rf x.2.1 l0), (2, .int 0)] [1, 0] rfl (fun h => HH _ h h_l0)
  · refine r_aload_n X dX6_wood_85 rfl 0 rfl ?_
    refine r_getR X fl_X6_33 (by decide) h_l0 dX6_wood_86 (fun v15 h_v15 => ?_)
    refine r_iload_n X dX6_wood_89 rfl 1 rfl ?_
    refine r_aload_n X dX6_wood_90 rfl 0 rfl ?_
    refine r_getR X fl_X6_39 (by decide) h_l0 dX6_wood_91 (fun v16 h_v16 => ?_)
    refine r_iload_n X dX6_wood_94 rfl 1 rfl ?_
    refine r_iald X h_v16 dX6_wood_95 (fun v17 => ?_)
    refine r_iast X h_v15 dX6_wood_96 (fun M18 => ?_)
    refine r_aload_n X dX6_wood_97 rfl 0 rfl ?_
    refine r_getR X fl_X6_36 (by decide) h_l0 dX6_wood_98 (fun v19 h_v19 => ?_)
    refine r_iload_n X dX6_wood_101 rfl 1 rfl ?_
    refine r_aload_n X dX6_wood_102 rfl 0 rfl ?_
    refine r_getR X fl_X6_42 (by decide) h_l0 dX6_wood_103 (fun v20 h_v20 => ?_)
    refine r_iload_n X dX6_wood_106 rfl 1 rfl ?_
    refine r_iald X h_v20 dX6_wood_107 (fun v21 => ?_)
    refine r_iast X h_v19 dX6_wood_108 (fun M22 => ?_)
    refine r_iinc [(2, .int (l2 + 1)), (0, rf x.2.1 l0)] X dX6_wood_109 1 rfl rfl (nlt hL (by decide)) rfl ?_
    refine r_goto 77 X dX6_wood_112 (by decide) ?_
    exact r_hdr [(0, rf x.2.1 l0), (2, .int (l2 + 1))] [1, 0] rfl (fun h => HH _ h h_l0)
set_option maxRecDepth 100000 in
noncomputable def bX6_wood_55 (l0 : Nat) (l2 : Int32) (M : Mm) : Option ((Nat × Nat × Int32 × Mm) ⊕ Int32 × Mm) := if 39 ≤ l2 then some (.inl (2, l0, 0, M)) else cal (fX6_set l0 0 l2 0 0 M) fun _ M23 => some (.inl (1, l0, (l2 + 1), M23))
set_option maxRecDepth 100000 in
set_option maxHeartbeats 4000000 in
theorem sX6_wood_55 {x : SB} {F : ((Nat × Nat × Int32 × Mm) ⊕ Int32 × Mm) → Prop} (X : CX x cX6_wood RX6 4) (hL : x.2.2.2.1 = 3) (Hr : RTI x cX6_wood .int F Sum.inr) (HH : ∀ q, F (.inl q) → pX6_wood x q) {l0 : Nat} {l2 : Int32} {M : Mm} (h_l0 : sh l0 = 16) : SIM x F (bX6_wood_55 l0 l2 M) 55 [(0, rf x.2.1 l0), (2, .int l2)] [] M := by
  unfold bX6_wood_55
  refine r_iload_n X dX6_wood_55 rfl 1 rfl ?_
  refine r_bipush (v := 39) X dX6_wood_56 (by decide) ?_
  refine r_icmp_ge 75 X dX6_wood_58 (by decide) ?_ ?_
  · refine r_iconst (v := 0) X dX6_wood_75 (by decide) ?_
    refine r_istore_n [(2, .int 0), (0, rf x.2.1 l0)] X dX6_wood_76 rfl (nlt hL (by decide)) rfl ?_
    exact r_hdr [(0, rf x.2.1 l0), (2, .int 0)] [1, 0] rfl (fun h => HH _ h h_l0)
  · refine r_aload_n X dX6_wood_61 rfl 0 rfl ?_
    refine r_iconst (v := 0) X dX6_wood_62 (by decide) ?_
    refine r_iload_n X dX6_wood_63 rfl 1 rfl ?_
    refine r_iconst (v := 0) X dX6_wood_64 (by decide) ?_
    refine r_iconst (v := 0) X dX6_wood_65 (by decide) ?_
    refine r_callVV [.int 0, .int l2, .int 0, .int 0] X mt_X6_173 (by decide) h_l0 (by decide) (okX6_set _ _ X.J h_l0) rfl (Nat.le_of_ble_eq_true rfl) dX6_wood_66 rfl (fun _ M23 => ?_)
    refine r_iinc [(2, .int (l2 + 1)), (0, rf x.2.1 l0)] X dX6_wood_69 1 rfl rfl (nlt hL (by decide)) rfl ?_
    refine r_goto 55 X dX6_wood_72 (by decide) ?_
    exact r_hdr [(0, rf x.2.1 l0), (2, .int (l2 + 1))] [1, 0] rfl (fun h => HH _ h h_l0)
set_option maxRecDepth 100000 in
noncomputable def bX6_wood_0 (l0 : Nat) (l1 : Int32) (M : Mm) : Option ((Nat × Nat × Int32 × Mm) ⊕ Int32 × Mm) := cal (fX6_isText l1 M) fun v25 M24 => if v25 = 0 then some (.inr ((-1), M24)) else gfR M24 0 l0 8 fun v26 => ldI M24 v26 l1 fun v27 => if 0 ≤ v27 then cal (fX6_faultOf l0 l1 M24) fun v29 M28 => if v29 = (-9) then gfI M28 l0 15 fun v30 => pfI M28 l0 10 v30 fun M31 => gfI M31 l0 17 fun v32 => pfI M31 l0 11 v32 fun M33 => some (.inl (1, l0, 0, M33)) else some (.inr ((-4), M28)) else cal (fX6_meets l0 1 M24) fun v35 M34 => some (.inr (v35, M34))
set_option maxRecDepth 100000 in
set_option maxHeartbeats 4000000 in
theorem sX6_wood_0 {x : SB} {F : ((Nat × Nat × Int32 × Mm) ⊕ Int32 × Mm) → Prop} (X : CX x cX6_wood RX6 4) (hL : x.2.2.2.1 = 3) (Hr : RTI x cX6_wood .int F Sum.inr) (HH : ∀ q, F (.inl q) → pX6_wood x q) {l0 : Nat} {l1 : Int32} {M : Mm} (h_l0 : sh l0 = 16) : SIM x F (bX6_wood_0 l0 l1 M) 0 [(0, rf x.2.1 l0), (1, .int l1)] [] M := by
  unfold bX6_wood_0
  refine r_iload_n X dX6_wood_0 rfl 1 rfl ?_
  refine r_callSI [.int l1] X mt_X6_117 (by decide) (okX6_isText _ _ X.J) rfl (Nat.le_of_ble_eq_true rfl) dX6_wood_1 rfl (fun v25 M24 => ?_)
  refine r_if_ne 9 X dX6_wood_4 (by decide) ?_ ?_
  · refine r_iconst (v := (-1)) X dX6_wood_7 (by decide) ?_
    exact r_iret Hr rfl dX6_wood_8
  · refine r_aload_n X dX6_wood_9 rfl 0 rfl ?_
    refine r_getR X fl_X6_26 (by decide) h_l0 dX6_wood_10 (fun v26 h_v26 => ?_)
    refine r_iload_n X dX6_wood_13 rfl 1 rfl ?_
    refine r_iald X h_v26 dX6_wood_14 (fun v27 => ?_)
    refine r_if_ge 24 X dX6_wood_15 (by decide) ?_ ?_
    · refine r_aload_n X dX6_wood_24 rfl 0 rfl ?_
      refine r_iload_n X dX6_wood_25 rfl 1 rfl ?_
      refine r_callVI [.int l1] X mt_X6_164 (by decide) h_l0 (by decide) (okX6_faultOf _ _ X.J h_l0) rfl (Nat.le_of_ble_eq_true rfl) dX6_wood_26 rfl (fun v29 M28 => ?_)
      refine r_bipush (v := (-9)) X dX6_wood_29 (by decide) ?_
      refine r_icmp_eq 37 X dX6_wood_31 (by decide) ?_ ?_
      · refine r_aload_n X dX6_wood_37 rfl 0 rfl ?_
        refine r_aload_n X dX6_wood_38 rfl 0 rfl ?_
        refine r_getI X fl_X6_132 (by decide) h_l0 dX6_wood_39 (fun v30 => ?_)
        refine r_putI X fl_X6_167 (by decide) h_l0 (fun _ => rfl) (fun _ => rfl) dX6_wood_42 (fun M31 => ?_)
        refine r_aload_n X dX6_wood_45 rfl 0 rfl ?_
        refine r_aload_n X dX6_wood_46 rfl 0 rfl ?_
        refine r_getI X fl_X6_138 (by decide) h_l0 dX6_wood_47 (fun v32 => ?_)
        refine r_putI X fl_X6_170 (by decide) h_l0 (fun _ => rfl) (fun _ => rfl) dX6_wood_50 (fun M33 => ?_)
        refine r_iconst (v := 0) X dX6_wood_53 (by decide) ?_
        refine r_istore_n [(2, .int 0), (0, rf x.2.1 l0), (1, .int l1)] X dX6_wood_54 rfl (nlt hL (by decide)) rfl ?_
        exact r_hdr [(0, rf x.2.1 l0), (2, .int 0)] [1, 0] rfl (fun h => HH _ h h_l0)
      · refine r_bipush (v := (-4)) X dX6_wood_34 (by decide) ?_
        exact r_iret Hr rfl dX6_wood_36
    · refine r_aload_n X dX6_wood_18 rfl 0 rfl ?_
      refine r_iconst (v := 1) X dX6_wood_19 (by decide) ?_
      refine r_callVI [.int 1] X mt_X6_106 (by decide) h_l0 (by decide) (okX6_meets _ _ X.J h_l0) rfl (Nat.le_of_ble_eq_true rfl) dX6_wood_20 rfl (fun v35 M34 => ?_)
      exact r_iret Hr rfl dX6_wood_23
set_option maxRecDepth 100000 in
noncomputable def gX6_wood (q : Nat × Nat × Int32 × Mm) : Option ((Nat × Nat × Int32 × Mm) ⊕ Int32 × Mm) := match q.1 with
  | 1 => bX6_wood_55 (q.2.1) (q.2.2.1) (q.2.2.2)
  | 2 => bX6_wood_77 (q.2.1) (q.2.2.1) (q.2.2.2)
  | 3 => bX6_wood_117 (q.2.1) (q.2.2.1) (q.2.2.2)
  | 4 => bX6_wood_147 (q.2.1) (q.2.2.1) (q.2.2.2)
  | 5 => bX6_wood_186 (q.2.1) (q.2.2.1) (q.2.2.2)
  | _ => none
set_option maxRecDepth 100000 in
noncomputable def fX6_wood (l0 : Nat) (l1 : Int32) (M : Mm) : Option (Int32 × Mm) := fen gX6_wood (bX6_wood_0 l0 l1 M)
set_option maxRecDepth 100000 in
set_option maxHeartbeats 4000000 in
theorem okX6_wood (l : Launch) (g : GX) (hJ : IJ g) {l0 : Nat} {l1 : Int32} {M : Mm} (h_l0 : sh l0 = 16) : CT l g yX6_wood cX6_wood 3 (some .int) 4 [rf g l0, .int l1] M (fX6_wood l0 l1 M) (fun r => some (.int r)) := by
  refine ct_I rfl hJ (Nat.le_of_ble_eq_true rfl) (fun x r hg hL hl X hf Hr => ?_)
  subst hg
  have Hr2 : RTI x cX6_wood .int (Sum.elim (pX6_wood x) (fun q => q = r)) Sum.inr := fun v M h => Hr v M h
  have HP : ∀ q, fnl gX6_wood q = some r → pX6_wood x q := by
    intro q hq
    refine fnl_ind (pX6_wood x) (fun q hq => ?_) hq
    obtain ⟨n, l0, l2, M⟩ := q
    match n, hq with
    | 1, hq => exact fun h_l0 ls H locs hl hP hS => sX6_wood_55 X hL Hr2 (fun _ h => h) h_l0 hq ls H locs hl hP hS
    | 2, hq => exact fun h_l0 ls H locs hl hP hS => sX6_wood_77 X hL Hr2 (fun _ h => h) h_l0 hq ls H locs hl hP hS
    | 3, hq => exact fun h_l0 ls H locs hl hP hS => sX6_wood_117 X hL Hr2 (fun _ h => h) h_l0 hq ls H locs hl hP hS
    | 4, hq => exact fun h_l0 ls H locs hl hP hS => sX6_wood_147 X hL Hr2 (fun _ h => h) h_l0 hq ls H locs hl hP hS
    | 5, hq => exact fun h_l0 ls H locs hl hP hS => sX6_wood_186 X hL Hr2 (fun _ h => h) h_l0 hq ls H locs hl hP hS
    | 0, hq => exact trivial
    | n + 6, hq => exact trivial
  exact fun _ ls H locs hl hP hS => sX6_wood_0 X hL Hr2 (fun _ h => h) h_l0 (fen_w hf HP) ls H locs hl hP hS
/-! CrumbWoodModel.wrong()I -/
set_option maxRecDepth 100000 in
def pX6_wrong (x : SB) (q : Nat × Nat × Int32 × Mm) : Prop := match q.1 with
  | 1 => sh q.2.1 = 16 → ∀ (ls : Array Slot) (H : Heap) (locs : List Loc), lv_has ls x.2.2.2.1 [(0, rf x.2.1 q.2.1), (1, .int q.2.2.1)] → PW x.2.1 (q.2.2.2) H → SH x H locs → SW x H locs 22 ls []
  | _ => True
set_option maxRecDepth 100000 in
noncomputable def bX6_wrong_72  (M : Mm) : Option ((Nat × Nat × Int32 × Mm) ⊕ Int32 × Mm) := some (.inr ((-9), M))
set_option maxRecDepth 100000 in
set_option maxHeartbeats 4000000 in
theorem sX6_wrong_72 {x : SB} {F : ((Nat × Nat × Int32 × Mm) ⊕ Int32 × Mm) → Prop} (X : CX x cX6_wrong RX6 5) (hL : x.2.2.2.1 = 2) (Hr : RTI x cX6_wrong .int F Sum.inr) (HH : ∀ q, F (.inl q) → pX6_wrong x q)  {M : Mm}  : SIM x F (bX6_wrong_72  M) 72 [] [] M := by
  unfold bX6_wrong_72
  refine r_bipush (v := (-9)) X dX6_wrong_72 (by decide) ?_
  exact r_iret Hr rfl dX6_wrong_74
set_option maxRecDepth 100000 in
noncomputable def bX6_wrong_22 (l0 : Nat) (l1 : Int32) (M : Mm) : Option ((Nat × Nat × Int32 × Mm) ⊕ Int32 × Mm) := gfI M l0 32 fun v1 => if (v1 - 1) ≤ l1 then bX6_wrong_72 M else gfI M l0 25 fun v2 => if v2 ≤ l1 then bX6_wrong_72 M else gfR M 0 l0 33 fun v3 => ldI M v3 (l1 + 1) fun v4 => gfR M 0 l0 26 fun v5 => gfI M l0 25 fun v6 => ldI M v5 ((v6 - 1) - l1) fun v7 => if v4 = v7 then some (.inl (1, l0, (l1 + 1), M)) else some (.inr (l1, M))
set_option maxRecDepth 100000 in
set_option maxHeartbeats 4000000 in
theorem sX6_wrong_22 {x : SB} {F : ((Nat × Nat × Int32 × Mm) ⊕ Int32 × Mm) → Prop} (X : CX x cX6_wrong RX6 5) (hL : x.2.2.2.1 = 2) (Hr : RTI x cX6_wrong .int F Sum.inr) (HH : ∀ q, F (.inl q) → pX6_wrong x q) {l0 : Nat} {l1 : Int32} {M : Mm} (h_l0 : sh l0 = 16) : SIM x F (bX6_wrong_22 l0 l1 M) 22 [(0, rf x.2.1 l0), (1, .int l1)] [] M := by
  unfold bX6_wrong_22
  refine r_iload_n X dX6_wrong_22 rfl 1 rfl ?_
  refine r_aload_n X dX6_wrong_23 rfl 0 rfl ?_
  refine r_getI X fl_X6_238 (by decide) h_l0 dX6_wrong_24 (fun v1 => ?_)
  refine r_iconst (v := 1) X dX6_wrong_27 (by decide) ?_
  refine r_isub X dX6_wrong_28 ?_
  refine r_icmp_ge 72 X dX6_wrong_29 (by decide) ?_ ?_
  · exact r_to [] [] rfl (sX6_wrong_72 X hL Hr HH)
  · refine r_iload_n X dX6_wrong_32 rfl 1 rfl ?_
    refine r_aload_n X dX6_wrong_33 rfl 0 rfl ?_
    refine r_getI X fl_X6_177 (by decide) h_l0 dX6_wrong_34 (fun v2 => ?_)
    refine r_icmp_ge 72 X dX6_wrong_37 (by decide) ?_ ?_
    · exact r_to [] [] rfl (sX6_wrong_72 X hL Hr HH)
    · refine r_aload_n X dX6_wrong_40 rfl 0 rfl ?_
      refine r_getR X fl_X6_73 (by decide) h_l0 dX6_wrong_41 (fun v3 h_v3 => ?_)
      refine r_iload_n X dX6_wrong_44 rfl 1 rfl ?_
      refine r_iconst (v := 1) X dX6_wrong_45 (by decide) ?_
      refine r_iadd X dX6_wrong_46 ?_
      refine r_iald X h_v3 dX6_wrong_47 (fun v4 => ?_)
      refine r_aload_n X dX6_wrong_48 rfl 0 rfl ?_
      refine r_getR X fl_X6_54 (by decide) h_l0 dX6_wrong_49 (fun v5 h_v5 => ?_)
      refine r_aload_n X dX6_wrong_52 rfl 0 rfl ?_
      refine r_getI X fl_X6_177 (by decide) h_l0 dX6_wrong_53 (fun v6 => ?_)
      refine r_iconst (v := 1) X dX6_wrong_56 (by decide) ?_
      refine r_isub X dX6_wrong_57 ?_
      refine r_iload_n X dX6_wrong_58 rfl 1 rfl ?_
      refine r_isub X dX6_wrong_59 ?_
      refine r_iald X h_v5 dX6_wrong_60 (fun v7 => ?_)
      refine r_icmp_eq 66 X dX6_wrong_61 (by decide) ?_ ?_
      · refine r_iinc [(1, .int (l1 + 1)), (0, rf x.2.1 l0)] X dX6_wrong_66 1 rfl rfl (nlt hL (by decide)) rfl ?_
        refine r_goto 22 X dX6_wrong_69 (by decide) ?_
        exact r_hdr [(0, rf x.2.1 l0), (1, .int (l1 + 1))] [1, 0] rfl (fun h => HH _ h h_l0)
      · refine r_iload_n X dX6_wrong_64 rfl 1 rfl ?_
        exact r_iret Hr rfl dX6_wrong_65
set_option maxRecDepth 100000 in
noncomputable def bX6_wrong_0 (l0 : Nat) (M : Mm) : Option ((Nat × Nat × Int32 × Mm) ⊕ Int32 × Mm) := gfI M l0 10 fun v8 => if v8 = 0 then some (.inr ((-4), M)) else cal (fX6_hereNow l0 M) fun v10 M9 => cal (fX6_follows l0 0 v10 M9) fun v12 M11 => some (.inl (1, l0, 0, M11))
set_option maxRecDepth 100000 in
set_option maxHeartbeats 4000000 in
theorem sX6_wrong_0 {x : SB} {F : ((Nat × Nat × Int32 × Mm) ⊕ Int32 × Mm) → Prop} (X : CX x cX6_wrong RX6 5) (hL : x.2.2.2.1 = 2) (Hr : RTI x cX6_wrong .int F Sum.inr) (HH : ∀ q, F (.inl q) → pX6_wrong x q) {l0 : Nat} {M : Mm} (h_l0 : sh l0 = 16) : SIM x F (bX6_wrong_0 l0 M) 0 [(0, rf x.2.1 l0)] [] M := by
  unfold bX6_wrong_0
  refine r_aload_n X dX6_wrong_0 rfl 0 rfl ?_
  refine r_getI X fl_X6_167 (by decide) h_l0 dX6_wrong_1 (fun v8 => ?_)
  refine r_if_ne 10 X dX6_wrong_4 (by decide) ?_ ?_
  · refine r_bipush (v := (-4)) X dX6_wrong_7 (by decide) ?_
    exact r_iret Hr rfl dX6_wrong_9
  · refine r_aload_n X dX6_wrong_10 rfl 0 rfl ?_
    refine r_iconst (v := 0) X dX6_wrong_11 (by decide) ?_
    refine r_aload_n X dX6_wrong_12 rfl 0 rfl ?_
    refine r_callVI [] X mt_X6_223 (by decide) h_l0 (by decide) (okX6_hereNow _ _ X.J h_l0) rfl (Nat.le_of_ble_eq_true rfl) dX6_wrong_13 rfl (fun v10 M9 => ?_)
    refine r_callVI [.int 0, .int v10] X mt_X6_244 (by decide) h_l0 (by decide) (okX6_follows _ _ X.J h_l0) rfl (Nat.le_of_ble_eq_true rfl) dX6_wrong_16 rfl (fun v12 M11 => ?_)
    refine r_pop X dX6_wrong_19 rfl ?_
    refine r_iconst (v := 0) X dX6_wrong_20 (by decide) ?_
    refine r_istore_n [(1, .int 0), (0, rf x.2.1 l0)] X dX6_wrong_21 rfl (nlt hL (by decide)) rfl ?_
    exact r_hdr [(0, rf x.2.1 l0), (1, .int 0)] [1, 0] rfl (fun h => HH _ h h_l0)
set_option maxRecDepth 100000 in
noncomputable def gX6_wrong (q : Nat × Nat × Int32 × Mm) : Option ((Nat × Nat × Int32 × Mm) ⊕ Int32 × Mm) := match q.1 with
  | 1 => bX6_wrong_22 (q.2.1) (q.2.2.1) (q.2.2.2)
  | _ => none
set_option maxRecDepth 100000 in
noncomputable def fX6_wrong (l0 : Nat) (M : Mm) : Option (Int32 × Mm) := fen gX6_wrong (bX6_wrong_0 l0 M)
set_option maxRecDepth 100000 in
set_option maxHeartbeats 4000000 in
theorem okX6_wrong (l : Launch) (g : GX) (hJ : IJ g) {l0 : Nat} {M : Mm} (h_l0 : sh l0 = 16) : CT l g yX6_wrong cX6_wrong 2 (some .int) 5 [rf g l0] M (fX6_wrong l0 M) (fun r => some (.int r)) := by
  refine ct_I rfl hJ (Nat.le_of_ble_eq_true rfl) (fun x r hg hL hl X hf Hr => ?_)
  subst hg
  have Hr2 : RTI x cX6_wrong .int (Sum.elim (pX6_wrong x) (fun q => q = r)) Sum.inr := fun v M h => Hr v M h
  have HP : ∀ q, fnl gX6_wrong q = some r → pX6_wrong x q := by
    intro q hq
    refine fnl_ind (pX6_wrong x) (fun q hq => ?_) hq
    obtain ⟨n, l0, l1, M⟩ := q
    match n, hq with
    | 1, hq => exact fun h_l0 ls H locs hl hP hS => sX6_wrong_22 X hL Hr2 (fun _ h => h) h_l0 hq ls H locs hl hP hS
    | 0, hq => exact trivial
    | n + 2, hq => exact trivial
  exact fun _ ls H locs hl hP hS => sX6_wrong_0 X hL Hr2 (fun _ h => h) h_l0 (fen_w hf HP) ls H locs hl hP hS

/-! CrumbWood.bird(I)I -/
set_option maxRecDepth 100000 in
noncomputable def fX5_bird (l0 : Nat) (l1 : Int32) (M : Mm) : Option (Int32 × Mm) := gfR M 14 l0 2 fun v1 => gfI M v1 1 fun v2 => cal (fX5_isBelow l1 v2 M) fun v4 M3 => if v4 = 0 then some (((-1), M3)) else gfR M3 14 l0 2 fun v5 => gfR M3 14 l0 2 fun v6 => gfR M3 0 v6 8 fun v7 => ldI M3 v7 l1 fun v8 => cal (fX4_flightFrom v5 v8 M3) fun v10 M9 => pfI M9 l0 10 v10 fun M11 => gfR M11 14 l0 2 fun v12 => gfR M11 0 v12 8 fun v13 => ldI M11 v13 l1 fun v14 => some ((v14, M11))
set_option maxRecDepth 100000 in
set_option maxHeartbeats 4000000 in
theorem sX5_bird_0 {x : SB} {F : (Int32 × Mm) → Prop} (X : CX x cX5_bird RX5 3) (hL : x.2.2.2.1 = 2) (Hr : RTI x cX5_bird .int F (fun q => q)) {l0 : Nat} {l1 : Int32} {M : Mm} (h_l0 : sh l0 = 15) : SIM x F (fX5_bird l0 l1 M) 0 [(0, rf x.2.1 l0), (1, .int l1)] [] M := by
  unfold fX5_bird
  refine r_iload_n X dX5_bird_0 rfl 1 rfl ?_
  refine r_aload_n X dX5_bird_1 rfl 0 rfl ?_
  refine r_getR X fl_X5_21 (by decide) h_l0 dX5_bird_2 (fun v1 h_v1 => ?_)
  refine r_getI X fl_X5_168 (by decide) h_v1 dX5_bird_5 (fun v2 => ?_)
  refine r_callSI [.int l1, .int v2] X mt_X5_74 (by decide) (okX5_isBelow _ _ X.J) rfl (Nat.le_of_ble_eq_true rfl) dX5_bird_8 rfl (fun v4 M3 => ?_)
  refine r_if_ne 16 X dX5_bird_11 (by decide) ?_ ?_
  · refine r_iconst (v := (-1)) X dX5_bird_14 (by decide) ?_
    exact r_iret Hr rfl dX5_bird_15
  · refine r_aload_n X dX5_bird_16 rfl 0 rfl ?_
    refine r_aload_n X dX5_bird_17 rfl 0 rfl ?_
    refine r_getR X fl_X5_21 (by decide) h_l0 dX5_bird_18 (fun v5 h_v5 => ?_)
    refine r_aload_n X dX5_bird_21 rfl 0 rfl ?_
    refine r_getR X fl_X5_21 (by decide) h_l0 dX5_bird_22 (fun v6 h_v6 => ?_)
    refine r_getR X fl_X5_171 (by decide) h_v6 dX5_bird_25 (fun v7 h_v7 => ?_)
    refine r_iload_n X dX5_bird_28 rfl 1 rfl ?_
    refine r_iald X h_v7 dX5_bird_29 (fun v8 => ?_)
    refine r_callVI [.int v8] X mt_X5_174 (by decide) h_v5 (by decide) (okX4_flightFrom _ _ X.J h_v5) rfl (Nat.le_of_ble_eq_true rfl) dX5_bird_30 rfl (fun v10 M9 => ?_)
    refine r_putI X fl_X5_61 (by decide) h_l0 (fun _ => rfl) (fun _ => rfl) dX5_bird_33 (fun M11 => ?_)
    refine r_aload_n X dX5_bird_36 rfl 0 rfl ?_
    refine r_getR X fl_X5_21 (by decide) h_l0 dX5_bird_37 (fun v12 h_v12 => ?_)
    refine r_getR X fl_X5_171 (by decide) h_v12 dX5_bird_40 (fun v13 h_v13 => ?_)
    refine r_iload_n X dX5_bird_43 rfl 1 rfl ?_
    refine r_iald X h_v13 dX5_bird_44 (fun v14 => ?_)
    exact r_iret Hr rfl dX5_bird_45
set_option maxRecDepth 100000 in
set_option maxHeartbeats 4000000 in
theorem okX5_bird (l : Launch) (g : GX) (hJ : IJ g) {l0 : Nat} {l1 : Int32} {M : Mm} (h_l0 : sh l0 = 15) : CT l g yX5_bird cX5_bird 2 (some .int) 3 [rf g l0, .int l1] M (fX5_bird l0 l1 M) (fun r => some (.int r)) := by
  refine ct_I rfl hJ (Nat.le_of_ble_eq_true rfl) (fun x r hg hL hl X hf Hr => ?_)
  subst hg
  exact fun _ ls H locs hl hP hS => sX5_bird_0 X hL Hr h_l0 ⟨_, hf, rfl⟩ ls H locs hl hP hS
/-! CrumbWood$Strip.hasRun(II)Z -/
set_option maxRecDepth 100000 in
noncomputable def bX2_hasRun_18  (M : Mm) : Option (Int32 × Mm) := some ((0, M))
set_option maxRecDepth 100000 in
set_option maxHeartbeats 4000000 in
theorem sX2_hasRun_18 {x : SB} {F : (Int32 × Mm) → Prop} (X : CX x cX2_hasRun RX2 0) (hL : x.2.2.2.1 = 3) (Hr : RTI x cX2_hasRun .boolean F (fun q => q))  {M : Mm}  : SIM x F (bX2_hasRun_18  M) 18 [] [] M := by
  unfold bX2_hasRun_18
  refine r_iconst (v := 0) X dX2_hasRun_18 (by decide) ?_
  exact r_iret Hr rfl dX2_hasRun_19
set_option maxRecDepth 100000 in
noncomputable def fX2_hasRun (l0 : Nat) (l1 : Int32) (l2 : Int32) (M : Mm) : Option (Int32 × Mm) := if l1 < 0 then bX2_hasRun_18 M else gfI M l0 1 fun v1 => if (v1 - l2) < l1 then bX2_hasRun_18 M else some ((1, M))
set_option maxRecDepth 100000 in
set_option maxHeartbeats 4000000 in
theorem sX2_hasRun_0 {x : SB} {F : (Int32 × Mm) → Prop} (X : CX x cX2_hasRun RX2 0) (hL : x.2.2.2.1 = 3) (Hr : RTI x cX2_hasRun .boolean F (fun q => q)) {l0 : Nat} {l1 : Int32} {l2 : Int32} {M : Mm} (h_l0 : sh l0 = 12) : SIM x F (fX2_hasRun l0 l1 l2 M) 0 [(0, rf x.2.1 l0), (1, .int l1), (2, .int l2)] [] M := by
  unfold fX2_hasRun
  refine r_iload_n X dX2_hasRun_0 rfl 1 rfl ?_
  refine r_if_lt 18 X dX2_hasRun_1 (by decide) ?_ ?_
  · exact r_to [] [] rfl (sX2_hasRun_18 X hL Hr)
  · refine r_iload_n X dX2_hasRun_4 rfl 1 rfl ?_
    refine r_aload_n X dX2_hasRun_5 rfl 0 rfl ?_
    refine r_getI X fl_X2_9 (by decide) h_l0 dX2_hasRun_6 (fun v1 => ?_)
    refine r_iload_n X dX2_hasRun_9 rfl 2 rfl ?_
    refine r_isub X dX2_hasRun_10 ?_
    refine r_icmp_gt 18 X dX2_hasRun_11 (by decide) ?_ ?_
    · exact r_to [] [] rfl (sX2_hasRun_18 X hL Hr)
    · refine r_iconst (v := 1) X dX2_hasRun_14 (by decide) ?_
      refine r_goto 19 X dX2_hasRun_15 (by decide) ?_
      exact r_iret Hr rfl dX2_hasRun_19
set_option maxRecDepth 100000 in
set_option maxHeartbeats 4000000 in
theorem okX2_hasRun (l : Launch) (g : GX) (hJ : IJ g) {l0 : Nat} {l1 : Int32} {l2 : Int32} {M : Mm} (h_l0 : sh l0 = 12) : CT l g yX2_hasRun cX2_hasRun 3 (some .boolean) 0 [rf g l0, .int l1, .int l2] M (fX2_hasRun l0 l1 l2 M) (fun r => some (.int r)) := by
  refine ct_I rfl hJ (Nat.le_of_ble_eq_true rfl) (fun x r hg hL hl X hf Hr => ?_)
  subst hg
  exact fun _ ls H locs hl hP hS => sX2_hasRun_0 X hL Hr h_l0 ⟨_, hf, rfl⟩ ls H locs hl hP hS
/-! CrumbWood.copy(IIIII)I -/
set_option maxRecDepth 100000 in
noncomputable def bX5_copy_92 (l0 : Nat) (M : Mm) : Option (Int32 × Mm) := cal (fX5_refuse l0 2 M) fun v2 M1 => some ((v2, M1))
set_option maxRecDepth 100000 in
set_option maxHeartbeats 4000000 in
theorem sX5_copy_92 {x : SB} {F : (Int32 × Mm) → Prop} (X : CX x cX5_copy RX5 1) (hL : x.2.2.2.1 = 6) (Hr : RTI x cX5_copy .int F (fun q => q)) {l0 : Nat} {M : Mm} (h_l0 : sh l0 = 15) : SIM x F (bX5_copy_92 l0 M) 92 [(0, rf x.2.1 l0)] [] M := by
  unfold bX5_copy_92
  refine r_aload_n X dX5_copy_92 rfl 0 rfl ?_
  refine r_iconst (v := 2) X dX5_copy_93 (by decide) ?_
  refine r_callVI [.int 2] X mt_X5_78 (by decide) h_l0 (by decide) (okX5_refuse _ _ X.J h_l0) rfl (Nat.le_of_ble_eq_true rfl) dX5_copy_94 rfl (fun v2 M1 => ?_)
  exact r_iret Hr rfl dX5_copy_97
set_option maxRecDepth 100000 in
noncomputable def bX5_copy_55 (l0 : Nat) (M : Mm) : Option (Int32 × Mm) := cal (fX5_refuse l0 1 M) fun v4 M3 => some ((v4, M3))
set_option maxRecDepth 100000 in
set_option maxHeartbeats 4000000 in
theorem sX5_copy_55 {x : SB} {F : (Int32 × Mm) → Prop} (X : CX x cX5_copy RX5 1) (hL : x.2.2.2.1 = 6) (Hr : RTI x cX5_copy .int F (fun q => q)) {l0 : Nat} {M : Mm} (h_l0 : sh l0 = 15) : SIM x F (bX5_copy_55 l0 M) 55 [(0, rf x.2.1 l0)] [] M := by
  unfold bX5_copy_55
  refine r_aload_n X dX5_copy_55 rfl 0 rfl ?_
  refine r_iconst (v := 1) X dX5_copy_56 (by decide) ?_
  refine r_callVI [.int 1] X mt_X5_78 (by decide) h_l0 (by decide) (okX5_refuse _ _ X.J h_l0) rfl (Nat.le_of_ble_eq_true rfl) dX5_copy_57 rfl (fun v4 M3 => ?_)
  exact r_iret Hr rfl dX5_copy_60
set_option maxRecDepth 100000 in
noncomputable def bX5_copy_18  (M : Mm) : Option (Int32 × Mm) := some (((-1), M))
set_option maxRecDepth 100000 in
set_option maxHeartbeats 4000000 in
theorem sX5_copy_18 {x : SB} {F : (Int32 × Mm) → Prop} (X : CX x cX5_copy RX5 1) (hL : x.2.2.2.1 = 6) (Hr : RTI x cX5_copy .int F (fun q => q))  {M : Mm}  : SIM x F (bX5_copy_18  M) 18 [] [] M := by
  unfold bX5_copy_18
  refine r_iconst (v := (-1)) X dX5_copy_18 (by decide) ?_
  exact r_iret Hr rfl dX5_copy_19
set_option maxRecDepth 100000 in
noncomputable def fX5_copy (l0 : Nat) (l1 : Int32) (l2 : Int32) (l3 : Int32) (l4 : Int32) (l5 : Int32) (M : Mm) : Option (Int32 × Mm) := cal (fX5_isBelow l1 6 M) fun v6 M5 => if v6 = 0 then bX5_copy_18 M5 else cal (fX5_isBelow l3 6 M5) fun v8 M7 => if v8 = 0 then bX5_copy_18 M7 else if 0 ≤ l5 then gfR M7 3 l0 0 fun v9 => ldR M7 12 v9 l1 fun v10 => cal (fX2_isMissing v10 M7) fun v12 M11 => if v12 = 0 then gfR M11 3 l0 0 fun v13 => ldR M11 12 v13 l3 fun v14 => cal (fX2_isMissing v14 M11) fun v16 M15 => if v16 = 0 then gfR M15 3 l0 0 fun v17 => ldR M15 12 v17 l1 fun v18 => cal (fX2_hasRun v18 l2 l5 M15) fun v20 M19 => if v20 = 0 then bX5_copy_92 l0 M19 else gfR M19 3 l0 0 fun v21 => ldR M19 12 v21 l3 fun v22 => cal (fX2_hasRun v22 l4 l5 M19) fun v24 M23 => if v24 = 0 then bX5_copy_92 l0 M23 else gfR M23 3 l0 0 fun v25 => ldR M23 12 v25 l1 fun v26 => gfR M23 0 v26 0 fun v27 => gfR M23 3 l0 0 fun v28 => ldR M23 12 v28 l3 fun v29 => gfR M23 0 v29 0 fun v30 => cpA M23 v27 l2 v30 l4 l5 fun M31 => some ((1, M31)) else bX5_copy_55 l0 M15 else bX5_copy_55 l0 M11 else cal (fX5_refuse l0 5 M7) fun v33 M32 => some ((v33, M32))
set_option maxRecDepth 100000 in
set_option maxHeartbeats 4000000 in
theorem sX5_copy_0 {x : SB} {F : (Int32 × Mm) → Prop} (X : CX x cX5_copy RX5 1) (hL : x.2.2.2.1 = 6) (Hr : RTI x cX5_copy .int F (fun q => q)) {l0 : Nat} {l1 : Int32} {l2 : Int32} {l3 : Int32} {l4 : Int32} {l5 : Int32} {M : Mm} (h_l0 : sh l0 = 15) : SIM x F (fX5_copy l0 l1 l2 l3 l4 l5 M) 0 [(0, rf x.2.1 l0), (1, .int l1), (2, .int l2), (3, .int l3), (4, .int l4), (5, .int l5)] [] M := by
  unfold fX5_copy
  refine r_iload_n X dX5_copy_0 rfl 1 rfl ?_
  refine r_bipush (v := 6) X dX5_copy_1 (by decide) ?_
  refine r_callSI [.int l1, .int 6] X mt_X5_74 (by decide) (okX5_isBelow _ _ X.J) rfl (Nat.le_of_ble_eq_true rfl) dX5_copy_3 rfl (fun v6 M5 => ?_)
  refine r_if_eq 18 X dX5_copy_6 (by decide) ?_ ?_
  · exact r_to [] [] rfl (sX5_copy_18 X hL Hr)
  · refine r_iload_n X dX5_copy_9 rfl 3 rfl ?_
    refine r_bipush (v := 6) X dX5_copy_10 (by decide) ?_
    refine r_callSI [.int l3, .int 6] X mt_X5_74 (by decide) (okX5_isBelow _ _ X.J) rfl (Nat.le_of_ble_eq_true rfl) dX5_copy_12 rfl (fun v8 M7 => ?_)
    refine r_if_ne 20 X dX5_copy_15 (by decide) ?_ ?_
    · exact r_to [] [] rfl (sX5_copy_18 X hL Hr)
    · refine r_iload X dX5_copy_20 5 rfl ?_
      refine r_if_ge 31 X dX5_copy_22 (by decide) ?_ ?_
      · refine r_aload_n X dX5_copy_31 rfl 0 rfl ?_
        refine r_getR X fl_X5_11 (by decide) h_l0 dX5_copy_32 (fun v9 h_v9 => ?_)
        refine r_iload_n X dX5_copy_35 rfl 1 rfl ?_
        refine r_aldS X h_v9 dX5_copy_36 (fun v10 h_v10 => ?_)
        refine r_callVI [] X mt_X5_92 (by decide) h_v10 (by decide) (okX2_isMissing _ _ X.J h_v10) rfl (Nat.le_of_ble_eq_true rfl) dX5_copy_37 rfl (fun v12 M11 => ?_)
        refine r_if_ne 55 X dX5_copy_40 (by decide) ?_ ?_
        · refine r_aload_n X dX5_copy_43 rfl 0 rfl ?_
          refine r_getR X fl_X5_11 (by decide) h_l0 dX5_copy_44 (fun v13 h_v13 => ?_)
          refine r_iload_n X dX5_copy_47 rfl 3 rfl ?_
          refine r_aldS X h_v13 dX5_copy_48 (fun v14 h_v14 => ?_)
          refine r_callVI [] X mt_X5_92 (by decide) h_v14 (by decide) (okX2_isMissing _ _ X.J h_v14) rfl (Nat.le_of_ble_eq_true rfl) dX5_copy_49 rfl (fun v16 M15 => ?_)
          refine r_if_eq 61 X dX5_copy_52 (by decide) ?_ ?_
          · refine r_aload_n X dX5_copy_61 rfl 0 rfl ?_
            refine r_getR X fl_X5_11 (by decide) h_l0 dX5_copy_62 (fun v17 h_v17 => ?_)
            refine r_iload_n X dX5_copy_65 rfl 1 rfl ?_
            refine r_aldS X h_v17 dX5_copy_66 (fun v18 h_v18 => ?_)
            refine r_iload_n X dX5_copy_67 rfl 2 rfl ?_
            refine r_iload X dX5_copy_68 5 rfl ?_
            refine r_callVI [.int l2, .int l5] X mt_X5_99 (by decide) h_v18 (by decide) (okX2_hasRun _ _ X.J h_v18) rfl (Nat.le_of_ble_eq_true rfl) dX5_copy_70 rfl (fun v20 M19 => ?_)
            refine r_if_eq 92 X dX5_copy_73 (by decide) ?_ ?_
            · exact r_to [(0, rf x.2.1 l0)] [0] rfl (sX5_copy_92 X hL Hr h_l0)
            · refine r_aload_n X dX5_copy_76 rfl 0 rfl ?_
              refine r_getR X fl_X5_11 (by decide) h_l0 dX5_copy_77 (fun v21 h_v21 => ?_)
              refine r_iload_n X dX5_copy_80 rfl 3 rfl ?_
              refine r_aldS X h_v21 dX5_copy_81 (fun v22 h_v22 => ?_)
              refine r_iload X dX5_copy_82 4 rfl ?_
              refine r_iload X dX5_copy_84 5 rfl ?_
              refine r_callVI [.int l4, .int l5] X mt_X5_99 (by decide) h_v22 (by decide) (okX2_hasRun _ _ X.J h_v22) rfl (Nat.le_of_ble_eq_true rfl) dX5_copy_86 rfl (fun v24 M23 => ?_)
              refine r_if_ne 98 X dX5_copy_89 (by decide) ?_ ?_
              · exact r_to [(0, rf x.2.1 l0)] [0] rfl (sX5_copy_92 X hL Hr h_l0)
              · refine r_aload_n X dX5_copy_98 rfl 0 rfl ?_
                refine r_getR X fl_X5_11 (by decide) h_l0 dX5_copy_99 (fun v25 h_v25 => ?_)
                refine r_iload_n X dX5_copy_102 rfl 1 rfl ?_
                refine r_aldS X h_v25 dX5_copy_103 (fun v26 h_v26 => ?_)
                refine r_getR X fl_X5_89 (by decide) h_v26 dX5_copy_104 (fun v27 h_v27 => ?_)
                refine r_iload_n X dX5_copy_107 rfl 2 rfl ?_
                refine r_aload_n X dX5_copy_108 rfl 0 rfl ?_
                refine r_getR X fl_X5_11 (by decide) h_l0 dX5_copy_109 (fun v28 h_v28 => ?_)
                refine r_iload_n X dX5_copy_112 rfl 3 rfl ?_
                refine r_aldS X h_v28 dX5_copy_113 (fun v29 h_v29 => ?_)
                refine r_getR X fl_X5_89 (by decide) h_v29 dX5_copy_114 (fun v30 h_v30 => ?_)
                refine r_iload X dX5_copy_117 4 rfl ?_
                refine r_iload X dX5_copy_119 5 rfl ?_
                refine r_cpy X k_325 k_327 k_326 k_69 h_v27 h_v30 (by decide) (Nat.le_of_ble_eq_true rfl) dX5_copy_121 (fun M31 => ?_)
                refine r_iconst (v := 1) X dX5_copy_124 (by decide) ?_
                exact r_iret Hr rfl dX5_copy_125
          · exact r_to [(0, rf x.2.1 l0)] [0] rfl (sX5_copy_55 X hL Hr h_l0)
        · exact r_to [(0, rf x.2.1 l0)] [0] rfl (sX5_copy_55 X hL Hr h_l0)
      · refine r_aload_n X dX5_copy_25 rfl 0 rfl ?_
        refine r_iconst (v := 5) X dX5_copy_26 (by decide) ?_
        refine r_callVI [.int 5] X mt_X5_78 (by decide) h_l0 (by decide) (okX5_refuse _ _ X.J h_l0) rfl (Nat.le_of_ble_eq_true rfl) dX5_copy_27 rfl (fun v33 M32 => ?_)
        exact r_iret Hr rfl dX5_copy_30
set_option maxRecDepth 100000 in
set_option maxHeartbeats 4000000 in
theorem okX5_copy (l : Launch) (g : GX) (hJ : IJ g) {l0 : Nat} {l1 : Int32} {l2 : Int32} {l3 : Int32} {l4 : Int32} {l5 : Int32} {M : Mm} (h_l0 : sh l0 = 15) : CT l g yX5_copy cX5_copy 6 (some .int) 1 [rf g l0, .int l1, .int l2, .int l3, .int l4, .int l5] M (fX5_copy l0 l1 l2 l3 l4 l5 M) (fun r => some (.int r)) := by
  refine ct_I rfl hJ (Nat.le_of_ble_eq_true rfl) (fun x r hg hL hl X hf Hr => ?_)
  subst hg
  exact fun _ ls H locs hl hP hS => sX5_copy_0 X hL Hr h_l0 ⟨_, hf, rfl⟩ ls H locs hl hP hS
/-! CrumbWood.keptNumber()I -/
set_option maxRecDepth 100000 in
def pX5_keptNumber (x : SB) (q : Nat × Nat × Int32 × Int32 × Mm) : Prop := match q.1 with
  | 1 => sh q.2.1 = 15 → ∀ (ls : Array Slot) (H : Heap) (locs : List Loc), lv_has ls x.2.2.2.1 [(0, rf x.2.1 q.2.1), (1, .int q.2.2.1), (2, .int q.2.2.2.1)] → PW x.2.1 (q.2.2.2.2) H → SH x H locs → SW x H locs 4 ls []
  | _ => True
set_option maxRecDepth 100000 in
noncomputable def bX5_keptNumber_24 (l0 : Nat) (l1 : Int32) (l2 : Int32) (M : Mm) : Option ((Nat × Nat × Int32 × Int32 × Mm) ⊕ Int32 × Mm) := some (.inl (1, l0, l1, (l2 + 1), M))
set_option maxRecDepth 100000 in
set_option maxHeartbeats 4000000 in
theorem sX5_keptNumber_24 {x : SB} {F : ((Nat × Nat × Int32 × Int32 × Mm) ⊕ Int32 × Mm) → Prop} (X : CX x cX5_keptNumber RX5 1) (hL : x.2.2.2.1 = 3) (Hr : RTI x cX5_keptNumber .int F Sum.inr) (HH : ∀ q, F (.inl q) → pX5_keptNumber x q) {l0 : Nat} {l1 : Int32} {l2 : Int32} {M : Mm} (h_l0 : sh l0 = 15) : SIM x F (bX5_keptNumber_24 l0 l1 l2 M) 24 [(0, rf x.2.1 l0), (1, .int l1), (2, .int l2)] [] M := by
  unfold bX5_keptNumber_24
  refine r_iinc [(2, .int (l2 + 1)), (0, rf x.2.1 l0), (1, .int l1)] X dX5_keptNumber_24 2 rfl rfl (nlt hL (by decide)) rfl ?_
  refine r_goto 4 X dX5_keptNumber_27 (by decide) ?_
  exact r_hdr [(0, rf x.2.1 l0), (1, .int l1), (2, .int (l2 + 1))] [1, 2, 0] rfl (fun h => HH _ h h_l0)
set_option maxRecDepth 100000 in
noncomputable def bX5_keptNumber_4 (l0 : Nat) (l1 : Int32) (l2 : Int32) (M : Mm) : Option ((Nat × Nat × Int32 × Int32 × Mm) ⊕ Int32 × Mm) := if 3 ≤ l2 then some (.inr (l1, M)) else gfR M 4 l0 3 fun v1 => ldR M 14 v1 l2 fun v2 => cal (fX4_isEmpty v2 M) fun v4 M3 => if v4 = 0 then bX5_keptNumber_24 l0 (l1 + 1) l2 M3 else bX5_keptNumber_24 l0 l1 l2 M3
set_option maxRecDepth 100000 in
set_option maxHeartbeats 4000000 in
theorem sX5_keptNumber_4 {x : SB} {F : ((Nat × Nat × Int32 × Int32 × Mm) ⊕ Int32 × Mm) → Prop} (X : CX x cX5_keptNumber RX5 1) (hL : x.2.2.2.1 = 3) (Hr : RTI x cX5_keptNumber .int F Sum.inr) (HH : ∀ q, F (.inl q) → pX5_keptNumber x q) {l0 : Nat} {l1 : Int32} {l2 : Int32} {M : Mm} (h_l0 : sh l0 = 15) : SIM x F (bX5_keptNumber_4 l0 l1 l2 M) 4 [(0, rf x.2.1 l0), (1, .int l1), (2, .int l2)] [] M := by
  unfold bX5_keptNumber_4
  refine r_iload_n X dX5_keptNumber_4 rfl 2 rfl ?_
  refine r_iconst (v := 3) X dX5_keptNumber_5 (by decide) ?_
  refine r_icmp_ge 30 X dX5_keptNumber_6 (by decide) ?_ ?_
  · refine r_iload_n X dX5_keptNumber_30 rfl 1 rfl ?_
    exact r_iret Hr rfl dX5_keptNumber_31
  · refine r_aload_n X dX5_keptNumber_9 rfl 0 rfl ?_
    refine r_getR X fl_X5_25 (by decide) h_l0 dX5_keptNumber_10 (fun v1 h_v1 => ?_)
    refine r_iload_n X dX5_keptNumber_13 rfl 2 rfl ?_
    refine r_aldW X h_v1 dX5_keptNumber_14 (fun v2 h_v2 => ?_)
    refine r_callVI [] X mt_X5_199 (by decide) h_v2 (by decide) (okX4_isEmpty _ _ X.J h_v2) rfl (Nat.le_of_ble_eq_true rfl) dX5_keptNumber_15 rfl (fun v4 M3 => ?_)
    refine r_if_ne 24 X dX5_keptNumber_18 (by decide) ?_ ?_
    · refine r_iinc [(1, .int (l1 + 1)), (0, rf x.2.1 l0), (2, .int l2)] X dX5_keptNumber_21 1 rfl rfl (nlt hL (by decide)) rfl ?_
      exact r_to [(0, rf x.2.1 l0), (1, .int (l1 + 1)), (2, .int l2)] [1, 0, 2] rfl (sX5_keptNumber_24 X hL Hr HH h_l0)
    · exact r_to [(0, rf x.2.1 l0), (1, .int l1), (2, .int l2)] [0, 1, 2] rfl (sX5_keptNumber_24 X hL Hr HH h_l0)
set_option maxRecDepth 100000 in
noncomputable def bX5_keptNumber_0 (l0 : Nat) (M : Mm) : Option ((Nat × Nat × Int32 × Int32 × Mm) ⊕ Int32 × Mm) := some (.inl (1, l0, 0, 0, M))
set_option maxRecDepth 100000 in
set_option maxHeartbeats 4000000 in
theorem sX5_keptNumber_0 {x : SB} {F : ((Nat × Nat × Int32 × Int32 × Mm) ⊕ Int32 × Mm) → Prop} (X : CX x cX5_keptNumber RX5 1) (hL : x.2.2.2.1 = 3) (Hr : RTI x cX5_keptNumber .int F Sum.inr) (HH : ∀ q, F (.inl q) → pX5_keptNumber x q) {l0 : Nat} {M : Mm} (h_l0 : sh l0 = 15) : SIM x F (bX5_keptNumber_0 l0 M) 0 [(0, rf x.2.1 l0)] [] M := by
  unfold bX5_keptNumber_0
  refine r_iconst (v := 0) X dX5_keptNumber_0 (by decide) ?_
  refine r_istore_n [(1, .int 0), (0, rf x.2.1 l0)] X dX5_keptNumber_1 rfl (nlt hL (by decide)) rfl ?_
  refine r_iconst (v := 0) X dX5_keptNumber_2 (by decide) ?_
  refine r_istore_n [(2, .int 0), (1, .int 0), (0, rf x.2.1 l0)] X dX5_keptNumber_3 rfl (nlt hL (by decide)) rfl ?_
  exact r_hdr [(0, rf x.2.1 l0), (1, .int 0), (2, .int 0)] [2, 1, 0] rfl (fun h => HH _ h h_l0)
set_option maxRecDepth 100000 in
noncomputable def gX5_keptNumber (q : Nat × Nat × Int32 × Int32 × Mm) : Option ((Nat × Nat × Int32 × Int32 × Mm) ⊕ Int32 × Mm) := match q.1 with
  | 1 => bX5_keptNumber_4 (q.2.1) (q.2.2.1) (q.2.2.2.1) (q.2.2.2.2)
  | _ => none
set_option maxRecDepth 100000 in
noncomputable def fX5_keptNumber (l0 : Nat) (M : Mm) : Option (Int32 × Mm) := fen gX5_keptNumber (bX5_keptNumber_0 l0 M)
set_option maxRecDepth 100000 in
set_option maxHeartbeats 4000000 in
theorem okX5_keptNumber (l : Launch) (g : GX) (hJ : IJ g) {l0 : Nat} {M : Mm} (h_l0 : sh l0 = 15) : CT l g yX5_keptNumber cX5_keptNumber 3 (some .int) 1 [rf g l0] M (fX5_keptNumber l0 M) (fun r => some (.int r)) := by
  refine ct_I rfl hJ (Nat.le_of_ble_eq_true rfl) (fun x r hg hL hl X hf Hr => ?_)
  subst hg
  have Hr2 : RTI x cX5_keptNumber .int (Sum.elim (pX5_keptNumber x) (fun q => q = r)) Sum.inr := fun v M h => Hr v M h
  have HP : ∀ q, fnl gX5_keptNumber q = some r → pX5_keptNumber x q := by
    intro q hq
    refine fnl_ind (pX5_keptNumber x) (fun q hq => ?_) hq
    obtain ⟨n, l0, l1, l2, M⟩ := q
    match n, hq with
    | 1, hq => exact fun h_l0 ls H locs hl hP hS => sX5_keptNumber_4 X hL Hr2 (fun _ h => h) h_l0 hq ls H locs hl hP hS
    | 0, hq => exact trivial
    | n + 2, hq => exact trivial
  exact fun _ ls H locs hl hP hS => sX5_keptNumber_0 X hL Hr2 (fun _ h => h) h_l0 (fen_w hf HP) ls H locs hl hP hS
/-! CrumbWood.thereOf([LCrumbWood$Strip;)I -/
set_option maxRecDepth 100000 in
def pX5_thereOf (x : SB) (q : Nat × Nat × Int32 × Int32 × Mm) : Prop := match q.1 with
  | 1 => sh q.2.1 = 3 → ∀ (ls : Array Slot) (H : Heap) (locs : List Loc), lv_has ls x.2.2.2.1 [(0, rf x.2.1 q.2.1), (1, .int q.2.2.1), (2, .int q.2.2.2.1)] → PW x.2.1 (q.2.2.2.2) H → SH x H locs → SW x H locs 4 ls []
  | _ => True
set_option maxRecDepth 100000 in
noncomputable def bX5_thereOf_22 (l0 : Nat) (l1 : Int32) (l2 : Int32) (M : Mm) : Option ((Nat × Nat × Int32 × Int32 × Mm) ⊕ Int32 × Mm) := some (.inl (1, l0, l1, (l2 + 1), M))
set_option maxRecDepth 100000 in
set_option maxHeartbeats 4000000 in
theorem sX5_thereOf_22 {x : SB} {F : ((Nat × Nat × Int32 × Int32 × Mm) ⊕ Int32 × Mm) → Prop} (X : CX x cX5_thereOf RX5 1) (hL : x.2.2.2.1 = 3) (Hr : RTI x cX5_thereOf .int F Sum.inr) (HH : ∀ q, F (.inl q) → pX5_thereOf x q) {l0 : Nat} {l1 : Int32} {l2 : Int32} {M : Mm} (h_l0 : sh l0 = 3) : SIM x F (bX5_thereOf_22 l0 l1 l2 M) 22 [(0, rf x.2.1 l0), (1, .int l1), (2, .int l2)] [] M := by
  unfold bX5_thereOf_22
  refine r_iinc [(2, .int (l2 + 1)), (0, rf x.2.1 l0), (1, .int l1)] X dX5_thereOf_22 2 rfl rfl (nlt hL (by decide)) rfl ?_
  refine r_goto 4 X dX5_thereOf_25 (by decide) ?_
  exact r_hdr [(0, rf x.2.1 l0), (1, .int l1), (2, .int (l2 + 1))] [1, 2, 0] rfl (fun h => HH _ h h_l0)
set_option maxRecDepth 100000 in
noncomputable def bX5_thereOf_4 (l0 : Nat) (l1 : Int32) (l2 : Int32) (M : Mm) : Option ((Nat × Nat × Int32 × Int32 × Mm) ⊕ Int32 × Mm) := if (Int32.ofNat (ln l0)) ≤ l2 then some (.inr (l1, M)) else ldR M 12 l0 l2 fun v1 => cal (fX2_isMissing v1 M) fun v3 M2 => if v3 = 0 then bX5_thereOf_22 l0 (l1 + 1) l2 M2 else bX5_thereOf_22 l0 l1 l2 M2
set_option maxRecDepth 100000 in
set_option maxHeartbeats 4000000 in
theorem sX5_thereOf_4 {x : SB} {F : ((Nat × Nat × Int32 × Int32 × Mm) ⊕ Int32 × Mm) → Prop} (X : CX x cX5_thereOf RX5 1) (hL : x.2.2.2.1 = 3) (Hr : RTI x cX5_thereOf .int F Sum.inr) (HH : ∀ q, F (.inl q) → pX5_thereOf x q) {l0 : Nat} {l1 : Int32} {l2 : Int32} {M : Mm} (h_l0 : sh l0 = 3) : SIM x F (bX5_thereOf_4 l0 l1 l2 M) 4 [(0, rf x.2.1 l0), (1, .int l1), (2, .int l2)] [] M := by
  unfold bX5_thereOf_4
  refine r_iload_n X dX5_thereOf_4 rfl 2 rfl ?_
  refine r_aload_n X dX5_thereOf_5 rfl 0 rfl ?_
  refine r_alenS X h_l0 dX5_thereOf_6 ?_
  refine r_icmp_ge 28 X dX5_thereOf_7 (by decide) ?_ ?_
  · refine r_iload_n X dX5_thereOf_28 rfl 1 rfl ?_
    exact r_iret Hr rfl dX5_thereOf_29
  · refine r_aload_n X dX5_thereOf_10 rfl 0 rfl ?_
    refine r_iload_n X dX5_thereOf_11 rfl 2 rfl ?_
    refine r_aldS X h_l0 dX5_thereOf_12 (fun v1 h_v1 => ?_)
    refine r_callVI [] X mt_X5_92 (by decide) h_v1 (by decide) (okX2_isMissing _ _ X.J h_v1) rfl (Nat.le_of_ble_eq_true rfl) dX5_thereOf_13 rfl (fun v3 M2 => ?_)
    refine r_if_ne 22 X dX5_thereOf_16 (by decide) ?_ ?_
    · refine r_iinc [(1, .int (l1 + 1)), (0, rf x.2.1 l0), (2, .int l2)] X dX5_thereOf_19 1 rfl rfl (nlt hL (by decide)) rfl ?_
      exact r_to [(0, rf x.2.1 l0), (1, .int (l1 + 1)), (2, .int l2)] [1, 0, 2] rfl (sX5_thereOf_22 X hL Hr HH h_l0)
    · exact r_to [(0, rf x.2.1 l0), (1, .int l1), (2, .int l2)] [0, 1, 2] rfl (sX5_thereOf_22 X hL Hr HH h_l0)
set_option maxRecDepth 100000 in
noncomputable def bX5_thereOf_0 (l0 : Nat) (M : Mm) : Option ((Nat × Nat × Int32 × Int32 × Mm) ⊕ Int32 × Mm) := some (.inl (1, l0, 0, 0, M))
set_option maxRecDepth 100000 in
set_option maxHeartbeats 4000000 in
theorem sX5_thereOf_0 {x : SB} {F : ((Nat × Nat × Int32 × Int32 × Mm) ⊕ Int32 × Mm) → Prop} (X : CX x cX5_thereOf RX5 1) (hL : x.2.2.2.1 = 3) (Hr : RTI x cX5_thereOf .int F Sum.inr) (HH : ∀ q, F (.inl q) → pX5_thereOf x q) {l0 : Nat} {M : Mm} (h_l0 : sh l0 = 3) : SIM x F (bX5_thereOf_0 l0 M) 0 [(0, rf x.2.1 l0)] [] M := by
  unfold bX5_thereOf_0
  refine r_iconst (v := 0) X dX5_thereOf_0 (by decide) ?_
  refine r_istore_n [(1, .int 0), (0, rf x.2.1 l0)] X dX5_thereOf_1 rfl (nlt hL (by decide)) rfl ?_
  refine r_iconst (v := 0) X dX5_thereOf_2 (by decide) ?_
  refine r_istore_n [(2, .int 0), (1, .int 0), (0, rf x.2.1 l0)] X dX5_thereOf_3 rfl (nlt hL (by decide)) rfl ?_
  exact r_hdr [(0, rf x.2.1 l0), (1, .int 0), (2, .int 0)] [2, 1, 0] rfl (fun h => HH _ h h_l0)
set_option maxRecDepth 100000 in
noncomputable def gX5_thereOf (q : Nat × Nat × Int32 × Int32 × Mm) : Option ((Nat × Nat × Int32 × Int32 × Mm) ⊕ Int32 × Mm) := match q.1 with
  | 1 => bX5_thereOf_4 (q.2.1) (q.2.2.1) (q.2.2.2.1) (q.2.2.2.2)
  | _ => none
set_option maxRecDepth 100000 in
noncomputable def fX5_thereOf (l0 : Nat) (M : Mm) : Option (Int32 × Mm) := fen gX5_thereOf (bX5_thereOf_0 l0 M)
set_option maxRecDepth 100000 in
set_option maxHeartbeats 4000000 in
theorem okX5_thereOf (l : Launch) (g : GX) (hJ : IJ g) {l0 : Nat} {M : Mm} (h_l0 : sh l0 = 3) : CT l g yX5_thereOf cX5_thereOf 3 (some .int) 1 [rf g l0] M (fX5_thereOf l0 M) (fun r => some (.int r)) := by
  refine ct_I rfl hJ (Nat.le_of_ble_eq_true rfl) (fun x r hg hL hl X hf Hr => ?_)
  subst hg
  have Hr2 : RTI x cX5_thereOf .int (Sum.elim (pX5_thereOf x) (fun q => q = r)) Sum.inr := fun v M h => Hr v M h
  have HP : ∀ q, fnl gX5_thereOf q = some r → pX5_thereOf x q := by
    intro q hq
    refine fnl_ind (pX5_thereOf x) (fun q hq => ?_) hq
    obtain ⟨n, l0, l1, l2, M⟩ := q
    match n, hq with
    | 1, hq => exact fun h_l0 ls H locs hl hP hS => sX5_thereOf_4 X hL Hr2 (fun _ h => h) h_l0 hq ls H locs hl hP hS
    | 0, hq => exact trivial
    | n + 2, hq => exact trivial
  exact fun _ ls H locs hl hP hS => sX5_thereOf_0 X hL Hr2 (fun _ h => h) h_l0 (fen_w hf HP) ls H locs hl hP hS
/-! CrumbWood$Wood.pathNumber()I -/
set_option maxRecDepth 100000 in
def pX4_pathNumber (x : SB) (q : Nat × Nat × Int32 × Int32 × Mm) : Prop := match q.1 with
  | 1 => sh q.2.1 = 14 → ∀ (ls : Array Slot) (H : Heap) (locs : List Loc), lv_has ls x.2.2.2.1 [(0, rf x.2.1 q.2.1), (1, .int q.2.2.1), (2, .int q.2.2.2.1)] → PW x.2.1 (q.2.2.2.2) H → SH x H locs → SW x H locs 4 ls []
  | _ => True
set_option maxRecDepth 100000 in
noncomputable def bX4_pathNumber_4 (l0 : Nat) (l1 : Int32) (l2 : Int32) (M : Mm) : Option ((Nat × Nat × Int32 × Int32 × Mm) ⊕ Int32 × Mm) := gfI M l0 0 fun v1 => if v1 ≤ l2 then dvI l1 2 fun v2 => some (.inr (v2, M)) else gfR M 0 l0 5 fun v3 => ldI M v3 l2 fun v4 => cal (fJ6_bitCount_0f7a4 v4 M) fun v6 M5 => ltI (l1 + v6) fun v7 => some (.inl (1, l0, v7, (l2 + 1), M5))
set_option maxRecDepth 100000 in
set_option maxHeartbeats 4000000 in
theorem sX4_pathNumber_4 {x : SB} {F : ((Nat × Nat × Int32 × Int32 × Mm) ⊕ Int32 × Mm) → Prop} (X : CX x cX4_pathNumber RX4 1) (hL : x.2.2.2.1 = 3) (Hr : RTI x cX4_pathNumber .int F Sum.inr) (HH : ∀ q, F (.inl q) → pX4_pathNumber x q) {l0 : Nat} {l1 : Int32} {l2 : Int32} {M : Mm} (h_l0 : sh l0 = 14) : SIM x F (bX4_pathNumber_4 l0 l1 l2 M) 4 [(0, rf x.2.1 l0), (1, .int l1), (2, .int l2)] [] M := by
  unfold bX4_pathNumber_4
  refine r_iload_n X dX4_pathNumber_4 rfl 2 rfl ?_
  refine r_aload_n X dX4_pathNumber_5 rfl 0 rfl ?_
  refine r_getI X fl_X4_9 (by decide) h_l0 dX4_pathNumber_6 (fun v1 => ?_)
  refine r_icmp_ge 30 X dX4_pathNumber_9 (by decide) ?_ ?_
  · refine r_iload_n X dX4_pathNumber_30 rfl 1 rfl ?_
    refine r_iconst (v := 2) X dX4_pathNumber_31 (by decide) ?_
    refine r_idiv X dX4_pathNumber_32 (fun v2 => ?_)
    exact r_iret Hr rfl dX4_pathNumber_33
  · refine r_iload_n X dX4_pathNumber_12 rfl 1 rfl ?_
    refine r_aload_n X dX4_pathNumber_13 rfl 0 rfl ?_
    refine r_getR X fl_X4_28 (by decide) h_l0 dX4_pathNumber_14 (fun v3 h_v3 => ?_)
    refine r_iload_n X dX4_pathNumber_17 rfl 2 rfl ?_
    refine r_iald X h_v3 dX4_pathNumber_18 (fun v4 => ?_)
    refine r_callSI [.int v4] X mt_X4_92 (by decide) (okJ6_bitCount_0f7a4 _ _ X.J) rfl (Nat.le_of_ble_eq_true rfl) dX4_pathNumber_19 rfl (fun v6 M5 => ?_)
    refine r_iadd X dX4_pathNumber_22 ?_
    refine r_letI (fun v7 => ?_)
    refine r_istore_n [(1, .int v7), (0, rf x.2.1 l0), (2, .int l2)] X dX4_pathNumber_23 rfl (nlt hL (by decide)) rfl ?_
    refine r_iinc [(2, .int (l2 + 1)), (1, .int v7), (0, rf x.2.1 l0)] X dX4_pathNumber_24 2 rfl rfl (nlt hL (by decide)) rfl ?_
    refine r_goto 4 X dX4_pathNumber_27 (by decide) ?_
    exact r_hdr [(0, rf x.2.1 l0), (1, .int v7), (2, .int (l2 + 1))] [2, 1, 0] rfl (fun h => HH _ h h_l0)
set_option maxRecDepth 100000 in
noncomputable def bX4_pathNumber_0 (l0 : Nat) (M : Mm) : Option ((Nat × Nat × Int32 × Int32 × Mm) ⊕ Int32 × Mm) := some (.inl (1, l0, 0, 0, M))
set_option maxRecDepth 100000 in
set_option maxHeartbeats 4000000 in
theorem sX4_pathNumber_0 {x : SB} {F : ((Nat × Nat × Int32 × Int32 × Mm) ⊕ Int32 × Mm) → Prop} (X : CX x cX4_pathNumber RX4 1) (hL : x.2.2.2.1 = 3) (Hr : RTI x cX4_pathNumber .int F Sum.inr) (HH : ∀ q, F (.inl q) → pX4_pathNumber x q) {l0 : Nat} {M : Mm} (h_l0 : sh l0 = 14) : SIM x F (bX4_pathNumber_0 l0 M) 0 [(0, rf x.2.1 l0)] [] M := by
  unfold bX4_pathNumber_0
  refine r_iconst (v := 0) X dX4_pathNumber_0 (by decide) ?_
  refine r_istore_n [(1, .int 0), (0, rf x.2.1 l0)] X dX4_pathNumber_1 rfl (nlt hL (by decide)) rfl ?_
  refine r_iconst (v := 0) X dX4_pathNumber_2 (by decide) ?_
  refine r_istore_n [(2, .int 0), (1, .int 0), (0, rf x.2.1 l0)] X dX4_pathNumber_3 rfl (nlt hL (by decide)) rfl ?_
  exact r_hdr [(0, rf x.2.1 l0), (1, .int 0), (2, .int 0)] [2, 1, 0] rfl (fun h => HH _ h h_l0)
set_option maxRecDepth 100000 in
noncomputable def gX4_pathNumber (q : Nat × Nat × Int32 × Int32 × Mm) : Option ((Nat × Nat × Int32 × Int32 × Mm) ⊕ Int32 × Mm) := match q.1 with
  | 1 => bX4_pathNumber_4 (q.2.1) (q.2.2.1) (q.2.2.2.1) (q.2.2.2.2)
  | _ => none
set_option maxRecDepth 100000 in
noncomputable def fX4_pathNumber (l0 : Nat) (M : Mm) : Option (Int32 × Mm) := fen gX4_pathNumber (bX4_pathNumber_0 l0 M)
set_option maxRecDepth 100000 in
set_option maxHeartbeats 4000000 in
theorem okX4_pathNumber (l : Launch) (g : GX) (hJ : IJ g) {l0 : Nat} {M : Mm} (h_l0 : sh l0 = 14) : CT l g yX4_pathNumber cX4_pathNumber 3 (some .int) 1 [rf g l0] M (fX4_pathNumber l0 M) (fun r => some (.int r)) := by
  refine ct_I rfl hJ (Nat.le_of_ble_eq_true rfl) (fun x r hg hL hl X hf Hr => ?_)
  subst hg
  have Hr2 : RTI x cX4_pathNumber .int (Sum.elim (pX4_pathNumber x) (fun q => q = r)) Sum.inr := fun v M h => Hr v M h
  have HP : ∀ q, fnl gX4_pathNumber q = some r → pX4_pathNumber x q := by
    intro q hq
    refine fnl_ind (pX4_pathNumber x) (fun q hq => ?_) hq
    obtain ⟨n, l0, l1, l2, M⟩ := q
    match n, hq with
    | 1, hq => exact fun h_l0 ls H locs hl hP hS => sX4_pathNumber_4 X hL Hr2 (fun _ h => h) h_l0 hq ls H locs hl hP hS
    | 0, hq => exact trivial
    | n + 2, hq => exact trivial
  exact fun _ ls H locs hl hP hS => sX4_pathNumber_0 X hL Hr2 (fun _ h => h) h_l0 (fen_w hf HP) ls H locs hl hP hS
/-! CrumbWood.count(I)I -/
set_option maxRecDepth 100000 in
noncomputable def fX5_count (l0 : Nat) (l1 : Int32) (M : Mm) : Option (Int32 × Mm) := cal (fX5_isBelow l1 11 M) fun v2 M1 => if v2 = 0 then some (((-1), M1)) else if l1 = 0 then gfR M1 14 l0 2 fun v3 => gfI M1 v3 0 fun v4 => some ((v4, M1)) else if l1 = 1 then gfR M1 14 l0 2 fun v5 => cal (fX4_pathNumber v5 M1) fun v7 M6 => some ((v7, M6)) else if l1 = 2 then gfR M1 14 l0 2 fun v8 => gfI M1 v8 1 fun v9 => some ((v9, M1)) else if l1 = 3 then gfR M1 14 l0 2 fun v10 => gfI M1 v10 2 fun v11 => some ((v11, M1)) else if l1 = 4 then gfR M1 14 l0 2 fun v12 => cal (fX4_totalOf v12 (l1 - 4) M1) fun v14 M13 => some ((v14, M13)) else if l1 = 5 then gfR M1 14 l0 2 fun v15 => cal (fX4_totalOf v15 (l1 - 4) M1) fun v17 M16 => some ((v17, M16)) else if l1 = 6 then gfR M1 14 l0 2 fun v18 => cal (fX4_totalOf v18 (l1 - 4) M1) fun v20 M19 => some ((v20, M19)) else if l1 = 7 then gfR M1 3 l0 0 fun v21 => cal (fX5_thereOf v21 M1) fun v23 M22 => some ((v23, M22)) else if l1 = 8 then gfR M1 3 l0 1 fun v24 => cal (fX5_thereOf v24 M1) fun v26 M25 => some ((v26, M25)) else if l1 = 9 then cal (fX5_keptNumber l0 M1) fun v28 M27 => some ((v28, M27)) else gfR M1 14 l0 2 fun v29 => gfR M1 0 v29 4 fun v30 => ldI M1 v30 2 fun v31 => cal (fJ6_bitCount_0f7a4 v31 M1) fun v33 M32 => some ((v33, M32))
set_option maxRecDepth 100000 in
set_option maxHeartbeats 4000000 in
theorem sX5_count_0 {x : SB} {F : (Int32 × Mm) → Prop} (X : CX x cX5_count RX5 2) (hL : x.2.2.2.1 = 2) (Hr : RTI x cX5_count .int F (fun q => q)) {l0 : Nat} {l1 : Int32} {M : Mm} (h_l0 : sh l0 = 15) : SIM x F (fX5_count l0 l1 M) 0 [(0, rf x.2.1 l0), (1, .int l1)] [] M := by
  unfold fX5_count
  refine r_iload_n X dX5_count_0 rfl 1 rfl ?_
  refine r_bipush (v := 11) X dX5_count_1 (by decide) ?_
  refine r_callSI [.int l1, .int 11] X mt_X5_74 (by decide) (okX5_isBelow _ _ X.J) rfl (Nat.le_of_ble_eq_true rfl) dX5_count_3 rfl (fun v2 M1 => ?_)
  refine r_if_ne 11 X dX5_count_6 (by decide) ?_ ?_
  · refine r_iconst (v := (-1)) X dX5_count_9 (by decide) ?_
    exact r_iret Hr rfl dX5_count_10
  · refine r_iload_n X dX5_count_11 rfl 1 rfl ?_
    refine r_tsw 0 68 X dX5_count_12 (by decide) (by decide) rfl (by decide) ?_ (fun q0 => ?_)
    · refine r_aload_n X dX5_count_68 rfl 0 rfl ?_
      refine r_getR X fl_X5_21 (by decide) h_l0 dX5_count_69 (fun v3 h_v3 => ?_)
      refine r_getI X fl_X5_120 (by decide) h_v3 dX5_count_72 (fun v4 => ?_)
      exact r_iret Hr rfl dX5_count_75
    refine r_tsw 1 76 X dX5_count_12 (by decide) (by decide) rfl (by decide) ?_ (fun q1 => ?_)
    · refine r_aload_n X dX5_count_76 rfl 0 rfl ?_
      refine r_getR X fl_X5_21 (by decide) h_l0 dX5_count_77 (fun v5 h_v5 => ?_)
      refine r_callVI [] X mt_X5_279 (by decide) h_v5 (by decide) (okX4_pathNumber _ _ X.J h_v5) rfl (Nat.le_of_ble_eq_true rfl) dX5_count_80 rfl (fun v7 M6 => ?_)
      exact r_iret Hr rfl dX5_count_83
    refine r_tsw 2 84 X dX5_count_12 (by decide) (by decide) rfl (by decide) ?_ (fun q2 => ?_)
    · refine r_aload_n X dX5_count_84 rfl 0 rfl ?_
      refine r_getR X fl_X5_21 (by decide) h_l0 dX5_count_85 (fun v8 h_v8 => ?_)
      refine r_getI X fl_X5_168 (by decide) h_v8 dX5_count_88 (fun v9 => ?_)
      exact r_iret Hr rfl dX5_count_91
    refine r_tsw 3 92 X dX5_count_12 (by decide) (by decide) rfl (by decide) ?_ (fun q3 => ?_)
    · refine r_aload_n X dX5_count_92 rfl 0 rfl ?_
      refine r_getR X fl_X5_21 (by decide) h_l0 dX5_count_93 (fun v10 h_v10 => ?_)
      refine r_getI X fl_X5_184 (by decide) h_v10 dX5_count_96 (fun v11 => ?_)
      exact r_iret Hr rfl dX5_count_99
    refine r_tsw 4 100 X dX5_count_12 (by decide) (by decide) rfl (by decide) ?_ (fun q4 => ?_)
    · refine r_aload_n X dX5_count_100 rfl 0 rfl ?_
      refine r_getR X fl_X5_21 (by decide) h_l0 dX5_count_101 (fun v12 h_v12 => ?_)
      refine r_iload_n X dX5_count_104 rfl 1 rfl ?_
      refine r_iconst (v := 4) X dX5_count_105 (by decide) ?_
      refine r_isub X dX5_count_106 ?_
      refine r_callVI [.int (l1 - 4)] X mt_X5_264 (by decide) h_v12 (by decide) (okX4_totalOf _ _ X.J h_v12) rfl (Nat.le_of_ble_eq_true rfl) dX5_count_107 rfl (fun v14 M13 => ?_)
      exact r_iret Hr rfl dX5_count_110
    refine r_tsw 5 100 X dX5_count_12 (by decide) (by decide) rfl (by decide) ?_ (fun q5 => ?_)
    · refine r_aload_n X dX5_count_100 rfl 0 rfl ?_
      refine r_getR X fl_X5_21 (by decide) h_l0 dX5_count_101 (fun v15 h_v15 => ?_)
      refine r_iload_n X dX5_count_104 rfl 1 rfl ?_
      refine r_iconst (v := 4) X dX5_count_105 (by decide) ?_
      refine r_isub X dX5_count_106 ?_
      refine r_callVI [.int (l1 - 4)] X mt_X5_264 (by decide) h_v15 (by decide) (okX4_totalOf _ _ X.J h_v15) rfl (Nat.le_of_ble_eq_true rfl) dX5_count_107 rfl (fun v17 M16 => ?_)
      exact r_iret Hr rfl dX5_count_110
    refine r_tsw 6 100 X dX5_count_12 (by decide) (by decide) rfl (by decide) ?_ (fun q6 => ?_)
    · refine r_aload_n X dX5_count_100 rfl 0 rfl ?_
      refine r_getR X fl_X5_21 (by decide) h_l0 dX5_count_101 (fun v18 h_v18 => ?_)
      refine r_iload_n X dX5_count_104 rfl 1 rfl ?_
      refine r_iconst (v := 4) X dX5_count_105 (by decide) ?_
      refine r_isub X dX5_count_106 ?_
      refine r_callVI [.int (l1 - 4)] X mt_X5_264 (by decide) h_v18 (by decide) (okX4_totalOf _ _ X.J h_v18) rfl (Nat.le_of_ble_eq_true rfl) dX5_count_107 rfl (fun v20 M19 => ?_)
      exact r_iret Hr rfl dX5_count_110
    refine r_tsw 7 111 X dX5_count_12 (by decide) (by decide) rfl (by decide) ?_ (fun q7 => ?_)
    · refine r_aload_n X dX5_count_111 rfl 0 rfl ?_
      refine r_getR X fl_X5_11 (by decide) h_l0 dX5_count_112 (fun v21 h_v21 => ?_)
      refine r_callSI [rf x.2.1 v21] X mt_X5_282 (by decide) (okX5_thereOf _ _ X.J h_v21) rfl (Nat.le_of_ble_eq_true rfl) dX5_count_115 rfl (fun v23 M22 => ?_)
      exact r_iret Hr rfl dX5_count_118
    refine r_tsw 8 119 X dX5_count_12 (by decide) (by decide) rfl (by decide) ?_ (fun q8 => ?_)
    · refine r_aload_n X dX5_count_119 rfl 0 rfl ?_
      refine r_getR X fl_X5_15 (by decide) h_l0 dX5_count_120 (fun v24 h_v24 => ?_)
      refine r_callSI [rf x.2.1 v24] X mt_X5_282 (by decide) (okX5_thereOf _ _ X.J h_v24) rfl (Nat.le_of_ble_eq_true rfl) dX5_count_123 rfl (fun v26 M25 => ?_)
      exact r_iret Hr rfl dX5_count_126
    refine r_tsw 9 127 X dX5_count_12 (by decide) (by decide) rfl (by decide) ?_ (fun q9 => ?_)
    · refine r_aload_n X dX5_count_127 rfl 0 rfl ?_
      refine r_callVI [] X mt_X5_286 (by decide) h_l0 (by decide) (okX5_keptNumber _ _ X.J h_l0) rfl (Nat.le_of_ble_eq_true rfl) dX5_count_128 rfl (fun v28 M27 => ?_)
      exact r_iret Hr rfl dX5_count_131
    refine r_tswd 132 X dX5_count_12 (by have := i32_ne q0 (n := 0) (by decide); have := i32_ne q1 (n := 1) (by decide); have := i32_ne q2 (n := 2) (by decide); have := i32_ne q3 (n := 3) (by decide); have := i32_ne q4 (n := 4) (by decide); have := i32_ne q5 (n := 5) (by decide); have := i32_ne q6 (n := 6) (by decide); have := i32_ne q7 (n := 7) (by decide); have := i32_ne q8 (n := 8) (by decide); have := i32_ne q9 (n := 9) (by decide); omega) (by decide) ?_
    refine r_aload_n X dX5_count_132 rfl 0 rfl ?_
    refine r_getR X fl_X5_21 (by decide) h_l0 dX5_count_133 (fun v29 h_v29 => ?_)
    refine r_getR X fl_X5_153 (by decide) h_v29 dX5_count_136 (fun v30 h_v30 => ?_)
    refine r_iconst (v := 2) X dX5_count_139 (by decide) ?_
    refine r_iald X h_v30 dX5_count_140 (fun v31 => ?_)
    refine r_callSI [.int v31] X mt_X5_156 (by decide) (okJ6_bitCount_0f7a4 _ _ X.J) rfl (Nat.le_of_ble_eq_true rfl) dX5_count_141 rfl (fun v33 M32 => ?_)
    exact r_iret Hr rfl dX5_count_144
set_option maxRecDepth 100000 in
set_option maxHeartbeats 4000000 in
theorem okX5_count (l : Launch) (g : GX) (hJ : IJ g) {l0 : Nat} {l1 : Int32} {M : Mm} (h_l0 : sh l0 = 15) : CT l g yX5_count cX5_count 2 (some .int) 2 [rf g l0, .int l1] M (fX5_count l0 l1 M) (fun r => some (.int r)) := by
  refine ct_I rfl hJ (Nat.le_of_ble_eq_true rfl) (fun x r hg hL hl X hf Hr => ?_)
  subst hg
  exact fun _ ls H locs hl hP hS => sX5_count_0 X hL Hr h_l0 ⟨_, hf, rfl⟩ ls H locs hl hP hS
/-! CrumbWood$Strip.digestOn(J)J -/
set_option maxRecDepth 100000 in
def pX2_digestOn (x : SB) (q : Nat × Nat × Int64 × Int32 × Mm) : Prop := match q.1 with
  | 1 => sh q.2.1 = 12 → ∀ (ls : Array Slot) (H : Heap) (locs : List Loc), lv_has ls x.2.2.2.1 [(0, rf x.2.1 q.2.1), (3, .long q.2.2.1), (5, .int q.2.2.2.1)] → PW x.2.1 (q.2.2.2.2) H → SH x H locs → SW x H locs 15 ls []
  | _ => True
set_option maxRecDepth 100000 in
noncomputable def bX2_digestOn_15 (l0 : Nat) (l3 : Int64) (l5 : Int32) (M : Mm) : Option ((Nat × Nat × Int64 × Int32 × Mm) ⊕ Int64 × Mm) := gfI M l0 1 fun v1 => if v1 ≤ l5 then some (.inr (l3, M)) else gfR M 0 l0 0 fun v2 => ldI M v2 l5 fun v3 => ltJ (((31 : Int64) * l3) + ((v3 : Int32).toInt64)) fun v4 => some (.inl (1, l0, v4, (l5 + 1), M))
set_option maxRecDepth 100000 in
set_option maxHeartbeats 4000000 in
theorem sX2_digestOn_15 {x : SB} {F : ((Nat × Nat × Int64 × Int32 × Mm) ⊕ Int64 × Mm) → Prop} (X : CX x cX2_digestOn RX2 0) (hL : x.2.2.2.1 = 6) (Hr : RTJ x cX2_digestOn F Sum.inr) (HH : ∀ q, F (.inl q) → pX2_digestOn x q) {l0 : Nat} {l3 : Int64} {l5 : Int32} {M : Mm} (h_l0 : sh l0 = 12) : SIM x F (bX2_digestOn_15 l0 l3 l5 M) 15 [(0, rf x.2.1 l0), (3, .long l3), (5, .int l5)] [] M := by
  unfold bX2_digestOn_15
  refine r_iload X dX2_digestOn_15 2 rfl ?_
  refine r_aload_n X dX2_digestOn_17 rfl 0 rfl ?_
  refine r_getI X fl_X2_9 (by decide) h_l0 dX2_digestOn_18 (fun v1 => ?_)
  refine r_icmp_ge 45 X dX2_digestOn_21 (by decide) ?_ ?_
  · refine r_lload_n X dX2_digestOn_45 rfl 1 rfl ?_
    exact r_lret Hr dX2_digestOn_46
  · refine r_ldc2 X dX2_digestOn_24 k_771 ?_
    refine r_lload_n X dX2_digestOn_27 rfl 1 rfl ?_
    refine r_lmul X dX2_digestOn_28 ?_
    refine r_aload_n X dX2_digestOn_29 rfl 0 rfl ?_
    refine r_getR X fl_X2_21 (by decide) h_l0 dX2_digestOn_30 (fun v2 h_v2 => ?_)
    refine r_iload X dX2_digestOn_33 2 rfl ?_
    refine r_iald X h_v2 dX2_digestOn_35 (fun v3 => ?_)
    refine r_i2l X dX2_digestOn_36 ?_
    refine r_ladd X dX2_digestOn_37 ?_
    refine r_letJ (fun v4 => ?_)
    refine r_lstore_n [(3, .long v4), (0, rf x.2.1 l0), (5, .int l5)] X dX2_digestOn_38 rfl (nlt hL (by decide)) rfl ?_
    refine r_iinc [(5, .int (l5 + 1)), (3, .long v4), (0, rf x.2.1 l0)] X dX2_digestOn_39 2 rfl rfl (nlt hL (by decide)) rfl ?_
    refine r_goto 15 X dX2_digestOn_42 (by decide) ?_
    exact r_hdr [(0, rf x.2.1 l0), (3, .long v4), (5, .int (l5 + 1))] [2, 1, 0] rfl (fun h => HH _ h h_l0)
set_option maxRecDepth 100000 in
noncomputable def bX2_digestOn_0 (l0 : Nat) (l1 : Int64) (M : Mm) : Option ((Nat × Nat × Int64 × Int32 × Mm) ⊕ Int64 × Mm) := gfI M l0 1 fun v5 => ltJ (((31 : Int64) * l1) + ((v5 : Int32).toInt64)) fun v6 => some (.inl (1, l0, v6, 0, M))
set_option maxRecDepth 100000 in
set_option maxHeartbeats 4000000 in
theorem sX2_digestOn_0 {x : SB} {F : ((Nat × Nat × Int64 × Int32 × Mm) ⊕ Int64 × Mm) → Prop} (X : CX x cX2_digestOn RX2 0) (hL : x.2.2.2.1 = 6) (Hr : RTJ x cX2_digestOn F Sum.inr) (HH : ∀ q, F (.inl q) → pX2_digestOn x q) {l0 : Nat} {l1 : Int64} {M : Mm} (h_l0 : sh l0 = 12) : SIM x F (bX2_digestOn_0 l0 l1 M) 0 [(0, rf x.2.1 l0), (1, .long l1)] [] M := by
  unfold bX2_digestOn_0
  refine r_ldc2 X dX2_digestOn_0 k_771 ?_
  refine r_lload_n X dX2_digestOn_3 rfl 1 rfl ?_
  refine r_lmul X dX2_digestOn_4 ?_
  refine r_aload_n X dX2_digestOn_5 rfl 0 rfl ?_
  refine r_getI X fl_X2_9 (by decide) h_l0 dX2_digestOn_6 (fun v5 => ?_)
  refine r_i2l X dX2_digestOn_9 ?_
  refine r_ladd X dX2_digestOn_10 ?_
  refine r_letJ (fun v6 => ?_)
  refine r_lstore_n [(3, .long v6), (0, rf x.2.1 l0), (1, .long l1)] X dX2_digestOn_11 rfl (nlt hL (by decide)) rfl ?_
  refine r_iconst (v := 0) X dX2_digestOn_12 (by decide) ?_
  refine r_istore [(5, .int 0), (3, .long v6), (0, rf x.2.1 l0), (1, .long l1)] X dX2_digestOn_13 (nlt hL (by decide)) rfl ?_
  exact r_hdr [(0, rf x.2.1 l0), (3, .long v6), (5, .int 0)] [2, 1, 0] rfl (fun h => HH _ h h_l0)
set_option maxRecDepth 100000 in
noncomputable def gX2_digestOn (q : Nat × Nat × Int64 × Int32 × Mm) : Option ((Nat × Nat × Int64 × Int32 × Mm) ⊕ Int64 × Mm) := match q.1 with
  | 1 => bX2_digestOn_15 (q.2.1) (q.2.2.1) (q.2.2.2.1) (q.2.2.2.2)
  | _ => none
set_option maxRecDepth 100000 in
noncomputable def fX2_digestOn (l0 : Nat) (l1 : Int64) (M : Mm) : Option (Int64 × Mm) := fen gX2_digestOn (bX2_digestOn_0 l0 l1 M)
set_option maxRecDepth 100000 in
set_option maxHeartbeats 4000000 in
theorem okX2_digestOn (l : Launch) (g : GX) (hJ : IJ g) {l0 : Nat} {l1 : Int64} {M : Mm} (h_l0 : sh l0 = 12) : CT l g yX2_digestOn cX2_digestOn 6 (some .long) 0 [rf g l0, .long l1] M (fX2_digestOn l0 l1 M) (fun r => some (.long r)) := by
  refine ct_J rfl hJ (Nat.le_of_ble_eq_true rfl) (fun x r hg hL hl X hf Hr => ?_)
  subst hg
  have Hr2 : RTJ x cX2_digestOn (Sum.elim (pX2_digestOn x) (fun q => q = r)) Sum.inr := fun v M h => Hr v M h
  have HP : ∀ q, fnl gX2_digestOn q = some r → pX2_digestOn x q := by
    intro q hq
    refine fnl_ind (pX2_digestOn x) (fun q hq => ?_) hq
    obtain ⟨n, l0, l3, l5, M⟩ := q
    match n, hq with
    | 1, hq => exact fun h_l0 ls H locs hl hP hS => sX2_digestOn_15 X hL Hr2 (fun _ h => h) h_l0 hq ls H locs hl hP hS
    | 0, hq => exact trivial
    | n + 2, hq => exact trivial
  exact fun _ ls H locs hl hP hS => sX2_digestOn_0 X hL Hr2 (fun _ h => h) h_l0 (fen_w hf HP) ls H locs hl hP hS
/-! CrumbWood$Wood.factOf(II)I -/
set_option maxRecDepth 100000 in
noncomputable def fX4_factOf (l0 : Nat) (l1 : Int32) (l2 : Int32) (M : Mm) : Option (Int32 × Mm) := if l2 = 0 then gfR M 0 l0 3 fun v1 => ldI M v1 l1 fun v2 => some ((v2, M)) else if l2 = 1 then gfR M 0 l0 5 fun v3 => ldI M v3 l1 fun v4 => some ((v4, M)) else if l2 = 2 then gfR M 5 l0 6 fun v5 => ldR M 0 v5 (l2 - 2) fun v6 => ldI M v6 l1 fun v7 => some ((v7, M)) else if l2 = 3 then gfR M 5 l0 6 fun v8 => ldR M 0 v8 (l2 - 2) fun v9 => ldI M v9 l1 fun v10 => some ((v10, M)) else if l2 = 4 then gfR M 5 l0 6 fun v11 => ldR M 0 v11 (l2 - 2) fun v12 => ldI M v12 l1 fun v13 => some ((v13, M)) else cal (fX4_seenAt l0 l1 M) fun v15 M14 => some ((v15, M14))
set_option maxRecDepth 100000 in
set_option maxHeartbeats 4000000 in
theorem sX4_factOf_0 {x : SB} {F : (Int32 × Mm) → Prop} (X : CX x cX4_factOf RX4 2) (hL : x.2.2.2.1 = 3) (Hr : RTI x cX4_factOf .int F (fun q => q)) {l0 : Nat} {l1 : Int32} {l2 : Int32} {M : Mm} (h_l0 : sh l0 = 14) : SIM x F (fX4_factOf l0 l1 l2 M) 0 [(0, rf x.2.1 l0), (1, .int l1), (2, .int l2)] [] M := by
  unfold fX4_factOf
  refine r_iload_n X dX4_factOf_0 rfl 2 rfl ?_
  refine r_tsw 0 36 X dX4_factOf_1 (by decide) (by decide) rfl (by decide) ?_ (fun q0 => ?_)
  · refine r_aload_n X dX4_factOf_36 rfl 0 rfl ?_
    refine r_getR X fl_X4_21 (by decide) h_l0 dX4_factOf_37 (fun v1 h_v1 => ?_)
    refine r_iload_n X dX4_factOf_40 rfl 1 rfl ?_
    refine r_iald X h_v1 dX4_factOf_41 (fun v2 => ?_)
    exact r_iret Hr rfl dX4_factOf_42
  refine r_tsw 1 43 X dX4_factOf_1 (by decide) (by decide) rfl (by decide) ?_ (fun q1 => ?_)
  · refine r_aload_n X dX4_factOf_43 rfl 0 rfl ?_
    refine r_getR X fl_X4_28 (by decide) h_l0 dX4_factOf_44 (fun v3 h_v3 => ?_)
    refine r_iload_n X dX4_factOf_47 rfl 1 rfl ?_
    refine r_iald X h_v3 dX4_factOf_48 (fun v4 => ?_)
    exact r_iret Hr rfl dX4_factOf_49
  refine r_tsw 2 50 X dX4_factOf_1 (by decide) (by decide) rfl (by decide) ?_ (fun q2 => ?_)
  · refine r_aload_n X dX4_factOf_50 rfl 0 rfl ?_
    refine r_getR X fl_X4_33 (by decide) h_l0 dX4_factOf_51 (fun v5 h_v5 => ?_)
    refine r_iload_n X dX4_factOf_54 rfl 2 rfl ?_
    refine r_iconst (v := 2) X dX4_factOf_55 (by decide) ?_
    refine r_isub X dX4_factOf_56 ?_
    refine r_aldA X h_v5 dX4_factOf_57 (fun v6 h_v6 => ?_)
    refine r_iload_n X dX4_factOf_58 rfl 1 rfl ?_
    refine r_iald X h_v6 dX4_factOf_59 (fun v7 => ?_)
    exact r_iret Hr rfl dX4_factOf_60
  refine r_tsw 3 50 X dX4_factOf_1 (by decide) (by decide) rfl (by decide) ?_ (fun q3 => ?_)
  · refine r_aload_n X dX4_factOf_50 rfl 0 rfl ?_
    refine r_getR X fl_X4_33 (by decide) h_l0 dX4_factOf_51 (fun v8 h_v8 => ?_)
    refine r_iload_n X dX4_factOf_54 rfl 2 rfl ?_
    refine r_iconst (v := 2) X dX4_factOf_55 (by decide) ?_
    refine r_isub X dX4_factOf_56 ?_
    refine r_aldA X h_v8 dX4_factOf_57 (fun v9 h_v9 => ?_)
    refine r_iload_n X dX4_factOf_58 rfl 1 rfl ?_
    refine r_iald X h_v9 dX4_factOf_59 (fun v10 => ?_)
    exact r_iret Hr rfl dX4_factOf_60
  refine r_tsw 4 50 X dX4_factOf_1 (by decide) (by decide) rfl (by decide) ?_ (fun q4 => ?_)
  · refine r_aload_n X dX4_factOf_50 rfl 0 rfl ?_
    refine r_getR X fl_X4_33 (by decide) h_l0 dX4_factOf_51 (fun v11 h_v11 => ?_)
    refine r_iload_n X dX4_factOf_54 rfl 2 rfl ?_
    refine r_iconst (v := 2) X dX4_factOf_55 (by decide) ?_
    refine r_isub X dX4_factOf_56 ?_
    refine r_aldA X h_v11 dX4_factOf_57 (fun v12 h_v12 => ?_)
    refine r_iload_n X dX4_factOf_58 rfl 1 rfl ?_
    refine r_iald X h_v12 dX4_factOf_59 (fun v13 => ?_)
    exact r_iret Hr rfl dX4_factOf_60
  refine r_tswd 61 X dX4_factOf_1 (by have := i32_ne q0 (n := 0) (by decide); have := i32_ne q1 (n := 1) (by decide); have := i32_ne q2 (n := 2) (by decide); have := i32_ne q3 (n := 3) (by decide); have := i32_ne q4 (n := 4) (by decide); omega) (by decide) ?_
  refine r_aload_n X dX4_factOf_61 rfl 0 rfl ?_
  refine r_iload_n X dX4_factOf_62 rfl 1 rfl ?_
  refine r_callVI [.int l1] X mt_X4_72 (by decide) h_l0 (by decide) (okX4_seenAt _ _ X.J h_l0) rfl (Nat.le_of_ble_eq_true rfl) dX4_factOf_63 rfl (fun v15 M14 => ?_)
  exact r_iret Hr rfl dX4_factOf_66
set_option maxRecDepth 100000 in
set_option maxHeartbeats 4000000 in
theorem okX4_factOf (l : Launch) (g : GX) (hJ : IJ g) {l0 : Nat} {l1 : Int32} {l2 : Int32} {M : Mm} (h_l0 : sh l0 = 14) : CT l g yX4_factOf cX4_factOf 3 (some .int) 2 [rf g l0, .int l1, .int l2] M (fX4_factOf l0 l1 l2 M) (fun r => some (.int r)) := by
  refine ct_I rfl hJ (Nat.le_of_ble_eq_true rfl) (fun x r hg hL hl X hf Hr => ?_)
  subst hg
  exact fun _ ls H locs hl hP hS => sX4_factOf_0 X hL Hr h_l0 ⟨_, hf, rfl⟩ ls H locs hl hP hS
/-! CrumbWood$Wood.digestOn(J)J -/
set_option maxRecDepth 100000 in
def pX4_digestOn (x : SB) (q : Nat × Nat × Int64 × Int32 × Int32 × Mm) : Prop := match q.1 with
  | 1 => sh q.2.1 = 14 → ∀ (ls : Array Slot) (H : Heap) (locs : List Loc), lv_has ls x.2.2.2.1 [(0, rf x.2.1 q.2.1), (3, .long q.2.2.1), (5, .int q.2.2.2.1)] → PW x.2.1 (q.2.2.2.2.2) H → SH x H locs → SW x H locs 5 ls []
  | 2 => sh q.2.1 = 14 → ∀ (ls : Array Slot) (H : Heap) (locs : List Loc), lv_has ls x.2.2.2.1 [(0, rf x.2.1 q.2.1), (3, .long q.2.2.1), (5, .int q.2.2.2.1)] → PW x.2.1 (q.2.2.2.2.2) H → SH x H locs → SW x H locs 35 ls []
  | 3 => sh q.2.1 = 14 → ∀ (ls : Array Slot) (H : Heap) (locs : List Loc), lv_has ls x.2.2.2.1 [(0, rf x.2.1 q.2.1), (3, .long q.2.2.1), (5, .int q.2.2.2.1), (6, .int q.2.2.2.2.1)] → PW x.2.1 (q.2.2.2.2.2) H → SH x H locs → SW x H locs 47 ls []
  | 4 => sh q.2.1 = 14 → ∀ (ls : Array Slot) (H : Heap) (locs : List Loc), lv_has ls x.2.2.2.1 [(0, rf x.2.1 q.2.1), (3, .long q.2.2.1), (5, .int q.2.2.2.1)] → PW x.2.1 (q.2.2.2.2.2) H → SH x H locs → SW x H locs 85 ls []
  | 5 => sh q.2.1 = 14 → ∀ (ls : Array Slot) (H : Heap) (locs : List Loc), lv_has ls x.2.2.2.1 [(0, rf x.2.1 q.2.1), (3, .long q.2.2.1), (5, .int q.2.2.2.1)] → PW x.2.1 (q.2.2.2.2.2) H → SH x H locs → SW x H locs 118 ls []
  | _ => True
set_option maxRecDepth 100000 in
noncomputable def bX4_digestOn_155 (l3 : Int64) (M : Mm) : Option ((Nat × Nat × Int64 × Int32 × Int32 × Mm) ⊕ Int64 × Mm) := some (.inr (l3, M))
set_option maxRecDepth 100000 in
set_option maxHeartbeats 4000000 in
theorem sX4_digestOn_155 {x : SB} {F : ((Nat × Nat × Int64 × Int32 × Int32 × Mm) ⊕ Int64 × Mm) → Prop} (X : CX x cX4_digestOn RX4 3) (hL : x.2.2.2.1 = 7) (Hr : RTJ x cX4_digestOn F Sum.inr) (HH : ∀ q, F (.inl q) → pX4_digestOn x q) {l3 : Int64} {M : Mm}  : SIM x F (bX4_digestOn_155 l3 M) 155 [(3, .long l3)] [] M := by
  unfold bX4_digestOn_155
  refine r_lload_n X dX4_digestOn_155 rfl 0 rfl ?_
  exact r_lret Hr dX4_digestOn_156
set_option maxRecDepth 100000 in
noncomputable def bX4_digestOn_118 (l0 : Nat) (l3 : Int64) (l5 : Int32) (M : Mm) : Option ((Nat × Nat × Int64 × Int32 × Int32 × Mm) ⊕ Int64 × Mm) := gfI M l0 2 fun v1 => if v1 < l5 then bX4_digestOn_155 l3 M else cal (fX4_isEmpty l0 M) fun v3 M2 => if v3 = 0 then gfR M2 0 l0 10 fun v4 => ldI M2 v4 l5 fun v5 => ltJ (((31 : Int64) * l3) + ((v5 : Int32).toInt64)) fun v6 => some (.inl (5, l0, v6, (l5 + 1), 0, M2)) else bX4_digestOn_155 l3 M2
set_option maxRecDepth 100000 in
set_option maxHeartbeats 4000000 in
theorem sX4_digestOn_118 {x : SB} {F : ((Nat × Nat × Int64 × Int32 × Int32 × Mm) ⊕ Int64 × Mm) → Prop} (X : CX x cX4_digestOn RX4 3) (hL : x.2.2.2.1 = 7) (Hr : RTJ x cX4_digestOn F Sum.inr) (HH : ∀ q, F (.inl q) → pX4_digestOn x q) {l0 : Nat} {l3 : Int64} {l5 : Int32} {M : Mm} (h_l0 : sh l0 = 14) : SIM x F (bX4_digestOn_118 l0 l3 l5 M) 118 [(0, rf x.2.1 l0), (3, .long l3), (5, .int l5)] [] M := by
  unfold bX4_digestOn_118
  refine r_iload X dX4_digestOn_118 2 rfl ?_
  refine r_aload_n X dX4_digestOn_120 rfl 0 rfl ?_
  refine r_getI X fl_X4_18 (by decide) h_l0 dX4_digestOn_121 (fun v1 => ?_)
  refine r_icmp_gt 155 X dX4_digestOn_124 (by decide) ?_ ?_
  · exact r_to [(3, .long l3)] [1] rfl (sX4_digestOn_155 X hL Hr HH)
  · refine r_aload_n X dX4_digestOn_127 rfl 0 rfl ?_
    refine r_callVI [] X mt_X4_103 (by decide) h_l0 (by decide) (okX4_isEmpty _ _ X.J h_l0) rfl (Nat.le_of_ble_eq_true rfl) dX4_digestOn_128 rfl (fun v3 M2 => ?_)
    refine r_if_ne 155 X dX4_digestOn_131 (by decide) ?_ ?_
    · refine r_ldc2 X dX4_digestOn_134 k_764 ?_
      refine r_lload_n X dX4_digestOn_137 rfl 1 rfl ?_
      refine r_lmul X dX4_digestOn_138 ?_
      refine r_aload_n X dX4_digestOn_139 rfl 0 rfl ?_
      refine r_getR X fl_X4_45 (by decide) h_l0 dX4_digestOn_140 (fun v4 h_v4 => ?_)
      refine r_iload X dX4_digestOn_143 2 rfl ?_
      refine r_iald X h_v4 dX4_digestOn_145 (fun v5 => ?_)
      refine r_i2l X dX4_digestOn_146 ?_
      refine r_ladd X dX4_digestOn_147 ?_
      refine r_letJ (fun v6 => ?_)
      refine r_lstore_n [(3, .long v6), (0, rf x.2.1 l0), (5, .int l5)] X dX4_digestOn_148 rfl (nlt hL (by decide)) rfl ?_
      refine r_iinc [(5, .int (l5 + 1)), (3, .long v6), (0, rf x.2.1 l0)] X dX4_digestOn_149 2 rfl rfl (nlt hL (by decide)) rfl ?_
      refine r_goto 118 X dX4_digestOn_152 (by decide) ?_
      exact r_hdr [(0, rf x.2.1 l0), (3, .long v6), (5, .int (l5 + 1))] [2, 1, 0] rfl (fun h => HH _ h h_l0)
    · exact r_to [(3, .long l3)] [1] rfl (sX4_digestOn_155 X hL Hr HH)
set_option maxRecDepth 100000 in
noncomputable def bX4_digestOn_85 (l0 : Nat) (l3 : Int64) (l5 : Int32) (M : Mm) : Option ((Nat × Nat × Int64 × Int32 × Int32 × Mm) ⊕ Int64 × Mm) := gfI M l0 1 fun v7 => if v7 ≤ l5 then some (.inl (5, l0, l3, 0, 0, M)) else gfR M 0 l0 8 fun v8 => ldI M v8 l5 fun v9 => ltJ (((31 : Int64) * l3) + ((v9 : Int32).toInt64)) fun v10 => some (.inl (4, l0, v10, (l5 + 1), 0, M))
set_option maxRecDepth 100000 in
set_option maxHeartbeats 4000000 in
theorem sX4_digestOn_85 {x : SB} {F : ((Nat × Nat × Int64 × Int32 × Int32 × Mm) ⊕ Int64 × Mm) → Prop} (X : CX x cX4_digestOn RX4 3) (hL : x.2.2.2.1 = 7) (Hr : RTJ x cX4_digestOn F Sum.inr) (HH : ∀ q, F (.inl q) → pX4_digestOn x q) {l0 : Nat} {l3 : Int64} {l5 : Int32} {M : Mm} (h_l0 : sh l0 = 14) : SIM x F (bX4_digestOn_85 l0 l3 l5 M) 85 [(0, rf x.2.1 l0), (3, .long l3), (5, .int l5)] [] M := by
  unfold bX4_digestOn_85
  refine r_iload X dX4_digestOn_85 2 rfl ?_
  refine r_aload_n X dX4_digestOn_87 rfl 0 rfl ?_
  refine r_getI X fl_X4_15 (by decide) h_l0 dX4_digestOn_88 (fun v7 => ?_)
  refine r_icmp_ge 115 X dX4_digestOn_91 (by decide) ?_ ?_
  · refine r_iconst (v := 0) X dX4_digestOn_115 (by decide) ?_
    refine r_istore [(5, .int 0), (0, rf x.2.1 l0), (3, .long l3)] X dX4_digestOn_116 (nlt hL (by decide)) rfl ?_
    exact r_hdr [(0, rf x.2.1 l0), (3, .long l3), (5, .int 0)] [1, 2, 0] rfl (fun h => HH _ h h_l0)
  · refine r_ldc2 X dX4_digestOn_94 k_764 ?_
    refine r_lload_n X dX4_digestOn_97 rfl 1 rfl ?_
    refine r_lmul X dX4_digestOn_98 ?_
    refine r_aload_n X dX4_digestOn_99 rfl 0 rfl ?_
    refine r_getR X fl_X4_39 (by decide) h_l0 dX4_digestOn_100 (fun v8 h_v8 => ?_)
    refine r_iload X dX4_digestOn_103 2 rfl ?_
    refine r_iald X h_v8 dX4_digestOn_105 (fun v9 => ?_)
    refine r_i2l X dX4_digestOn_106 ?_
    refine r_ladd X dX4_digestOn_107 ?_
    refine r_letJ (fun v10 => ?_)
    refine r_lstore_n [(3, .long v10), (0, rf x.2.1 l0), (5, .int l5)] X dX4_digestOn_108 rfl (nlt hL (by decide)) rfl ?_
    refine r_iinc [(5, .int (l5 + 1)), (3, .long v10), (0, rf x.2.1 l0)] X dX4_digestOn_109 2 rfl rfl (nlt hL (by decide)) rfl ?_
    refine r_goto 85 X dX4_digestOn_112 (by decide) ?_
    exact r_hdr [(0, rf x.2.1 l0), (3, .long v10), (5, .int (l5 + 1))] [2, 1, 0] rfl (fun h => HH _ h h_l0)
set_option maxRecDepth 100000 in
noncomputable def bX4_digestOn_47 (l0 : Nat) (l3 : Int64) (l5 : Int32) (l6 : Int32) (M : Mm) : Option ((Nat × Nat × Int64 × Int32 × Int32 × Mm) ⊕ Int64 × Mm) := if 6 ≤ l6 then some (.inl (2, l0, l3, (l5 + 1), 0, M)) else cal (fX4_factOf l0 l5 l6 M) fun v12 M11 => ltJ (((31 : Int64) * l3) + ((v12 : Int32).toInt64)) fun v13 => some (.inl (3, l0, v13, l5, (l6 + 1), M11))
set_option maxRecDepth 100000 in
set_option maxHeartbeats 4000000 in
theorem sX4_digestOn_47 {x : SB} {F : ((Nat × Nat × Int64 × Int32 × Int32 × Mm) ⊕ Int64 × Mm) → Prop} (X : CX x cX4_digestOn RX4 3) (hL : x.2.2.2.1 = 7) (Hr : RTJ x cX4_digestOn F Sum.inr) (HH : ∀ q, F (.inl q) → pX4_digestOn x q) {l0 : Nat} {l3 : Int64} {l5 : Int32} {l6 : Int32} {M : Mm} (h_l0 : sh l0 = 14) : SIM x F (bX4_digestOn_47 l0 l3 l5 l6 M) 47 [(0, rf x.2.1 l0), (3, .long l3), (5, .int l5), (6, .int l6)] [] M := by
  unfold bX4_digestOn_47
  refine r_iload X dX4_digestOn_47 3 rfl ?_
  refine r_bipush (v := 6) X dX4_digestOn_49 (by decide) ?_
  refine r_icmp_ge 76 X dX4_digestOn_51 (by decide) ?_ ?_
  · refine r_iinc [(5, .int (l5 + 1)), (0, rf x.2.1 l0), (3, .long l3), (6, .int l6)] X dX4_digestOn_76 2 rfl rfl (nlt hL (by decide)) rfl ?_
    refine r_goto 35 X dX4_digestOn_79 (by decide) ?_
    exact r_hdr [(0, rf x.2.1 l0), (3, .long l3), (5, .int (l5 + 1))] [1, 2, 0] rfl (fun h => HH _ h h_l0)
  · refine r_ldc2 X dX4_digestOn_54 k_764 ?_
    refine r_lload_n X dX4_digestOn_57 rfl 1 rfl ?_
    refine r_lmul X dX4_digestOn_58 ?_
    refine r_aload_n X dX4_digestOn_59 rfl 0 rfl ?_
    refine r_iload X dX4_digestOn_60 2 rfl ?_
    refine r_iload X dX4_digestOn_62 3 rfl ?_
    refine r_callVI [.int l5, .int l6] X mt_X4_99 (by decide) h_l0 (by decide) (okX4_factOf _ _ X.J h_l0) rfl (Nat.le_of_ble_eq_true rfl) dX4_digestOn_64 rfl (fun v12 M11 => ?_)
    refine r_i2l X dX4_digestOn_67 ?_
    refine r_ladd X dX4_digestOn_68 ?_
    refine r_letJ (fun v13 => ?_)
    refine r_lstore_n [(3, .long v13), (0, rf x.2.1 l0), (5, .int l5), (6, .int l6)] X dX4_digestOn_69 rfl (nlt hL (by decide)) rfl ?_
    refine r_iinc [(6, .int (l6 + 1)), (3, .long v13), (0, rf x.2.1 l0), (5, .int l5)] X dX4_digestOn_70 3 rfl rfl (nlt hL (by decide)) rfl ?_
    refine r_goto 47 X dX4_digestOn_73 (by decide) ?_
    exact r_hdr [(0, rf x.2.1 l0), (3, .long v13), (5, .int l5), (6, .int (l6 + 1))] [2, 1, 3, 0] rfl (fun h => HH _ h h_l0)
set_option maxRecDepth 100000 in
noncomputable def bX4_digestOn_35 (l0 : Nat) (l3 : Int64) (l5 : Int32) (M : Mm) : Option ((Nat × Nat × Int64 × Int32 × Int32 × Mm) ⊕ Int64 × Mm) := gfI M l0 0 fun v14 => if v14 ≤ l5 then some (.inl (4, l0, l3, 0, 0, M)) else some (.inl (3, l0, l3, l5, 0, M))
set_option maxRecDepth 100000 in
set_option maxHeartbeats 4000000 in
theorem sX4_digestOn_35 {x : SB} {F : ((Nat × Nat × Int64 × Int32 × Int32 × Mm) ⊕ Int64 × Mm) → Prop} (X : CX x cX4_digestOn RX4 3) (hL : x.2.2.2.1 = 7) (Hr : RTJ x cX4_digestOn F Sum.inr) (HH : ∀ q, F (.inl q) → pX4_digestOn x q) {l0 : Nat} {l3 : Int64} {l5 : Int32} {M : Mm} (h_l0 : sh l0 = 14) : SIM x F (bX4_digestOn_35 l0 l3 l5 M) 35 [(0, rf x.2.1 l0), (3, .long l3), (5, .int l5)] [] M := by
  unfold bX4_digestOn_35
  refine r_iload X dX4_digestOn_35 2 rfl ?_
  refine r_aload_n X dX4_digestOn_37 rfl 0 rfl ?_
  refine r_getI X fl_X4_9 (by decide) h_l0 dX4_digestOn_38 (fun v14 => ?_)
  refine r_icmp_ge 82 X dX4_digestOn_41 (by decide) ?_ ?_
  · refine r_iconst (v := 0) X dX4_digestOn_82 (by decide) ?_
    refine r_istore [(5, .int 0), (0, rf x.2.1 l0), (3, .long l3)] X dX4_digestOn_83 (nlt hL (by decide)) rfl ?_
    exact r_hdr [(0, rf x.2.1 l0), (3, .long l3), (5, .int 0)] [1, 2, 0] rfl (fun h => HH _ h h_l0)
  · refine r_iconst (v := 0) X dX4_digestOn_44 (by decide) ?_
    refine r_istore [(6, .int 0), (0, rf x.2.1 l0), (3, .long l3), (5, .int l5)] X dX4_digestOn_45 (nlt hL (by decide)) rfl ?_
    exact r_hdr [(0, rf x.2.1 l0), (3, .long l3), (5, .int l5), (6, .int 0)] [1, 2, 3, 0] rfl (fun h => HH _ h h_l0)
set_option maxRecDepth 100000 in
noncomputable def bX4_digestOn_5 (l0 : Nat) (l3 : Int64) (l5 : Int32) (M : Mm) : Option ((Nat × Nat × Int64 × Int32 × Int32 × Mm) ⊕ Int64 × Mm) := if 3 ≤ l5 then some (.inl (2, l0, l3, 0, 0, M)) else gfR M 0 l0 9 fun v15 => ldI M v15 l5 fun v16 => ltJ (((31 : Int64) * l3) + ((v16 : Int32).toInt64)) fun v17 => some (.inl (1, l0, v17, (l5 + 1), 0, M))
set_option maxRecDepth 100000 in
set_option maxHeartbeats 4000000 in
theorem sX4_digestOn_5 {x : SB} {F : ((Nat × Nat × Int64 × Int32 × Int32 × Mm) ⊕ Int64 × Mm) → Prop} (X : CX x cX4_digestOn RX4 3) (hL : x.2.2.2.1 = 7) (Hr : RTJ x cX4_digestOn F Sum.inr) (HH : ∀ q, F (.inl q) → pX4_digestOn x q) {l0 : Nat} {l3 : Int64} {l5 : Int32} {M : Mm} (h_l0 : sh l0 = 14) : SIM x F (bX4_digestOn_5 l0 l3 l5 M) 5 [(0, rf x.2.1 l0), (3, .long l3), (5, .int l5)] [] M := by
  unfold bX4_digestOn_5
  refine r_iload X dX4_digestOn_5 2 rfl ?_
  refine r_iconst (v := 3) X dX4_digestOn_7 (by decide) ?_
  refine r_icmp_ge 32 X dX4_digestOn_8 (by decide) ?_ ?_
  · refine r_iconst (v := 0) X dX4_digestOn_32 (by decide) ?_
    refine r_istore [(5, .int 0), (0, rf x.2.1 l0), (3, .long l3)] X dX4_digestOn_33 (nlt hL (by decide)) rfl ?_
    exact r_hdr [(0, rf x.2.1 l0), (3, .long l3), (5, .int 0)] [1, 2, 0] rfl (fun h => HH _ h h_l0)
  · refine r_ldc2 X dX4_digestOn_11 k_764 ?_
    refine r_lload_n X dX4_digestOn_14 rfl 1 rfl ?_
    refine r_lmul X dX4_digestOn_15 ?_
    refine r_aload_n X dX4_digestOn_16 rfl 0 rfl ?_
    refine r_getR X fl_X4_42 (by decide) h_l0 dX4_digestOn_17 (fun v15 h_v15 => ?_)
    refine r_iload X dX4_digestOn_20 2 rfl ?_
    refine r_iald X h_v15 dX4_digestOn_22 (fun v16 => ?_)
    refine r_i2l X dX4_digestOn_23 ?_
    refine r_ladd X dX4_digestOn_24 ?_
    refine r_letJ (fun v17 => ?_)
    refine r_lstore_n [(3, .long v17), (0, rf x.2.1 l0), (5, .int l5)] X dX4_digestOn_25 rfl (nlt hL (by decide)) rfl ?_
    refine r_iinc [(5, .int (l5 + 1)), (3, .long v17), (0, rf x.2.1 l0)] X dX4_digestOn_26 2 rfl rfl (nlt hL (by decide)) rfl ?_
    refine r_goto 5 X dX4_digestOn_29 (by decide) ?_
    exact r_hdr [(0, rf x.2.1 l0), (3, .long v17), (5, .int (l5 + 1))] [2, 1, 0] rfl (fun h => HH _ h h_l0)
set_option maxRecDepth 100000 in
noncomputable def bX4_digestOn_0 (l0 : Nat) (l1 : Int64) (M : Mm) : Option ((Nat × Nat × Int64 × Int32 × Int32 × Mm) ⊕ Int64 × Mm) := some (.inl (1, l0, l1, 0, 0, M))
set_option maxRecDepth 100000 in
set_option maxHeartbeats 4000000 in
theorem sX4_digestOn_0 {x : SB} {F : ((Nat × Nat × Int64 × Int32 × Int32 × Mm) ⊕ Int64 × Mm) → Prop} (X : CX x cX4_digestOn RX4 3) (hL : x.2.2.2.1 = 7) (Hr : RTJ x cX4_digestOn F Sum.inr) (HH : ∀ q, F (.inl q) → pX4_digestOn x q) {l0 : Nat} {l1 : Int64} {M : Mm} (h_l0 : sh l0 = 14) : SIM x F (bX4_digestOn_0 l0 l1 M) 0 [(0, rf x.2.1 l0), (1, .long l1)] [] M := by
  unfold bX4_digestOn_0
  refine r_lload_n X dX4_digestOn_0 rfl 1 rfl ?_
  refine r_lstore_n [(3, .long l1), (0, rf x.2.1 l0), (1, .long l1)] X dX4_digestOn_1 rfl (nlt hL (by decide)) rfl ?_
  refine r_iconst (v := 0) X dX4_digestOn_2 (by decide) ?_
  refine r_istore [(5, .int 0), (3, .long l1), (0, rf x.2.1 l0), (1, .long l1)] X dX4_digestOn_3 (nlt hL (by decide)) rfl ?_
  exact r_hdr [(0, rf x.2.1 l0), (3, .long l1), (5, .int 0)] [2, 1, 0] rfl (fun h => HH _ h h_l0)
set_option maxRecDepth 100000 in
noncomputable def gX4_digestOn (q : Nat × Nat × Int64 × Int32 × Int32 × Mm) : Option ((Nat × Nat × Int64 × Int32 × Int32 × Mm) ⊕ Int64 × Mm) := match q.1 with
  | 1 => bX4_digestOn_5 (q.2.1) (q.2.2.1) (q.2.2.2.1) (q.2.2.2.2.2)
  | 2 => bX4_digestOn_35 (q.2.1) (q.2.2.1) (q.2.2.2.1) (q.2.2.2.2.2)
  | 3 => bX4_digestOn_47 (q.2.1) (q.2.2.1) (q.2.2.2.1) (q.2.2.2.2.1) (q.2.2.2.2.2)
  | 4 => bX4_digestOn_85 (q.2.1) (q.2.2.1) (q.2.2.2.1) (q.2.2.2.2.2)
  | 5 => bX4_digestOn_118 (q.2.1) (q.2.2.1) (q.2.2.2.1) (q.2.2.2.2.2)
  | _ => none
set_option maxRecDepth 100000 in
noncomputable def fX4_digestOn (l0 : Nat) (l1 : Int64) (M : Mm) : Option (Int64 × Mm) := fen gX4_digestOn (bX4_digestOn_0 l0 l1 M)
set_option maxRecDepth 100000 in
set_option maxHeartbeats 4000000 in
theorem okX4_digestOn (l : Launch) (g : GX) (hJ : IJ g) {l0 : Nat} {l1 : Int64} {M : Mm} (h_l0 : sh l0 = 14) : CT l g yX4_digestOn cX4_digestOn 7 (some .long) 3 [rf g l0, .long l1] M (fX4_digestOn l0 l1 M) (fun r => some (.long r)) := by
  refine ct_J rfl hJ (Nat.le_of_ble_eq_true rfl) (fun x r hg hL hl X hf Hr => ?_)
  subst hg
  have Hr2 : RTJ x cX4_digestOn (Sum.elim (pX4_digestOn x) (fun q => q = r)) Sum.inr := fun v M h => Hr v M h
  have HP : ∀ q, fnl gX4_digestOn q = some r → pX4_digestOn x q := by
    intro q hq
    refine fnl_ind (pX4_digestOn x) (fun q hq => ?_) hq
    obtain ⟨n, l0, l3, l5, l6, M⟩ := q
    match n, hq with
    | 1, hq => exact fun h_l0 ls H locs hl hP hS => sX4_digestOn_5 X hL Hr2 (fun _ h => h) h_l0 hq ls H locs hl hP hS
    | 2, hq => exact fun h_l0 ls H locs hl hP hS => sX4_digestOn_35 X hL Hr2 (fun _ h => h) h_l0 hq ls H locs hl hP hS
    | 3, hq => exact fun h_l0 ls H locs hl hP hS => sX4_digestOn_47 X hL Hr2 (fun _ h => h) h_l0 hq ls H locs hl hP hS
    | 4, hq => exact fun h_l0 ls H locs hl hP hS => sX4_digestOn_85 X hL Hr2 (fun _ h => h) h_l0 hq ls H locs hl hP hS
    | 5, hq => exact fun h_l0 ls H locs hl hP hS => sX4_digestOn_118 X hL Hr2 (fun _ h => h) h_l0 hq ls H locs hl hP hS
    | 0, hq => exact trivial
    | n + 6, hq => exact trivial
  exact fun _ ls H locs hl hP hS => sX4_digestOn_0 X hL Hr2 (fun _ h => h) h_l0 (fen_w hf HP) ls H locs hl hP hS
/-! CrumbWood.digest()J -/
set_option maxRecDepth 100000 in
def pX5_digest (x : SB) (q : Nat × Nat × Int64 × Int32 × Mm) : Prop := match q.1 with
  | 1 => sh q.2.1 = 15 → ∀ (ls : Array Slot) (H : Heap) (locs : List Loc), lv_has ls x.2.2.2.1 [(0, rf x.2.1 q.2.1), (1, .long q.2.2.1), (3, .int q.2.2.2.1)] → PW x.2.1 (q.2.2.2.2) H → SH x H locs → SW x H locs 6 ls []
  | 2 => sh q.2.1 = 15 → ∀ (ls : Array Slot) (H : Heap) (locs : List Loc), lv_has ls x.2.2.2.1 [(0, rf x.2.1 q.2.1), (1, .long q.2.2.1), (3, .int q.2.2.2.1)] → PW x.2.1 (q.2.2.2.2) H → SH x H locs → SW x H locs 42 ls []
  | 3 => sh q.2.1 = 15 → ∀ (ls : Array Slot) (H : Heap) (locs : List Loc), lv_has ls x.2.2.2.1 [(0, rf x.2.1 q.2.1), (1, .long q.2.2.1), (3, .int q.2.2.2.1)] → PW x.2.1 (q.2.2.2.2) H → SH x H locs → SW x H locs 88 ls []
  | 4 => sh q.2.1 = 15 → ∀ (ls : Array Slot) (H : Heap) (locs : List Loc), lv_has ls x.2.2.2.1 [(0, rf x.2.1 q.2.1), (1, .long q.2.2.1), (3, .int q.2.2.2.1)] → PW x.2.1 (q.2.2.2.2) H → SH x H locs → SW x H locs 113 ls []
  | _ => True
set_option maxRecDepth 100000 in
noncomputable def bX5_digest_113 (l0 : Nat) (l1 : Int64) (l3 : Int32) (M : Mm) : Option ((Nat × Nat × Int64 × Int32 × Mm) ⊕ Int64 × Mm) := if 4 ≤ l3 then some (.inr (l1, M)) else gfR M 3 l0 1 fun v1 => ldR M 12 v1 l3 fun v2 => cal (fX2_digestOn v2 l1 M) fun v4 M3 => some (.inl (4, l0, v4, (l3 + 1), M3))
set_option maxRecDepth 100000 in
set_option maxHeartbeats 4000000 in
theorem sX5_digest_113 {x : SB} {F : ((Nat × Nat × Int64 × Int32 × Mm) ⊕ Int64 × Mm) → Prop} (X : CX x cX5_digest RX5 4) (hL : x.2.2.2.1 = 4) (Hr : RTJ x cX5_digest F Sum.inr) (HH : ∀ q, F (.inl q) → pX5_digest x q) {l0 : Nat} {l1 : Int64} {l3 : Int32} {M : Mm} (h_l0 : sh l0 = 15) : SIM x F (bX5_digest_113 l0 l1 l3 M) 113 [(0, rf x.2.1 l0), (1, .long l1), (3, .int l3)] [] M := by
  unfold bX5_digest_113
  refine r_iload_n X dX5_digest_113 rfl 2 rfl ?_
  refine r_iconst (v := 4) X dX5_digest_114 (by decide) ?_
  refine r_icmp_ge 135 X dX5_digest_115 (by decide) ?_ ?_
  · refine r_lload_n X dX5_digest_135 rfl 1 rfl ?_
    exact r_lret Hr dX5_digest_136
  · refine r_aload_n X dX5_digest_118 rfl 0 rfl ?_
    refine r_getR X fl_X5_15 (by decide) h_l0 dX5_digest_119 (fun v1 h_v1 => ?_)
    refine r_iload_n X dX5_digest_122 rfl 2 rfl ?_
    refine r_aldS X h_v1 dX5_digest_123 (fun v2 h_v2 => ?_)
    refine r_lload_n X dX5_digest_124 rfl 1 rfl ?_
    refine r_callVJ [.long l1] X mt_X5_300 (by decide) h_v2 (by decide) (okX2_digestOn _ _ X.J h_v2) rfl (Nat.le_of_ble_eq_true rfl) dX5_digest_125 rfl (fun v4 M3 => ?_)
    refine r_lstore_n [(1, .long v4), (0, rf x.2.1 l0), (3, .int l3)] X dX5_digest_128 rfl (nlt hL (by decide)) rfl ?_
    refine r_iinc [(3, .int (l3 + 1)), (1, .long v4), (0, rf x.2.1 l0)] X dX5_digest_129 2 rfl rfl (nlt hL (by decide)) rfl ?_
    refine r_goto 113 X dX5_digest_132 (by decide) ?_
    exact r_hdr [(0, rf x.2.1 l0), (1, .long v4), (3, .int (l3 + 1))] [2, 1, 0] rfl (fun h => HH _ h h_l0)
set_option maxRecDepth 100000 in
noncomputable def bX5_digest_88 (l0 : Nat) (l1 : Int64) (l3 : Int32) (M : Mm) : Option ((Nat × Nat × Int64 × Int32 × Mm) ⊕ Int64 × Mm) := if 6 ≤ l3 then some (.inl (4, l0, l1, 0, M)) else gfR M 3 l0 0 fun v5 => ldR M 12 v5 l3 fun v6 => cal (fX2_digestOn v6 l1 M) fun v8 M7 => some (.inl (3, l0, v8, (l3 + 1), M7))
set_option maxRecDepth 100000 in
set_option maxHeartbeats 4000000 in
theorem sX5_digest_88 {x : SB} {F : ((Nat × Nat × Int64 × Int32 × Mm) ⊕ Int64 × Mm) → Prop} (X : CX x cX5_digest RX5 4) (hL : x.2.2.2.1 = 4) (Hr : RTJ x cX5_digest F Sum.inr) (HH : ∀ q, F (.inl q) → pX5_digest x q) {l0 : Nat} {l1 : Int64} {l3 : Int32} {M : Mm} (h_l0 : sh l0 = 15) : SIM x F (bX5_digest_88 l0 l1 l3 M) 88 [(0, rf x.2.1 l0), (1, .long l1), (3, .int l3)] [] M := by
  unfold bX5_digest_88
  refine r_iload_n X dX5_digest_88 rfl 2 rfl ?_
  refine r_bipush (v := 6) X dX5_digest_89 (by decide) ?_
  refine r_icmp_ge 111 X dX5_digest_91 (by decide) ?_ ?_
  · refine r_iconst (v := 0) X dX5_digest_111 (by decide) ?_
    refine r_istore_n [(3, .int 0), (0, rf x.2.1 l0), (1, .long l1)] X dX5_digest_112 rfl (nlt hL (by decide)) rfl ?_
    exact r_hdr [(0, rf x.2.1 l0), (1, .long l1), (3, .int 0)] [1, 2, 0] rfl (fun h => HH _ h h_l0)
  · refine r_aload_n X dX5_digest_94 rfl 0 rfl ?_
    refine r_getR X fl_X5_11 (by decide) h_l0 dX5_digest_95 (fun v5 h_v5 => ?_)
    refine r_iload_n X dX5_digest_98 rfl 2 rfl ?_
    refine r_aldS X h_v5 dX5_digest_99 (fun v6 h_v6 => ?_)
    refine r_lload_n X dX5_digest_100 rfl 1 rfl ?_
    refine r_callVJ [.long l1] X mt_X5_300 (by decide) h_v6 (by decide) (okX2_digestOn _ _ X.J h_v6) rfl (Nat.le_of_ble_eq_true rfl) dX5_digest_101 rfl (fun v8 M7 => ?_)
    refine r_lstore_n [(1, .long v8), (0, rf x.2.1 l0), (3, .int l3)] X dX5_digest_104 rfl (nlt hL (by decide)) rfl ?_
    refine r_iinc [(3, .int (l3 + 1)), (1, .long v8), (0, rf x.2.1 l0)] X dX5_digest_105 2 rfl rfl (nlt hL (by decide)) rfl ?_
    refine r_goto 88 X dX5_digest_108 (by decide) ?_
    exact r_hdr [(0, rf x.2.1 l0), (1, .long v8), (3, .int (l3 + 1))] [2, 1, 0] rfl (fun h => HH _ h h_l0)
set_option maxRecDepth 100000 in
noncomputable def bX5_digest_77 (l0 : Nat) (l3 : Int32) (s0 : Int32) (s1 : Int64) (M : Mm) : Option ((Nat × Nat × Int64 × Int32 × Mm) ⊕ Int64 × Mm) := ltJ (s1 + ((s0 : Int32).toInt64)) fun v9 => some (.inl (2, l0, v9, (l3 + 1), M))
set_option maxRecDepth 100000 in
set_option maxHeartbeats 4000000 in
theorem sX5_digest_77 {x : SB} {F : ((Nat × Nat × Int64 × Int32 × Mm) ⊕ Int64 × Mm) → Prop} (X : CX x cX5_digest RX5 4) (hL : x.2.2.2.1 = 4) (Hr : RTJ x cX5_digest F Sum.inr) (HH : ∀ q, F (.inl q) → pX5_digest x q) {l0 : Nat} {l3 : Int32} {s0 : Int32} {s1 : Int64} {M : Mm} (h_l0 : sh l0 = 15) : SIM x F (bX5_digest_77 l0 l3 s0 s1 M) 77 [(0, rf x.2.1 l0), (3, .int l3)] [.int s0, .long s1] M := by
  unfold bX5_digest_77
  refine r_i2l X dX5_digest_77 ?_
  refine r_ladd X dX5_digest_78 ?_
  refine r_letJ (fun v9 => ?_)
  refine r_lstore_n [(1, .long v9), (0, rf x.2.1 l0), (3, .int l3)] X dX5_digest_79 rfl (nlt hL (by decide)) rfl ?_
  refine r_iinc [(3, .int (l3 + 1)), (1, .long v9), (0, rf x.2.1 l0)] X dX5_digest_80 2 rfl rfl (nlt hL (by decide)) rfl ?_
  refine r_goto 42 X dX5_digest_83 (by decide) ?_
  exact r_hdr [(0, rf x.2.1 l0), (1, .long v9), (3, .int (l3 + 1))] [2, 1, 0] rfl (fun h => HH _ h h_l0)
set_option maxRecDepth 100000 in
noncomputable def bX5_digest_42 (l0 : Nat) (l1 : Int64) (l3 : Int32) (M : Mm) : Option ((Nat × Nat × Int64 × Int32 × Mm) ⊕ Int64 × Mm) := if 3 ≤ l3 then some (.inl (3, l0, l1, 0, M)) else gfR M 4 l0 3 fun v10 => ldR M 14 v10 l3 fun v11 => cal (fX4_isEmpty v11 M) fun v13 M12 => if v13 = 0 then gfR M12 4 l0 3 fun v14 => ldR M12 14 v14 l3 fun v15 => gfI M12 v15 2 fun v16 => bX5_digest_77 l0 l3 v16 ((31 : Int64) * l1) M12 else bX5_digest_77 l0 l3 (-1) ((31 : Int64) * l1) M12
set_option maxRecDepth 100000 in
set_option maxHeartbeats 4000000 in
theorem sX5_digest_42 {x : SB} {F : ((Nat × Nat × Int64 × Int32 × Mm) ⊕ Int64 × Mm) → Prop} (X : CX x cX5_digest RX5 4) (hL : x.2.2.2.1 = 4) (Hr : RTJ x cX5_digest F Sum.inr) (HH : ∀ q, F (.inl q) → pX5_digest x q) {l0 : Nat} {l1 : Int64} {l3 : Int32} {M : Mm} (h_l0 : sh l0 = 15) : SIM x F (bX5_digest_42 l0 l1 l3 M) 42 [(0, rf x.2.1 l0), (1, .long l1), (3, .int l3)] [] M := by
  unfold bX5_digest_42
  refine r_iload_n X dX5_digest_42 rfl 2 rfl ?_
  refine r_iconst (v := 3) X dX5_digest_43 (by decide) ?_
  refine r_icmp_ge 86 X dX5_digest_44 (by decide) ?_ ?_
  · refine r_iconst (v := 0) X dX5_digest_86 (by decide) ?_
    refine r_istore_n [(3, .int 0), (0, rf x.2.1 l0), (1, .long l1)] X dX5_digest_87 rfl (nlt hL (by decide)) rfl ?_
    exact r_hdr [(0, rf x.2.1 l0), (1, .long l1), (3, .int 0)] [1, 2, 0] rfl (fun h => HH _ h h_l0)
  · refine r_ldc2 X dX5_digest_47 k_758 ?_
    refine r_lload_n X dX5_digest_50 rfl 1 rfl ?_
    refine r_lmul X dX5_digest_51 ?_
    refine r_aload_n X dX5_digest_52 rfl 0 rfl ?_
    refine r_getR X fl_X5_25 (by decide) h_l0 dX5_digest_53 (fun v10 h_v10 => ?_)
    refine r_iload_n X dX5_digest_56 rfl 2 rfl ?_
    refine r_aldW X h_v10 dX5_digest_57 (fun v11 h_v11 => ?_)
    refine r_callVI [] X mt_X5_199 (by decide) h_v11 (by decide) (okX4_isEmpty _ _ X.J h_v11) rfl (Nat.le_of_ble_eq_true rfl) dX5_digest_58 rfl (fun v13 M12 => ?_)
    refine r_if_eq 68 X dX5_digest_61 (by decide) ?_ ?_
    · refine r_aload_n X dX5_digest_68 rfl 0 rfl ?_
      refine r_getR X fl_X5_25 (by decide) h_l0 dX5_digest_69 (fun v14 h_v14 => ?_)
      refine r_iload_n X dX5_digest_72 rfl 2 rfl ?_
      refine r_aldW X h_v14 dX5_digest_73 (fun v15 h_v15 => ?_)
      refine r_getI X fl_X5_184 (by decide) h_v15 dX5_digest_74 (fun v16 => ?_)
      exact r_to [(0, rf x.2.1 l0), (3, .int l3)] [0, 2] rfl (sX5_digest_77 X hL Hr HH h_l0)
    · refine r_iconst (v := (-1)) X dX5_digest_64 (by decide) ?_
      refine r_goto 77 X dX5_digest_65 (by decide) ?_
      exact r_to [(0, rf x.2.1 l0), (3, .int l3)] [0, 2] rfl (sX5_digest_77 X hL Hr HH h_l0)
set_option maxRecDepth 100000 in
noncomputable def bX5_digest_6 (l0 : Nat) (l1 : Int64) (l3 : Int32) (M : Mm) : Option ((Nat × Nat × Int64 × Int32 × Mm) ⊕ Int64 × Mm) := if 11 ≤ l3 then gfR M 14 l0 2 fun v17 => cal (fX4_digestOn v17 l1 M) fun v19 M18 => some (.inl (2, l0, v19, 0, M18)) else cal (fX5_count l0 l3 M) fun v21 M20 => ltJ (((31 : Int64) * l1) + ((v21 : Int32).toInt64)) fun v22 => some (.inl (1, l0, v22, (l3 + 1), M20))
set_option maxRecDepth 100000 in
set_option maxHeartbeats 4000000 in
theorem sX5_digest_6 {x : SB} {F : ((Nat × Nat × Int64 × Int32 × Mm) ⊕ Int64 × Mm) → Prop} (X : CX x cX5_digest RX5 4) (hL : x.2.2.2.1 = 4) (Hr : RTJ x cX5_digest F Sum.inr) (HH : ∀ q, F (.inl q) → pX5_digest x q) {l0 : Nat} {l1 : Int64} {l3 : Int32} {M : Mm} (h_l0 : sh l0 = 15) : SIM x F (bX5_digest_6 l0 l1 l3 M) 6 [(0, rf x.2.1 l0), (1, .long l1), (3, .int l3)] [] M := by
  unfold bX5_digest_6
  refine r_iload_n X dX5_digest_6 rfl 2 rfl ?_
  refine r_bipush (v := 11) X dX5_digest_7 (by decide) ?_
  refine r_icmp_ge 31 X dX5_digest_9 (by decide) ?_ ?_
  · refine r_aload_n X dX5_digest_31 rfl 0 rfl ?_
    refine r_getR X fl_X5_21 (by decide) h_l0 dX5_digest_32 (fun v17 h_v17 => ?_)
    refine r_lload_n X dX5_digest_35 rfl 1 rfl ?_
    refine r_callVJ [.long l1] X mt_X5_296 (by decide) h_v17 (by decide) (okX4_digestOn _ _ X.J h_v17) rfl (Nat.le_of_ble_eq_true rfl) dX5_digest_36 rfl (fun v19 M18 => ?_)
    refine r_lstore_n [(1, .long v19), (0, rf x.2.1 l0), (3, .int l3)] X dX5_digest_39 rfl (nlt hL (by decide)) rfl ?_
    refine r_iconst (v := 0) X dX5_digest_40 (by decide) ?_
    refine r_istore_n [(3, .int 0), (1, .long v19), (0, rf x.2.1 l0)] X dX5_digest_41 rfl (nlt hL (by decide)) rfl ?_
    exact r_hdr [(0, rf x.2.1 l0), (1, .long v19), (3, .int 0)] [2, 1, 0] rfl (fun h => HH _ h h_l0)
  · refine r_ldc2 X dX5_digest_12 k_758 ?_
    refine r_lload_n X dX5_digest_15 rfl 1 rfl ?_
    refine r_lmul X dX5_digest_16 ?_
    refine r_aload_n X dX5_digest_17 rfl 0 rfl ?_
    refine r_iload_n X dX5_digest_18 rfl 2 rfl ?_
    refine r_callVI [.int l3] X mt_X5_293 (by decide) h_l0 (by decide) (okX5_count _ _ X.J h_l0) rfl (Nat.le_of_ble_eq_true rfl) dX5_digest_19 rfl (fun v21 M20 => ?_)
    refine r_i2l X dX5_digest_22 ?_
    refine r_ladd X dX5_digest_23 ?_
    refine r_letJ (fun v22 => ?_)
    refine r_lstore_n [(1, .long v22), (0, rf x.2.1 l0), (3, .int l3)] X dX5_digest_24 rfl (nlt hL (by decide)) rfl ?_
    refine r_iinc [(3, .int (l3 + 1)), (1, .long v22), (0, rf x.2.1 l0)] X dX5_digest_25 2 rfl rfl (nlt hL (by decide)) rfl ?_
    refine r_goto 6 X dX5_digest_28 (by decide) ?_
    exact r_hdr [(0, rf x.2.1 l0), (1, .long v22), (3, .int (l3 + 1))] [2, 1, 0] rfl (fun h => HH _ h h_l0)
set_option maxRecDepth 100000 in
noncomputable def bX5_digest_0 (l0 : Nat) (M : Mm) : Option ((Nat × Nat × Int64 × Int32 × Mm) ⊕ Int64 × Mm) := some (.inl (1, l0, 17, 0, M))
set_option maxRecDepth 100000 in
set_option maxHeartbeats 4000000 in
theorem sX5_digest_0 {x : SB} {F : ((Nat × Nat × Int64 × Int32 × Mm) ⊕ Int64 × Mm) → Prop} (X : CX x cX5_digest RX5 4) (hL : x.2.2.2.1 = 4) (Hr : RTJ x cX5_digest F Sum.inr) (HH : ∀ q, F (.inl q) → pX5_digest x q) {l0 : Nat} {M : Mm} (h_l0 : sh l0 = 15) : SIM x F (bX5_digest_0 l0 M) 0 [(0, rf x.2.1 l0)] [] M := by
  unfold bX5_digest_0
  refine r_ldc2 X dX5_digest_0 k_757 ?_
  refine r_lstore_n [(1, .long 17), (0, rf x.2.1 l0)] X dX5_digest_3 rfl (nlt hL (by decide)) rfl ?_
  refine r_iconst (v := 0) X dX5_digest_4 (by decide) ?_
  refine r_istore_n [(3, .int 0), (1, .long 17), (0, rf x.2.1 l0)] X dX5_digest_5 rfl (nlt hL (by decide)) rfl ?_
  exact r_hdr [(0, rf x.2.1 l0), (1, .long 17), (3, .int 0)] [2, 1, 0] rfl (fun h => HH _ h h_l0)
set_option maxRecDepth 100000 in
noncomputable def gX5_digest (q : Nat × Nat × Int64 × Int32 × Mm) : Option ((Nat × Nat × Int64 × Int32 × Mm) ⊕ Int64 × Mm) := match q.1 with
  | 1 => bX5_digest_6 (q.2.1) (q.2.2.1) (q.2.2.2.1) (q.2.2.2.2)
  | 2 => bX5_digest_42 (q.2.1) (q.2.2.1) (q.2.2.2.1) (q.2.2.2.2)
  | 3 => bX5_digest_88 (q.2.1) (q.2.2.1) (q.2.2.2.1) (q.2.2.2.2)
  | 4 => bX5_digest_113 (q.2.1) (q.2.2.1) (q.2.2.2.1) (q.2.2.2.2)
  | _ => none
set_option maxRecDepth 100000 in
noncomputable def fX5_digest (l0 : Nat) (M : Mm) : Option (Int64 × Mm) := fen gX5_digest (bX5_digest_0 l0 M)
set_option maxRecDepth 100000 in
set_option maxHeartbeats 4000000 in
theorem okX5_digest (l : Launch) (g : GX) (hJ : IJ g) {l0 : Nat} {M : Mm} (h_l0 : sh l0 = 15) : CT l g yX5_digest cX5_digest 4 (some .long) 4 [rf g l0] M (fX5_digest l0 M) (fun r => some (.long r)) := by
  refine ct_J rfl hJ (Nat.le_of_ble_eq_true rfl) (fun x r hg hL hl X hf Hr => ?_)
  subst hg
  have Hr2 : RTJ x cX5_digest (Sum.elim (pX5_digest x) (fun q => q = r)) Sum.inr := fun v M h => Hr v M h
  have HP : ∀ q, fnl gX5_digest q = some r → pX5_digest x q := by
    intro q hq
    refine fnl_ind (pX5_digest x) (fun q hq => ?_) hq
    obtain ⟨n, l0, l1, l3, M⟩ := q
    match n, hq with
    | 1, hq => exact fun h_l0 ls H locs hl hP hS => sX5_digest_6 X hL Hr2 (fun _ h => h) h_l0 hq ls H locs hl hP hS
    | 2, hq => exact fun h_l0 ls H locs hl hP hS => sX5_digest_42 X hL Hr2 (fun _ h => h) h_l0 hq ls H locs hl hP hS
    | 3, hq => exact fun h_l0 ls H locs hl hP hS => sX5_digest_88 X hL Hr2 (fun _ h => h) h_l0 hq ls H locs hl hP hS
    | 4, hq => exact fun h_l0 ls H locs hl hP hS => sX5_digest_113 X hL Hr2 (fun _ h => h) h_l0 hq ls H locs hl hP hS
    | 0, hq => exact trivial
    | n + 5, hq => exact trivial
  exact fun _ ls H locs hl hP hS => sX5_digest_0 X hL Hr2 (fun _ h => h) h_l0 (fen_w hf HP) ls H locs hl hP hS
/-! CrumbWood$Wood.addMark(II)V -/
set_option maxRecDepth 100000 in
noncomputable def bX4_addMark_26 (l0 : Nat) (l1 : Int32) (l2 : Int32) (M : Mm) : Option (Unit × Mm) := gfR M 5 l0 6 fun v1 => ldR M 0 v1 l2 fun v2 => ldI M v2 l1 fun v3 => stI M v2 l1 (v3 + 1) fun M4 => some (((), M4))
set_option maxRecDepth 100000 in
set_option maxHeartbeats 4000000 in
theorem sX4_addMark_26 {x : SB} {F : (Unit × Mm) → Prop} (X : CX x cX4_addMark RX4 1) (hL : x.2.2.2.1 = 3) (Hr : RTV x cX4_addMark F (fun q => q)) {l0 : Nat} {l1 : Int32} {l2 : Int32} {M : Mm} (h_l0 : sh l0 = 14) : SIM x F (bX4_addMark_26 l0 l1 l2 M) 26 [(0, rf x.2.1 l0), (1, .int l1), (2, .int l2)] [] M := by
  unfold bX4_addMark_26
  refine r_aload_n X dX4_addMark_26 rfl 0 rfl ?_
  refine r_getR X fl_X4_33 (by decide) h_l0 dX4_addMark_27 (fun v1 h_v1 => ?_)
  refine r_iload_n X dX4_addMark_30 rfl 2 rfl ?_
  refine r_aldA X h_v1 dX4_addMark_31 (fun v2 h_v2 => ?_)
  refine r_iload_n X dX4_addMark_32 rfl 1 rfl ?_
  refine r_dup2 X dX4_addMark_33 rfl rfl ?_
  refine r_iald X h_v2 dX4_addMark_34 (fun v3 => ?_)
  refine r_iconst (v := 1) X dX4_addMark_35 (by decide) ?_
  refine r_iadd X dX4_addMark_36 ?_
  refine r_iast X h_v2 dX4_addMark_37 (fun M4 => ?_)
  exact r_vret Hr dX4_addMark_38
set_option maxRecDepth 100000 in
noncomputable def fX4_addMark (l0 : Nat) (l1 : Int32) (l2 : Int32) (M : Mm) : Option (Unit × Mm) := if l2 = 0 then cal (fX4_isOf l0 l1 3 M) fun v6 M5 => if v6 = 0 then bX4_addMark_26 l0 l1 l2 M5 else gfR M5 0 l0 7 fun v7 => ldI M5 v7 l1 fun v8 => stI M5 v7 l1 (v8 + 1) fun M9 => some (((), M9)) else bX4_addMark_26 l0 l1 l2 M
set_option maxRecDepth 100000 in
set_option maxHeartbeats 4000000 in
theorem sX4_addMark_0 {x : SB} {F : (Unit × Mm) → Prop} (X : CX x cX4_addMark RX4 1) (hL : x.2.2.2.1 = 3) (Hr : RTV x cX4_addMark F (fun q => q)) {l0 : Nat} {l1 : Int32} {l2 : Int32} {M : Mm} (h_l0 : sh l0 = 14) : SIM x F (fX4_addMark l0 l1 l2 M) 0 [(0, rf x.2.1 l0), (1, .int l1), (2, .int l2)] [] M := by
  unfold fX4_addMark
  refine r_iload_n X dX4_addMark_0 rfl 2 rfl ?_
  refine r_if_ne 26 X dX4_addMark_1 (by decide) ?_ ?_
  · refine r_aload_n X dX4_addMark_4 rfl 0 rfl ?_
    refine r_iload_n X dX4_addMark_5 rfl 1 rfl ?_
    refine r_iconst (v := 3) X dX4_addMark_6 (by decide) ?_
    refine r_callVI [.int l1, .int 3] X mt_X4_61 (by decide) h_l0 (by decide) (okX4_isOf _ _ X.J h_l0) rfl (Nat.le_of_ble_eq_true rfl) dX4_addMark_7 rfl (fun v6 M5 => ?_)
    refine r_if_eq 26 X dX4_addMark_10 (by decide) ?_ ?_
    · exact r_to [(0, rf x.2.1 l0), (1, .int l1), (2, .int l2)] [0, 1, 2] rfl (sX4_addMark_26 X hL Hr h_l0)
    · refine r_aload_n X dX4_addMark_13 rfl 0 rfl ?_
      refine r_getR X fl_X4_36 (by decide) h_l0 dX4_addMark_14 (fun v7 h_v7 => ?_)
      refine r_iload_n X dX4_addMark_17 rfl 1 rfl ?_
      refine r_dup2 X dX4_addMark_18 rfl rfl ?_
      refine r_iald X h_v7 dX4_addMark_19 (fun v8 => ?_)
      refine r_iconst (v := 1) X dX4_addMark_20 (by decide) ?_
      refine r_iadd X dX4_addMark_21 ?_
      refine r_iast X h_v7 dX4_addMark_22 (fun M9 => ?_)
      refine r_goto 38 X dX4_addMark_23 (by decide) ?_
      exact r_vret Hr dX4_addMark_38
  · exact r_to [(0, rf x.2.1 l0), (1, .int l1), (2, .int l2)] [0, 1, 2] rfl (sX4_addMark_26 X hL Hr h_l0)
set_option maxRecDepth 100000 in
set_option maxHeartbeats 4000000 in
theorem okX4_addMark (l : Launch) (g : GX) (hJ : IJ g) {l0 : Nat} {l1 : Int32} {l2 : Int32} {M : Mm} (h_l0 : sh l0 = 14) : CT l g yX4_addMark cX4_addMark 3 none 1 [rf g l0, .int l1, .int l2] M (fX4_addMark l0 l1 l2 M) (fun _ => none) := by
  refine ct_V rfl hJ (Nat.le_of_ble_eq_true rfl) (fun x r hg hL hl X hf Hr => ?_)
  subst hg
  exact fun _ ls H locs hl hP hS => sX4_addMark_0 X hL Hr h_l0 ⟨_, hf, rfl⟩ ls H locs hl hP hS
/-! CrumbWood$Wood.dropHere(I)V -/
set_option maxRecDepth 100000 in
noncomputable def fX4_dropHere (l0 : Nat) (l1 : Int32) (M : Mm) : Option (Unit × Mm) := gfR M 0 l0 9 fun v1 => ldI M v1 l1 fun v2 => stI M v1 l1 (v2 - 1) fun M3 => cal (fX4_standing l0 M3) fun v5 M4 => cal (fX4_addMark l0 v5 l1 M4) fun _ M6 => some (((), M6))
set_option maxRecDepth 100000 in
set_option maxHeartbeats 4000000 in
theorem sX4_dropHere_0 {x : SB} {F : (Unit × Mm) → Prop} (X : CX x cX4_dropHere RX4 2) (hL : x.2.2.2.1 = 2) (Hr : RTV x cX4_dropHere F (fun q => q)) {l0 : Nat} {l1 : Int32} {M : Mm} (h_l0 : sh l0 = 14) : SIM x F (fX4_dropHere l0 l1 M) 0 [(0, rf x.2.1 l0), (1, .int l1)] [] M := by
  unfold fX4_dropHere
  refine r_aload_n X dX4_dropHere_0 rfl 0 rfl ?_
  refine r_getR X fl_X4_42 (by decide) h_l0 dX4_dropHere_1 (fun v1 h_v1 => ?_)
  refine r_iload_n X dX4_dropHere_4 rfl 1 rfl ?_
  refine r_dup2 X dX4_dropHere_5 rfl rfl ?_
  refine r_iald X h_v1 dX4_dropHere_6 (fun v2 => ?_)
  refine r_iconst (v := 1) X dX4_dropHere_7 (by decide) ?_
  refine r_isub X dX4_dropHere_8 ?_
  refine r_iast X h_v1 dX4_dropHere_9 (fun M3 => ?_)
  refine r_aload_n X dX4_dropHere_10 rfl 0 rfl ?_
  refine r_aload_n X dX4_dropHere_11 rfl 0 rfl ?_
  refine r_callVI [] X mt_X4_64 (by decide) h_l0 (by decide) (okX4_standing _ _ X.J h_l0) rfl (Nat.le_of_ble_eq_true rfl) dX4_dropHere_12 rfl (fun v5 M4 => ?_)
  refine r_iload_n X dX4_dropHere_15 rfl 1 rfl ?_
  refine r_callVV [.int v5, .int l1] X mt_X4_68 (by decide) h_l0 (by decide) (okX4_addMark _ _ X.J h_l0) rfl (Nat.le_of_ble_eq_true rfl) dX4_dropHere_16 rfl (fun _ M6 => ?_)
  exact r_vret Hr dX4_dropHere_19
set_option maxRecDepth 100000 in
set_option maxHeartbeats 4000000 in
theorem okX4_dropHere (l : Launch) (g : GX) (hJ : IJ g) {l0 : Nat} {l1 : Int32} {M : Mm} (h_l0 : sh l0 = 14) : CT l g yX4_dropHere cX4_dropHere 2 none 2 [rf g l0, .int l1] M (fX4_dropHere l0 l1 M) (fun _ => none) := by
  refine ct_V rfl hJ (Nat.le_of_ble_eq_true rfl) (fun x r hg hL hl X hf Hr => ?_)
  subst hg
  exact fun _ ls H locs hl hP hS => sX4_dropHere_0 X hL Hr h_l0 ⟨_, hf, rfl⟩ ls H locs hl hP hS
/-! CrumbWood.drop(I)I -/
set_option maxRecDepth 100000 in
noncomputable def fX5_drop (l0 : Nat) (l1 : Int32) (M : Mm) : Option (Int32 × Mm) := cal (fX5_isBelow l1 3 M) fun v2 M1 => if v2 = 0 then some (((-1), M1)) else gfR M1 14 l0 2 fun v3 => gfR M1 0 v3 9 fun v4 => ldI M1 v4 l1 fun v5 => if v5 = 0 then some (((-4), M1)) else gfR M1 14 l0 2 fun v6 => cal (fX4_dropHere v6 l1 M1) fun _ M7 => gfR M7 14 l0 2 fun v8 => gfR M7 0 v8 9 fun v9 => ldI M7 v9 l1 fun v10 => some ((v10, M7))
set_option maxRecDepth 100000 in
set_option maxHeartbeats 4000000 in
theorem sX5_drop_0 {x : SB} {F : (Int32 × Mm) → Prop} (X : CX x cX5_drop RX5 3) (hL : x.2.2.2.1 = 2) (Hr : RTI x cX5_drop .int F (fun q => q)) {l0 : Nat} {l1 : Int32} {M : Mm} (h_l0 : sh l0 = 15) : SIM x F (fX5_drop l0 l1 M) 0 [(0, rf x.2.1 l0), (1, .int l1)] [] M := by
  unfold fX5_drop
  refine r_iload_n X dX5_drop_0 rfl 1 rfl ?_
  refine r_iconst (v := 3) X dX5_drop_1 (by decide) ?_
  refine r_callSI [.int l1, .int 3] X mt_X5_74 (by decide) (okX5_isBelow _ _ X.J) rfl (Nat.le_of_ble_eq_true rfl) dX5_drop_2 rfl (fun v2 M1 => ?_)
  refine r_if_ne 10 X dX5_drop_5 (by decide) ?_ ?_
  · refine r_iconst (v := (-1)) X dX5_drop_8 (by decide) ?_
    exact r_iret Hr rfl dX5_drop_9
  · refine r_aload_n X dX5_drop_10 rfl 0 rfl ?_
    refine r_getR X fl_X5_21 (by decide) h_l0 dX5_drop_11 (fun v3 h_v3 => ?_)
    refine r_getR X fl_X5_177 (by decide) h_v3 dX5_drop_14 (fun v4 h_v4 => ?_)
    refine r_iload_n X dX5_drop_17 rfl 1 rfl ?_
    refine r_iald X h_v4 dX5_drop_18 (fun v5 => ?_)
    refine r_if_ne 25 X dX5_drop_19 (by decide) ?_ ?_
    · refine r_bipush (v := (-4)) X dX5_drop_22 (by decide) ?_
      exact r_iret Hr rfl dX5_drop_24
    · refine r_aload_n X dX5_drop_25 rfl 0 rfl ?_
      refine r_getR X fl_X5_21 (by decide) h_l0 dX5_drop_26 (fun v6 h_v6 => ?_)
      refine r_iload_n X dX5_drop_29 rfl 1 rfl ?_
      refine r_callVV [.int l1] X mt_X5_190 (by decide) h_v6 (by decide) (okX4_dropHere _ _ X.J h_v6) rfl (Nat.le_of_ble_eq_true rfl) dX5_drop_30 rfl (fun _ M7 => ?_)
      refine r_aload_n X dX5_drop_33 rfl 0 rfl ?_
      refine r_getR X fl_X5_21 (by decide) h_l0 dX5_drop_34 (fun v8 h_v8 => ?_)
      refine r_getR X fl_X5_177 (by decide) h_v8 dX5_drop_37 (fun v9 h_v9 => ?_)
      refine r_iload_n X dX5_drop_40 rfl 1 rfl ?_
      refine r_iald X h_v9 dX5_drop_41 (fun v10 => ?_)
      exact r_iret Hr rfl dX5_drop_42
set_option maxRecDepth 100000 in
set_option maxHeartbeats 4000000 in
theorem okX5_drop (l : Launch) (g : GX) (hJ : IJ g) {l0 : Nat} {l1 : Int32} {M : Mm} (h_l0 : sh l0 = 15) : CT l g yX5_drop cX5_drop 2 (some .int) 3 [rf g l0, .int l1] M (fX5_drop l0 l1 M) (fun r => some (.int r)) := by
  refine ct_I rfl hJ (Nat.le_of_ble_eq_true rfl) (fun x r hg hL hl X hf Hr => ?_)
  subst hg
  exact fun _ ls H locs hl hP hS => sX5_drop_0 X hL Hr h_l0 ⟨_, hf, rfl⟩ ls H locs hl hP hS
/-! CrumbWood$Reader.kindOf(I)I -/
set_option maxRecDepth 100000 in
def pX0_kindOf (x : SB) (q : Nat × Int32 × Int32 × Mm) : Prop := match q.1 with
  | 1 => ∀ (ls : Array Slot) (H : Heap) (locs : List Loc), lv_has ls x.2.2.2.1 [(0, .int q.2.1), (1, .int q.2.2.1)] → PW x.2.1 (q.2.2.2) H → SH x H locs → SW x H locs 2 ls []
  | _ => True
set_option maxRecDepth 100000 in
noncomputable def bX0_kindOf_2 (l0 : Int32) (l1 : Int32) (M : Mm) : Option ((Nat × Int32 × Int32 × Mm) ⊕ Int32 × Mm) := if 6 ≤ l1 then some (.inr ((-9), M)) else ldS let1 6 l1 fun v1 => if v1 = l0 then some (.inr (l1, M)) else some (.inl (1, l0, (l1 + 1), M))
set_option maxRecDepth 100000 in
set_option maxHeartbeats 4000000 in
theorem sX0_kindOf_2 {x : SB} {F : ((Nat × Int32 × Int32 × Mm) ⊕ Int32 × Mm) → Prop} (X : CX x cX0_kindOf RX0 0) (hL : x.2.2.2.1 = 2) (Hr : RTI x cX0_kindOf .int F Sum.inr) (HH : ∀ q, F (.inl q) → pX0_kindOf x q) {l0 : Int32} {l1 : Int32} {M : Mm}  : SIM x F (bX0_kindOf_2 l0 l1 M) 2 [(0, .int l0), (1, .int l1)] [] M := by
  unfold bX0_kindOf_2
  refine r_iload_n X dX0_kindOf_2 rfl 1 rfl ?_
  refine r_bipush (v := 6) X dX0_kindOf_3 (by decide) ?_
  refine r_icmp_ge 25 X dX0_kindOf_5 (by decide) ?_ ?_
  · refine r_bipush (v := (-9)) X dX0_kindOf_25 (by decide) ?_
    exact r_iret Hr rfl dX0_kindOf_27
  · refine r_gets0 X k_400 dX0_kindOf_8 ?_
    refine r_iload_n X dX0_kindOf_11 rfl 1 rfl ?_
    refine r_ilds0 X dX0_kindOf_12 (fun v1 => ?_)
    refine r_iload_n X dX0_kindOf_13 rfl 0 rfl ?_
    refine r_icmp_ne 19 X dX0_kindOf_14 (by decide) ?_ ?_
    · refine r_iload_n X dX0_kindOf_17 rfl 1 rfl ?_
      exact r_iret Hr rfl dX0_kindOf_18
    · refine r_iinc [(1, .int (l1 + 1)), (0, .int l0)] X dX0_kindOf_19 1 rfl rfl (nlt hL (by decide)) rfl ?_
      refine r_goto 2 X dX0_kindOf_22 (by decide) ?_
      exact r_hdr [(0, .int l0), (1, .int (l1 + 1))] [1, 0] rfl (fun h => HH _ h)
set_option maxRecDepth 100000 in
noncomputable def bX0_kindOf_0 (l0 : Int32) (M : Mm) : Option ((Nat × Int32 × Int32 × Mm) ⊕ Int32 × Mm) := some (.inl (1, l0, 0, M))
set_option maxRecDepth 100000 in
set_option maxHeartbeats 4000000 in
theorem sX0_kindOf_0 {x : SB} {F : ((Nat × Int32 × Int32 × Mm) ⊕ Int32 × Mm) → Prop} (X : CX x cX0_kindOf RX0 0) (hL : x.2.2.2.1 = 2) (Hr : RTI x cX0_kindOf .int F Sum.inr) (HH : ∀ q, F (.inl q) → pX0_kindOf x q) {l0 : Int32} {M : Mm}  : SIM x F (bX0_kindOf_0 l0 M) 0 [(0, .int l0)] [] M := by
  unfold bX0_kindOf_0
  refine r_iconst (v := 0) X dX0_kindOf_0 (by decide) ?_
  refine r_istore_n [(1, .int 0), (0, .int l0)] X dX0_kindOf_1 rfl (nlt hL (by decide)) rfl ?_
  exact r_hdr [(0, .int l0), (1, .int 0)] [1, 0] rfl (fun h => HH _ h)
set_option maxRecDepth 100000 in
noncomputable def gX0_kindOf (q : Nat × Int32 × Int32 × Mm) : Option ((Nat × Int32 × Int32 × Mm) ⊕ Int32 × Mm) := match q.1 with
  | 1 => bX0_kindOf_2 (q.2.1) (q.2.2.1) (q.2.2.2)
  | _ => none
set_option maxRecDepth 100000 in
noncomputable def fX0_kindOf (l0 : Int32) (M : Mm) : Option (Int32 × Mm) := fen gX0_kindOf (bX0_kindOf_0 l0 M)
set_option maxRecDepth 100000 in
set_option maxHeartbeats 4000000 in
theorem okX0_kindOf (l : Launch) (g : GX) (hJ : IJ g) {l0 : Int32} {M : Mm}  : CT l g yX0_kindOf cX0_kindOf 2 (some .int) 0 [.int l0] M (fX0_kindOf l0 M) (fun r => some (.int r)) := by
  refine ct_I rfl hJ (Nat.le_of_ble_eq_true rfl) (fun x r hg hL hl X hf Hr => ?_)
  subst hg
  have Hr2 : RTI x cX0_kindOf .int (Sum.elim (pX0_kindOf x) (fun q => q = r)) Sum.inr := fun v M h => Hr v M h
  have HP : ∀ q, fnl gX0_kindOf q = some r → pX0_kindOf x q := by
    intro q hq
    refine fnl_ind (pX0_kindOf x) (fun q hq => ?_) hq
    obtain ⟨n, l0, l1, M⟩ := q
    match n, hq with
    | 1, hq => exact fun ls H locs hl hP hS => sX0_kindOf_2 X hL Hr2 (fun _ h => h)  hq ls H locs hl hP hS
    | 0, hq => exact trivial
    | n + 2, hq => exact trivial
  exact fun _ ls H locs hl hP hS => sX0_kindOf_0 X hL Hr2 (fun _ h => h) (fen_w hf HP) ls H locs hl hP hS
/-! CrumbWood$Reader.figureBelow(I)I -/
set_option maxRecDepth 100000 in
noncomputable def fX0_figureBelow (l0 : Nat) (l1 : Int32) (M : Mm) : Option (Int32 × Mm) := gfI M l0 2 fun v1 => gfI M l0 1 fun v2 => if v1 < v2 then gfR M 0 l0 0 fun v3 => gfI M l0 2 fun v4 => ldI M v3 v4 fun v5 => ltI (v5 - 48) fun v6 => cal (fX5_isBelow v6 l1 M) fun v8 M7 => if v8 = 0 then some (((-9), M7)) else some ((v6, M7)) else some (((-9), M))
set_option maxRecDepth 100000 in
set_option maxHeartbeats 4000000 in
theorem sX0_figureBelow_0 {x : SB} {F : (Int32 × Mm) → Prop} (X : CX x cX0_figureBelow RX0 1) (hL : x.2.2.2.1 = 3) (Hr : RTI x cX0_figureBelow .int F (fun q => q)) {l0 : Nat} {l1 : Int32} {M : Mm} (h_l0 : sh l0 = 10) : SIM x F (fX0_figureBelow l0 l1 M) 0 [(0, rf x.2.1 l0), (1, .int l1)] [] M := by
  unfold fX0_figureBelow
  refine r_aload_n X dX0_figureBelow_0 rfl 0 rfl ?_
  refine r_getI X fl_X0_19 (by decide) h_l0 dX0_figureBelow_1 (fun v1 => ?_)
  refine r_aload_n X dX0_figureBelow_4 rfl 0 rfl ?_
  refine r_getI X fl_X0_15 (by decide) h_l0 dX0_figureBelow_5 (fun v2 => ?_)
  refine r_icmp_lt 14 X dX0_figureBelow_8 (by decide) ?_ ?_
  · refine r_aload_n X dX0_figureBelow_14 rfl 0 rfl ?_
    refine r_getR X fl_X0_9 (by decide) h_l0 dX0_figureBelow_15 (fun v3 h_v3 => ?_)
    refine r_aload_n X dX0_figureBelow_18 rfl 0 rfl ?_
    refine r_getI X fl_X0_19 (by decide) h_l0 dX0_figureBelow_19 (fun v4 => ?_)
    refine r_iald X h_v3 dX0_figureBelow_22 (fun v5 => ?_)
    refine r_bipush (v := 48) X dX0_figureBelow_23 (by decide) ?_
    refine r_isub X dX0_figureBelow_25 ?_
    refine r_letI (fun v6 => ?_)
    refine r_istore_n [(2, .int v6), (0, rf x.2.1 l0), (1, .int l1)] X dX0_figureBelow_26 rfl (nlt hL (by decide)) rfl ?_
    refine r_iload_n X dX0_figureBelow_27 rfl 0 rfl ?_
    refine r_iload_n X dX0_figureBelow_28 rfl 2 rfl ?_
    refine r_callSI [.int v6, .int l1] X mt_X0_76 (by decide) (okX5_isBelow _ _ X.J) rfl (Nat.le_of_ble_eq_true rfl) dX0_figureBelow_29 rfl (fun v8 M7 => ?_)
    refine r_if_eq 39 X dX0_figureBelow_32 (by decide) ?_ ?_
    · refine r_bipush (v := (-9)) X dX0_figureBelow_39 (by decide) ?_
      exact r_iret Hr rfl dX0_figureBelow_41
    · refine r_iload_n X dX0_figureBelow_35 rfl 0 rfl ?_
      refine r_goto 41 X dX0_figureBelow_36 (by decide) ?_
      exact r_iret Hr rfl dX0_figureBelow_41
  · refine r_bipush (v := (-9)) X dX0_figureBelow_11 (by decide) ?_
    exact r_iret Hr rfl dX0_figureBelow_13
set_option maxRecDepth 100000 in
set_option maxHeartbeats 4000000 in
theorem okX0_figureBelow (l : Launch) (g : GX) (hJ : IJ g) {l0 : Nat} {l1 : Int32} {M : Mm} (h_l0 : sh l0 = 10) : CT l g yX0_figureBelow cX0_figureBelow 3 (some .int) 1 [rf g l0, .int l1] M (fX0_figureBelow l0 l1 M) (fun r => some (.int r)) := by
  refine ct_I rfl hJ (Nat.le_of_ble_eq_true rfl) (fun x r hg hL hl X hf Hr => ?_)
  subst hg
  exact fun _ ls H locs hl hP hS => sX0_figureBelow_0 X hL Hr h_l0 ⟨_, hf, rfl⟩ ls H locs hl hP hS
/-! CrumbWood$Wood.addBird(I)V -/
set_option maxRecDepth 100000 in
noncomputable def fX4_addBird (l0 : Nat) (l1 : Int32) (M : Mm) : Option (Unit × Mm) := gfR M 0 l0 8 fun v1 => gfI M l0 1 fun v2 => stI M v1 v2 l1 fun M3 => gfI M3 l0 1 fun v4 => pfI M3 l0 1 (v4 + 1) fun M5 => some (((), M5))
set_option maxRecDepth 100000 in
set_option maxHeartbeats 4000000 in
theorem sX4_addBird_0 {x : SB} {F : (Unit × Mm) → Prop} (X : CX x cX4_addBird RX4 0) (hL : x.2.2.2.1 = 2) (Hr : RTV x cX4_addBird F (fun q => q)) {l0 : Nat} {l1 : Int32} {M : Mm} (h_l0 : sh l0 = 14) : SIM x F (fX4_addBird l0 l1 M) 0 [(0, rf x.2.1 l0), (1, .int l1)] [] M := by
  unfold fX4_addBird
  refine r_aload_n X dX4_addBird_0 rfl 0 rfl ?_
  refine r_getR X fl_X4_39 (by decide) h_l0 dX4_addBird_1 (fun v1 h_v1 => ?_)
  refine r_aload_n X dX4_addBird_4 rfl 0 rfl ?_
  refine r_getI X fl_X4_15 (by decide) h_l0 dX4_addBird_5 (fun v2 => ?_)
  refine r_iload_n X dX4_addBird_8 rfl 1 rfl ?_
  refine r_iast X h_v1 dX4_addBird_9 (fun M3 => ?_)
  refine r_aload_n X dX4_addBird_10 rfl 0 rfl ?_
  refine r_dup X dX4_addBird_11 rfl ?_
  refine r_getI X fl_X4_15 (by decide) h_l0 dX4_addBird_12 (fun v4 => ?_)
  refine r_iconst (v := 1) X dX4_addBird_15 (by decide) ?_
  refine r_iadd X dX4_addBird_16 ?_
  refine r_putI X fl_X4_15 (by decide) h_l0 (fun _ => rfl) (fun _ => rfl) dX4_addBird_17 (fun M5 => ?_)
  exact r_vret Hr dX4_addBird_20
set_option maxRecDepth 100000 in
set_option maxHeartbeats 4000000 in
theorem okX4_addBird (l : Launch) (g : GX) (hJ : IJ g) {l0 : Nat} {l1 : Int32} {M : Mm} (h_l0 : sh l0 = 14) : CT l g yX4_addBird cX4_addBird 2 none 0 [rf g l0, .int l1] M (fX4_addBird l0 l1 M) (fun _ => none) := by
  refine ct_V rfl hJ (Nat.le_of_ble_eq_true rfl) (fun x r hg hL hl X hf Hr => ?_)
  subst hg
  exact fun _ ls H locs hl hP hS => sX4_addBird_0 X hL Hr h_l0 ⟨_, hf, rfl⟩ ls H locs hl hP hS
/-! CrumbWood$Reader.readBird(LCrumbWood$Wood;)Z -/
set_option maxRecDepth 100000 in
noncomputable def fX0_readBird (l0 : Nat) (l1 : Nat) (M : Mm) : Option (Int32 × Mm) := gfI M l1 0 fun v1 => cal (fX0_figureBelow l0 v1 M) fun v3 M2 => if v3 = (-9) then some ((0, M2)) else gfI M2 l0 2 fun v4 => pfI M2 l0 2 (v4 + 1) fun M5 => cal (fX4_addBird l1 v3 M5) fun _ M6 => some ((1, M6))
set_option maxRecDepth 100000 in
set_option maxHeartbeats 4000000 in
theorem sX0_readBird_0 {x : SB} {F : (Int32 × Mm) → Prop} (X : CX x cX0_readBird RX0 2) (hL : x.2.2.2.1 = 3) (Hr : RTI x cX0_readBird .boolean F (fun q => q)) {l0 : Nat} {l1 : Nat} {M : Mm} (h_l0 : sh l0 = 10) (h_l1 : sh l1 = 14) : SIM x F (fX0_readBird l0 l1 M) 0 [(0, rf x.2.1 l0), (1, rf x.2.1 l1)] [] M := by
  unfold fX0_readBird
  refine r_aload_n X dX0_readBird_0 rfl 0 rfl ?_
  refine r_aload_n X dX0_readBird_1 rfl 1 rfl ?_
  refine r_getI X fl_X0_66 (by decide) h_l1 dX0_readBird_2 (fun v1 => ?_)
  refine r_callVI [.int v1] X mt_X0_80 (by decide) h_l0 (by decide) (okX0_figureBelow _ _ X.J h_l0) rfl (Nat.le_of_ble_eq_true rfl) dX0_readBird_5 rfl (fun v3 M2 => ?_)
  refine r_istore_n [(2, .int v3), (0, rf x.2.1 l0), (1, rf x.2.1 l1)] X dX0_readBird_8 rfl (nlt hL (by decide)) rfl ?_
  refine r_iload_n X dX0_readBird_9 rfl 0 rfl ?_
  refine r_bipush (v := (-9)) X dX0_readBird_10 (by decide) ?_
  refine r_icmp_ne 17 X dX0_readBird_12 (by decide) ?_ ?_
  · refine r_iconst (v := 0) X dX0_readBird_15 (by decide) ?_
    exact r_iret Hr rfl dX0_readBird_16
  · refine r_aload_n X dX0_readBird_17 rfl 1 rfl ?_
    refine r_dup X dX0_readBird_18 rfl ?_
    refine r_getI X fl_X0_19 (by decide) h_l0 dX0_readBird_19 (fun v4 => ?_)
    refine r_iconst (v := 1) X dX0_readBird_22 (by decide) ?_
    refine r_iadd X dX0_readBird_23 ?_
    refine r_putI X fl_X0_19 (by decide) h_l0 (fun _ => rfl) (fun _ => rfl) dX0_readBird_24 (fun M5 => ?_)
    refine r_aload_n X dX0_readBird_27 rfl 2 rfl ?_
    refine r_iload_n X dX0_readBird_28 rfl 0 rfl ?_
    refine r_callVV [.int v3] X mt_X0_90 (by decide) h_l1 (by decide) (okX4_addBird _ _ X.J h_l1) rfl (Nat.le_of_ble_eq_true rfl) dX0_readBird_29 rfl (fun _ M6 => ?_)
    refine r_iconst (v := 1) X dX0_readBird_32 (by decide) ?_
    exact r_iret Hr rfl dX0_readBird_33
set_option maxRecDepth 100000 in
set_option maxHeartbeats 4000000 in
theorem okX0_readBird (l : Launch) (g : GX) (hJ : IJ g) {l0 : Nat} {l1 : Nat} {M : Mm} (h_l0 : sh l0 = 10) (h_l1 : sh l1 = 14) : CT l g yX0_readBird cX0_readBird 3 (some .boolean) 2 [rf g l0, rf g l1] M (fX0_readBird l0 l1 M) (fun r => some (.int r)) := by
  refine ct_I rfl hJ (Nat.le_of_ble_eq_true rfl) (fun x r hg hL hl X hf Hr => ?_)
  subst hg
  exact fun _ ls H locs hl hP hS => sX0_readBird_0 X hL Hr h_l0 h_l1 ⟨_, hf, rfl⟩ ls H locs hl hP hS
/-! CrumbWood$Wood.isBeside(II)Z -/
set_option maxRecDepth 100000 in
noncomputable def fX4_isBeside (l0 : Nat) (l1 : Int32) (l2 : Int32) (M : Mm) : Option (Int32 × Mm) := gfR M 0 l0 5 fun v1 => ldI M v1 l1 fun v2 => if ((v2 >>> (l2 &&& 31)) &&& 1) = 1 then some ((1, M)) else some ((0, M))
set_option maxRecDepth 100000 in
set_option maxHeartbeats 4000000 in
theorem sX4_isBeside_0 {x : SB} {F : (Int32 × Mm) → Prop} (X : CX x cX4_isBeside RX4 0) (hL : x.2.2.2.1 = 3) (Hr : RTI x cX4_isBeside .boolean F (fun q => q)) {l0 : Nat} {l1 : Int32} {l2 : Int32} {M : Mm} (h_l0 : sh l0 = 14) : SIM x F (fX4_isBeside l0 l1 l2 M) 0 [(0, rf x.2.1 l0), (1, .int l1), (2, .int l2)] [] M := by
  unfold fX4_isBeside
  refine r_aload_n X dX4_isBeside_0 rfl 0 rfl ?_
  refine r_getR X fl_X4_28 (by decide) h_l0 dX4_isBeside_1 (fun v1 h_v1 => ?_)
  refine r_iload_n X dX4_isBeside_4 rfl 1 rfl ?_
  refine r_iald X h_v1 dX4_isBeside_5 (fun v2 => ?_)
  refine r_iload_n X dX4_isBeside_6 rfl 2 rfl ?_
  refine r_ishr X dX4_isBeside_7 ?_
  refine r_iconst (v := 1) X dX4_isBeside_8 (by decide) ?_
  refine r_iand X dX4_isBeside_9 ?_
  refine r_iconst (v := 1) X dX4_isBeside_10 (by decide) ?_
  refine r_icmp_ne 18 X dX4_isBeside_11 (by decide) ?_ ?_
  · refine r_iconst (v := 1) X dX4_isBeside_14 (by decide) ?_
    refine r_goto 19 X dX4_isBeside_15 (by decide) ?_
    exact r_iret Hr rfl dX4_isBeside_19
  · refine r_iconst (v := 0) X dX4_isBeside_18 (by decide) ?_
    exact r_iret Hr rfl dX4_isBeside_19
set_option maxRecDepth 100000 in
set_option maxHeartbeats 4000000 in
theorem okX4_isBeside (l : Launch) (g : GX) (hJ : IJ g) {l0 : Nat} {l1 : Int32} {l2 : Int32} {M : Mm} (h_l0 : sh l0 = 14) : CT l g yX4_isBeside cX4_isBeside 3 (some .boolean) 0 [rf g l0, .int l1, .int l2] M (fX4_isBeside l0 l1 l2 M) (fun r => some (.int r)) := by
  refine ct_I rfl hJ (Nat.le_of_ble_eq_true rfl) (fun x r hg hL hl X hf Hr => ?_)
  subst hg
  exact fun _ ls H locs hl hP hS => sX4_isBeside_0 X hL Hr h_l0 ⟨_, hf, rfl⟩ ls H locs hl hP hS
/-! CrumbWood$Wood.join(IIZ)V -/
set_option maxRecDepth 100000 in
noncomputable def fX4_join (l0 : Nat) (l1 : Int32) (l2 : Int32) (l3 : Int32) (M : Mm) : Option (Unit × Mm) := if l3 = 0 then gfR M 0 l0 5 fun v1 => ldI M v1 l1 fun v2 => stI M v1 l1 (v2 &&& (((1 : Int32) <<< (l2 &&& 31)) ^^^ (-1))) fun M3 => gfR M3 0 l0 5 fun v4 => ldI M3 v4 l2 fun v5 => stI M3 v4 l2 (v5 &&& (((1 : Int32) <<< (l1 &&& 31)) ^^^ (-1))) fun M6 => some (((), M6)) else gfR M 0 l0 5 fun v7 => ldI M v7 l1 fun v8 => stI M v7 l1 (v8 ||| ((1 : Int32) <<< (l2 &&& 31))) fun M9 => gfR M9 0 l0 5 fun v10 => ldI M9 v10 l2 fun v11 => stI M9 v10 l2 (v11 ||| ((1 : Int32) <<< (l1 &&& 31))) fun M12 => some (((), M12))
set_option maxRecDepth 100000 in
set_option maxHeartbeats 4000000 in
theorem sX4_join_0 {x : SB} {F : (Unit × Mm) → Prop} (X : CX x cX4_join RX4 0) (hL : x.2.2.2.1 = 4) (Hr : RTV x cX4_join F (fun q => q)) {l0 : Nat} {l1 : Int32} {l2 : Int32} {l3 : Int32} {M : Mm} (h_l0 : sh l0 = 14) : SIM x F (fX4_join l0 l1 l2 l3 M) 0 [(0, rf x.2.1 l0), (1, .int l1), (2, .int l2), (3, .int l3)] [] M := by
  unfold fX4_join
  refine r_iload_n X dX4_join_0 rfl 3 rfl ?_
  refine r_if_eq 31 X dX4_join_1 (by decide) ?_ ?_
  · refine r_aload_n X dX4_join_31 rfl 0 rfl ?_
    refine r_getR X fl_X4_28 (by decide) h_l0 dX4_join_32 (fun v1 h_v1 => ?_)
    refine r_iload_n X dX4_join_35 rfl 1 rfl ?_
    refine r_dup2 X dX4_join_36 rfl rfl ?_
    refine r_iald X h_v1 dX4_join_37 (fun v2 => ?_)
    refine r_iconst (v := 1) X dX4_join_38 (by decide) ?_
    refine r_iload_n X dX4_join_39 rfl 2 rfl ?_
    refine r_ishl X dX4_join_40 ?_
    refine r_iconst (v := (-1)) X dX4_join_41 (by decide) ?_
    refine r_ixor X dX4_join_42 ?_
    refine r_iand X dX4_join_43 ?_
    refine r_iast X h_v1 dX4_join_44 (fun M3 => ?_)
    refine r_aload_n X dX4_join_45 rfl 0 rfl ?_
    refine r_getR X fl_X4_28 (by decide) h_l0 dX4_join_46 (fun v4 h_v4 => ?_)
    refine r_iload_n X dX4_join_49 rfl 2 rfl ?_
    refine r_dup2 X dX4_join_50 rfl rfl ?_
    refine r_iald X h_v4 dX4_join_51 (fun v5 => ?_)
    refine r_iconst (v := 1) X dX4_join_52 (by decide) ?_
    refine r_iload_n X dX4_join_53 rfl 1 rfl ?_
    refine r_ishl X dX4_join_54 ?_
    refine r_iconst (v := (-1)) X dX4_join_55 (by decide) ?_
    refine r_ixor X dX4_join_56 ?_
    refine r_iand X dX4_join_57 ?_
    refine r_iast X h_v4 dX4_join_58 (fun M6 => ?_)
    exact r_vret Hr dX4_join_59
  · refine r_aload_n X dX4_join_4 rfl 0 rfl ?_
    refine r_getR X fl_X4_28 (by decide) h_l0 dX4_join_5 (fun v7 h_v7 => ?_)
    refine r_iload_n X dX4_join_8 rfl 1 rfl ?_
    refine r_dup2 X dX4_join_9 rfl rfl ?_
    refine r_iald X h_v7 dX4_join_10 (fun v8 => ?_)
    refine r_iconst (v := 1) X dX4_join_11 (by decide) ?_
    refine r_iload_n X dX4_join_12 rfl 2 rfl ?_
    refine r_ishl X dX4_join_13 ?_
    refine r_ior X dX4_join_14 ?_
    refine r_iast X h_v7 dX4_join_15 (fun M9 => ?_)
    refine r_aload_n X dX4_join_16 rfl 0 rfl ?_
    refine r_getR X fl_X4_28 (by decide) h_l0 dX4_join_17 (fun v10 h_v10 => ?_)
    refine r_iload_n X dX4_join_20 rfl 2 rfl ?_
    refine r_dup2 X dX4_join_21 rfl rfl ?_
    refine r_iald X h_v10 dX4_join_22 (fun v11 => ?_)
    refine r_iconst (v := 1) X dX4_join_23 (by decide) ?_
    refine r_iload_n X dX4_join_24 rfl 1 rfl ?_
    refine r_ishl X dX4_join_25 ?_
    refine r_ior X dX4_join_26 ?_
    refine r_iast X h_v10 dX4_join_27 (fun M12 => ?_)
    refine r_goto 59 X dX4_join_28 (by decide) ?_
    exact r_vret Hr dX4_join_59
set_option maxRecDepth 100000 in
set_option maxHeartbeats 4000000 in
theorem okX4_join (l : Launch) (g : GX) (hJ : IJ g) {l0 : Nat} {l1 : Int32} {l2 : Int32} {l3 : Int32} {M : Mm} (h_l0 : sh l0 = 14) : CT l g yX4_join cX4_join 4 none 0 [rf g l0, .int l1, .int l2, .int l3] M (fX4_join l0 l1 l2 l3 M) (fun _ => none) := by
  refine ct_V rfl hJ (Nat.le_of_ble_eq_true rfl) (fun x r hg hL hl X hf Hr => ?_)
  subst hg
  exact fun _ ls H locs hl hP hS => sX4_join_0 X hL Hr h_l0 ⟨_, hf, rfl⟩ ls H locs hl hP hS
/-! CrumbWood$Reader.readPath(LCrumbWood$Wood;)Z -/
set_option maxRecDepth 100000 in
noncomputable def bX0_readPath_56  (M : Mm) : Option (Int32 × Mm) := some ((0, M))
set_option maxRecDepth 100000 in
set_option maxHeartbeats 4000000 in
theorem sX0_readPath_56 {x : SB} {F : (Int32 × Mm) → Prop} (X : CX x cX0_readPath RX0 2) (hL : x.2.2.2.1 = 4) (Hr : RTI x cX0_readPath .boolean F (fun q => q))  {M : Mm}  : SIM x F (bX0_readPath_56  M) 56 [] [] M := by
  unfold bX0_readPath_56
  refine r_iconst (v := 0) X dX0_readPath_56 (by decide) ?_
  exact r_iret Hr rfl dX0_readPath_57
set_option maxRecDepth 100000 in
noncomputable def fX0_readPath (l0 : Nat) (l1 : Nat) (M : Mm) : Option (Int32 × Mm) := gfI M l1 0 fun v1 => cal (fX0_figureBelow l0 v1 M) fun v3 M2 => if v3 = (-9) then some ((0, M2)) else gfI M2 l0 2 fun v4 => pfI M2 l0 2 (v4 + 1) fun M5 => gfI M5 l1 0 fun v6 => cal (fX0_figureBelow l0 v6 M5) fun v8 M7 => if v8 = (-9) then bX0_readPath_56 M7 else if v8 = v3 then bX0_readPath_56 M7 else cal (fX4_isBeside l1 v3 v8 M7) fun v10 M9 => if v10 = 0 then gfI M9 l0 2 fun v11 => pfI M9 l0 2 (v11 + 1) fun M12 => gfI M12 l0 4 fun v13 => pfI M12 l0 4 (v13 + 1) fun M14 => cal (fX4_join l1 v3 v8 1 M14) fun _ M15 => some ((1, M15)) else bX0_readPath_56 M9
set_option maxRecDepth 100000 in
set_option maxHeartbeats 4000000 in
theorem sX0_readPath_0 {x : SB} {F : (Int32 × Mm) → Prop} (X : CX x cX0_readPath RX0 2) (hL : x.2.2.2.1 = 4) (Hr : RTI x cX0_readPath .boolean F (fun q => q)) {l0 : Nat} {l1 : Nat} {M : Mm} (h_l0 : sh l0 = 10) (h_l1 : sh l1 = 14) : SIM x F (fX0_readPath l0 l1 M) 0 [(0, rf x.2.1 l0), (1, rf x.2.1 l1)] [] M := by
  unfold fX0_readPath
  refine r_aload_n X dX0_readPath_0 rfl 0 rfl ?_
  refine r_aload_n X dX0_readPath_1 rfl 1 rfl ?_
  refine r_getI X fl_X0_66 (by decide) h_l1 dX0_readPath_2 (fun v1 => ?_)
  refine r_callVI [.int v1] X mt_X0_80 (by decide) h_l0 (by decide) (okX0_figureBelow _ _ X.J h_l0) rfl (Nat.le_of_ble_eq_true rfl) dX0_readPath_5 rfl (fun v3 M2 => ?_)
  refine r_istore_n [(2, .int v3), (0, rf x.2.1 l0), (1, rf x.2.1 l1)] X dX0_readPath_8 rfl (nlt hL (by decide)) rfl ?_
  refine r_iload_n X dX0_readPath_9 rfl 0 rfl ?_
  refine r_bipush (v := (-9)) X dX0_readPath_10 (by decide) ?_
  refine r_icmp_ne 17 X dX0_readPath_12 (by decide) ?_ ?_
  · refine r_iconst (v := 0) X dX0_readPath_15 (by decide) ?_
    exact r_iret Hr rfl dX0_readPath_16
  · refine r_aload_n X dX0_readPath_17 rfl 1 rfl ?_
    refine r_dup X dX0_readPath_18 rfl ?_
    refine r_getI X fl_X0_19 (by decide) h_l0 dX0_readPath_19 (fun v4 => ?_)
    refine r_iconst (v := 1) X dX0_readPath_22 (by decide) ?_
    refine r_iadd X dX0_readPath_23 ?_
    refine r_putI X fl_X0_19 (by decide) h_l0 (fun _ => rfl) (fun _ => rfl) dX0_readPath_24 (fun M5 => ?_)
    refine r_aload_n X dX0_readPath_27 rfl 1 rfl ?_
    refine r_aload_n X dX0_readPath_28 rfl 2 rfl ?_
    refine r_getI X fl_X0_66 (by decide) h_l1 dX0_readPath_29 (fun v6 => ?_)
    refine r_callVI [.int v6] X mt_X0_80 (by decide) h_l0 (by decide) (okX0_figureBelow _ _ X.J h_l0) rfl (Nat.le_of_ble_eq_true rfl) dX0_readPath_32 rfl (fun v8 M7 => ?_)
    refine r_istore_n [(3, .int v8), (2, .int v3), (0, rf x.2.1 l0), (1, rf x.2.1 l1)] X dX0_readPath_35 rfl (nlt hL (by decide)) rfl ?_
    refine r_iload_n X dX0_readPath_36 rfl 0 rfl ?_
    refine r_bipush (v := (-9)) X dX0_readPath_37 (by decide) ?_
    refine r_icmp_eq 56 X dX0_readPath_39 (by decide) ?_ ?_
    · exact r_to [] [] rfl (sX0_readPath_56 X hL Hr)
    · refine r_iload_n X dX0_readPath_42 rfl 0 rfl ?_
      refine r_iload_n X dX0_readPath_43 rfl 1 rfl ?_
      refine r_icmp_eq 56 X dX0_readPath_44 (by decide) ?_ ?_
      · exact r_to [] [] rfl (sX0_readPath_56 X hL Hr)
      · refine r_aload_n X dX0_readPath_47 rfl 3 rfl ?_
        refine r_iload_n X dX0_readPath_48 rfl 1 rfl ?_
        refine r_iload_n X dX0_readPath_49 rfl 0 rfl ?_
        refine r_callVI [.int v3, .int v8] X mt_X0_83 (by decide) h_l1 (by decide) (okX4_isBeside _ _ X.J h_l1) rfl (Nat.le_of_ble_eq_true rfl) dX0_readPath_50 rfl (fun v10 M9 => ?_)
        refine r_if_eq 58 X dX0_readPath_53 (by decide) ?_ ?_
        · refine r_aload_n X dX0_readPath_58 rfl 2 rfl ?_
          refine r_dup X dX0_readPath_59 rfl ?_
          refine r_getI X fl_X0_19 (by decide) h_l0 dX0_readPath_60 (fun v11 => ?_)
          refine r_iconst (v := 1) X dX0_readPath_63 (by decide) ?_
          refine r_iadd X dX0_readPath_64 ?_
          refine r_putI X fl_X0_19 (by decide) h_l0 (fun _ => rfl) (fun _ => rfl) dX0_readPath_65 (fun M12 => ?_)
          refine r_aload_n X dX0_readPath_68 rfl 2 rfl ?_
          refine r_dup X dX0_readPath_69 rfl ?_
          refine r_getI X fl_X0_25 (by decide) h_l0 dX0_readPath_70 (fun v13 => ?_)
          refine r_iconst (v := 1) X dX0_readPath_73 (by decide) ?_
          refine r_iadd X dX0_readPath_74 ?_
          refine r_putI X fl_X0_25 (by decide) h_l0 (fun _ => rfl) (fun _ => rfl) dX0_readPath_75 (fun M14 => ?_)
          refine r_aload_n X dX0_readPath_78 rfl 3 rfl ?_
          refine r_iload_n X dX0_readPath_79 rfl 1 rfl ?_
          refine r_iload_n X dX0_readPath_80 rfl 0 rfl ?_
          refine r_iconst (v := 1) X dX0_readPath_81 (by decide) ?_
          refine r_callVV [.int v3, .int v8, .int 1] X mt_X0_86 (by decide) h_l1 (by decide) (okX4_join _ _ X.J h_l1) rfl (Nat.le_of_ble_eq_true rfl) dX0_readPath_82 rfl (fun _ M15 => ?_)
          refine r_iconst (v := 1) X dX0_readPath_85 (by decide) ?_
          exact r_iret Hr rfl dX0_readPath_86
        · exact r_to [] [] rfl (sX0_readPath_56 X hL Hr)
set_option maxRecDepth 100000 in
set_option maxHeartbeats 4000000 in
theorem okX0_readPath (l : Launch) (g : GX) (hJ : IJ g) {l0 : Nat} {l1 : Nat} {M : Mm} (h_l0 : sh l0 = 10) (h_l1 : sh l1 = 14) : CT l g yX0_readPath cX0_readPath 4 (some .boolean) 2 [rf g l0, rf g l1] M (fX0_readPath l0 l1 M) (fun r => some (.int r)) := by
  refine ct_I rfl hJ (Nat.le_of_ble_eq_true rfl) (fun x r hg hL hl X hf Hr => ?_)
  subst hg
  exact fun _ ls H locs hl hP hS => sX0_readPath_0 X hL Hr h_l0 h_l1 ⟨_, hf, rfl⟩ ls H locs hl hP hS
/-! CrumbWood$Reader.readPockets(LCrumbWood$Wood;)Z -/
set_option maxRecDepth 100000 in
def pX0_readPockets (x : SB) (q : Nat × Nat × Nat × Int32 × Mm) : Prop := match q.1 with
  | 1 => sh q.2.1 = 10 → sh q.2.2.1 = 14 → ∀ (ls : Array Slot) (H : Heap) (locs : List Loc), lv_has ls x.2.2.2.1 [(0, rf x.2.1 q.2.1), (1, rf x.2.1 q.2.2.1), (2, .int q.2.2.2.1)] → PW x.2.1 (q.2.2.2.2) H → SH x H locs → SW x H locs 2 ls []
  | _ => True
set_option maxRecDepth 100000 in
noncomputable def bX0_readPockets_2 (l0 : Nat) (l1 : Nat) (l2 : Int32) (M : Mm) : Option ((Nat × Nat × Nat × Int32 × Mm) ⊕ Int32 × Mm) := if 3 ≤ l2 then some (.inr (1, M)) else cal (fX0_figureBelow l0 10 M) fun v2 M1 => if v2 = (-9) then some (.inr (0, M1)) else gfI M1 l0 2 fun v3 => pfI M1 l0 2 (v3 + 1) fun M4 => gfR M4 0 l1 9 fun v5 => stI M4 v5 l2 v2 fun M6 => some (.inl (1, l0, l1, (l2 + 1), M6))
set_option maxRecDepth 100000 in
set_option maxHeartbeats 4000000 in
theorem sX0_readPockets_2 {x : SB} {F : ((Nat × Nat × Nat × Int32 × Mm) ⊕ Int32 × Mm) → Prop} (X : CX x cX0_readPockets RX0 2) (hL : x.2.2.2.1 = 4) (Hr : RTI x cX0_readPockets .boolean F Sum.inr) (HH : ∀ q, F (.inl q) → pX0_readPockets x q) {l0 : Nat} {l1 : Nat} {l2 : Int32} {M : Mm} (h_l0 : sh l0 = 10) (h_l1 : sh l1 = 14) : SIM x F (bX0_readPockets_2 l0 l1 l2 M) 2 [(0, rf x.2.1 l0), (1, rf x.2.1 l1), (2, .int l2)] [] M := by
  unfold bX0_readPockets_2
  refine r_iload_n X dX0_readPockets_2 rfl 2 rfl ?_
  refine r_iconst (v := 3) X dX0_readPockets_3 (by decide) ?_
  refine r_icmp_ge 45 X dX0_readPockets_4 (by decide) ?_ ?_
  · refine r_iconst (v := 1) X dX0_readPockets_45 (by decide) ?_
    exact r_iret Hr rfl dX0_readPockets_46
  · refine r_aload_n X dX0_readPockets_7 rfl 0 rfl ?_
    refine r_bipush (v := 10) X dX0_readPockets_8 (by decide) ?_
    refine r_callVI [.int 10] X mt_X0_80 (by decide) h_l0 (by decide) (okX0_figureBelow _ _ X.J h_l0) rfl (Nat.le_of_ble_eq_true rfl) dX0_readPockets_10 rfl (fun v2 M1 => ?_)
    refine r_istore_n [(3, .int v2), (0, rf x.2.1 l0), (1, rf x.2.1 l1), (2, .int l2)] X dX0_readPockets_13 rfl (nlt hL (by decide)) rfl ?_
    refine r_iload_n X dX0_readPockets_14 rfl 0 rfl ?_
    refine r_bipush (v := (-9)) X dX0_readPockets_15 (by decide) ?_
    refine r_icmp_ne 22 X dX0_readPockets_17 (by decide) ?_ ?_
    · refine r_iconst (v := 0) X dX0_readPockets_20 (by decide) ?_
      exact r_iret Hr rfl dX0_readPockets_21
    · refine r_aload_n X dX0_readPockets_22 rfl 1 rfl ?_
      refine r_dup X dX0_readPockets_23 rfl ?_
      refine r_getI X fl_X0_19 (by decide) h_l0 dX0_readPockets_24 (fun v3 => ?_)
      refine r_iconst (v := 1) X dX0_readPockets_27 (by decide) ?_
      refine r_iadd X dX0_readPockets_28 ?_
      refine r_putI X fl_X0_19 (by decide) h_l0 (fun _ => rfl) (fun _ => rfl) dX0_readPockets_29 (fun M4 => ?_)
      refine r_aload_n X dX0_readPockets_32 rfl 2 rfl ?_
      refine r_getR X fl_X0_93 (by decide) h_l1 dX0_readPockets_33 (fun v5 h_v5 => ?_)
      refine r_iload_n X dX0_readPockets_36 rfl 3 rfl ?_
      refine r_iload_n X dX0_readPockets_37 rfl 0 rfl ?_
      refine r_iast X h_v5 dX0_readPockets_38 (fun M6 => ?_)
      refine r_iinc [(2, .int (l2 + 1)), (3, .int v2), (0, rf x.2.1 l0), (1, rf x.2.1 l1)] X dX0_readPockets_39 3 rfl rfl (nlt hL (by decide)) rfl ?_
      refine r_goto 2 X dX0_readPockets_42 (by decide) ?_
      exact r_hdr [(0, rf x.2.1 l0), (1, rf x.2.1 l1), (2, .int (l2 + 1))] [2, 3, 0] rfl (fun h => HH _ h h_l0 h_l1)
set_option maxRecDepth 100000 in
noncomputable def bX0_readPockets_0 (l0 : Nat) (l1 : Nat) (M : Mm) : Option ((Nat × Nat × Nat × Int32 × Mm) ⊕ Int32 × Mm) := some (.inl (1, l0, l1, 0, M))
set_option maxRecDepth 100000 in
set_option maxHeartbeats 4000000 in
theorem sX0_readPockets_0 {x : SB} {F : ((Nat × Nat × Nat × Int32 × Mm) ⊕ Int32 × Mm) → Prop} (X : CX x cX0_readPockets RX0 2) (hL : x.2.2.2.1 = 4) (Hr : RTI x cX0_readPockets .boolean F Sum.inr) (HH : ∀ q, F (.inl q) → pX0_readPockets x q) {l0 : Nat} {l1 : Nat} {M : Mm} (h_l0 : sh l0 = 10) (h_l1 : sh l1 = 14) : SIM x F (bX0_readPockets_0 l0 l1 M) 0 [(0, rf x.2.1 l0), (1, rf x.2.1 l1)] [] M := by
  unfold bX0_readPockets_0
  refine r_iconst (v := 0) X dX0_readPockets_0 (by decide) ?_
  refine r_istore_n [(2, .int 0), (0, rf x.2.1 l0), (1, rf x.2.1 l1)] X dX0_readPockets_1 rfl (nlt hL (by decide)) rfl ?_
  exact r_hdr [(0, rf x.2.1 l0), (1, rf x.2.1 l1), (2, .int 0)] [1, 2, 0] rfl (fun h => HH _ h h_l0 h_l1)
set_option maxRecDepth 100000 in
noncomputable def gX0_readPockets (q : Nat × Nat × Nat × Int32 × Mm) : Option ((Nat × Nat × Nat × Int32 × Mm) ⊕ Int32 × Mm) := match q.1 with
  | 1 => bX0_readPockets_2 (q.2.1) (q.2.2.1) (q.2.2.2.1) (q.2.2.2.2)
  | _ => none
set_option maxRecDepth 100000 in
noncomputable def fX0_readPockets (l0 : Nat) (l1 : Nat) (M : Mm) : Option (Int32 × Mm) := fen gX0_readPockets (bX0_readPockets_0 l0 l1 M)
set_option maxRecDepth 100000 in
set_option maxHeartbeats 4000000 in
theorem okX0_readPockets (l : Launch) (g : GX) (hJ : IJ g) {l0 : Nat} {l1 : Nat} {M : Mm} (h_l0 : sh l0 = 10) (h_l1 : sh l1 = 14) : CT l g yX0_readPockets cX0_readPockets 4 (some .boolean) 2 [rf g l0, rf g l1] M (fX0_readPockets l0 l1 M) (fun r => some (.int r)) := by
  refine ct_I rfl hJ (Nat.le_of_ble_eq_true rfl) (fun x r hg hL hl X hf Hr => ?_)
  subst hg
  have Hr2 : RTI x cX0_readPockets .boolean (Sum.elim (pX0_readPockets x) (fun q => q = r)) Sum.inr := fun v M h => Hr v M h
  have HP : ∀ q, fnl gX0_readPockets q = some r → pX0_readPockets x q := by
    intro q hq
    refine fnl_ind (pX0_readPockets x) (fun q hq => ?_) hq
    obtain ⟨n, l0, l1, l2, M⟩ := q
    match n, hq with
    | 1, hq => exact fun h_l0 h_l1 ls H locs hl hP hS => sX0_readPockets_2 X hL Hr2 (fun _ h => h) h_l0 h_l1 hq ls H locs hl hP hS
    | 0, hq => exact trivial
    | n + 2, hq => exact trivial
  exact fun _ ls H locs hl hP hS => sX0_readPockets_0 X hL Hr2 (fun _ h => h) h_l0 h_l1 (fen_w hf HP) ls H locs hl hP hS
/-! CrumbWood$Reader.startsItem(LCrumbWood$Wood;IZ)Z -/
set_option maxRecDepth 100000 in
noncomputable def bX0_startsItem_20  (M : Mm) : Option (Int32 × Mm) := some ((0, M))
set_option maxRecDepth 100000 in
set_option maxHeartbeats 4000000 in
theorem sX0_startsItem_20 {x : SB} {F : (Int32 × Mm) → Prop} (X : CX x cX0_startsItem RX0 0) (hL : x.2.2.2.1 = 4) (Hr : RTI x cX0_startsItem .boolean F (fun q => q))  {M : Mm}  : SIM x F (bX0_startsItem_20  M) 20 [] [] M := by
  unfold bX0_startsItem_20
  refine r_iconst (v := 0) X dX0_startsItem_20 (by decide) ?_
  exact r_iret Hr rfl dX0_startsItem_21
set_option maxRecDepth 100000 in
noncomputable def fX0_startsItem (l0 : Nat) (l1 : Nat) (l2 : Int32) (l3 : Int32) (M : Mm) : Option (Int32 × Mm) := gfI M l1 0 fun v1 => if v1 < 2 then bX0_startsItem_20 M else gfI M l0 3 fun v2 => if l2 < v2 then bX0_startsItem_20 M else if l3 = 0 then bX0_startsItem_20 M else pfI M l0 3 l2 fun M3 => gfI M3 l0 2 fun v4 => pfI M3 l0 2 (v4 + 1) fun M5 => some ((1, M5))
set_option maxRecDepth 100000 in
set_option maxHeartbeats 4000000 in
theorem sX0_startsItem_0 {x : SB} {F : (Int32 × Mm) → Prop} (X : CX x cX0_startsItem RX0 0) (hL : x.2.2.2.1 = 4) (Hr : RTI x cX0_startsItem .boolean F (fun q => q)) {l0 : Nat} {l1 : Nat} {l2 : Int32} {l3 : Int32} {M : Mm} (h_l0 : sh l0 = 10) (h_l1 : sh l1 = 14) : SIM x F (fX0_startsItem l0 l1 l2 l3 M) 0 [(0, rf x.2.1 l0), (1, rf x.2.1 l1), (2, .int l2), (3, .int l3)] [] M := by
  unfold fX0_startsItem
  refine r_aload_n X dX0_startsItem_0 rfl 1 rfl ?_
  refine r_getI X fl_X0_66 (by decide) h_l1 dX0_startsItem_1 (fun v1 => ?_)
  refine r_iconst (v := 2) X dX0_startsItem_4 (by decide) ?_
  refine r_icmp_lt 20 X dX0_startsItem_5 (by decide) ?_ ?_
  · exact r_to [] [] rfl (sX0_startsItem_20 X hL Hr)
  · refine r_aload_n X dX0_startsItem_8 rfl 0 rfl ?_
    refine r_getI X fl_X0_22 (by decide) h_l0 dX0_startsItem_9 (fun v2 => ?_)
    refine r_iload_n X dX0_startsItem_12 rfl 2 rfl ?_
    refine r_icmp_gt 20 X dX0_startsItem_13 (by decide) ?_ ?_
    · exact r_to [] [] rfl (sX0_startsItem_20 X hL Hr)
    · refine r_iload_n X dX0_startsItem_16 rfl 3 rfl ?_
      refine r_if_ne 22 X dX0_startsItem_17 (by decide) ?_ ?_
      · exact r_to [] [] rfl (sX0_startsItem_20 X hL Hr)
      · refine r_aload_n X dX0_startsItem_22 rfl 0 rfl ?_
        refine r_iload_n X dX0_startsItem_23 rfl 2 rfl ?_
        refine r_putI X fl_X0_22 (by decide) h_l0 (fun _ => rfl) (fun _ => rfl) dX0_startsItem_24 (fun M3 => ?_)
        refine r_aload_n X dX0_startsItem_27 rfl 0 rfl ?_
        refine r_dup X dX0_startsItem_28 rfl ?_
        refine r_getI X fl_X0_19 (by decide) h_l0 dX0_startsItem_29 (fun v4 => ?_)
        refine r_iconst (v := 1) X dX0_startsItem_32 (by decide) ?_
        refine r_iadd X dX0_startsItem_33 ?_
        refine r_putI X fl_X0_19 (by decide) h_l0 (fun _ => rfl) (fun _ => rfl) dX0_startsItem_34 (fun M5 => ?_)
        refine r_iconst (v := 1) X dX0_startsItem_37 (by decide) ?_
        exact r_iret Hr rfl dX0_startsItem_38
set_option maxRecDepth 100000 in
set_option maxHeartbeats 4000000 in
theorem okX0_startsItem (l : Launch) (g : GX) (hJ : IJ g) {l0 : Nat} {l1 : Nat} {l2 : Int32} {l3 : Int32} {M : Mm} (h_l0 : sh l0 = 10) (h_l1 : sh l1 = 14) : CT l g yX0_startsItem cX0_startsItem 4 (some .boolean) 0 [rf g l0, rf g l1, .int l2, .int l3] M (fX0_startsItem l0 l1 l2 l3 M) (fun r => some (.int r)) := by
  refine ct_I rfl hJ (Nat.le_of_ble_eq_true rfl) (fun x r hg hL hl X hf Hr => ?_)
  subst hg
  exact fun _ ls H locs hl hP hS => sX0_startsItem_0 X hL Hr h_l0 h_l1 ⟨_, hf, rfl⟩ ls H locs hl hP hS
/-! CrumbWood$Wood.addPlace(I)V -/
set_option maxRecDepth 100000 in
def pX4_addPlace (x : SB) (q : Nat × Nat × Int32 × Int32 × Int32 × Mm) : Prop := match q.1 with
  | 1 => sh q.2.1 = 14 → ∀ (ls : Array Slot) (H : Heap) (locs : List Loc), lv_has ls x.2.2.2.1 [(0, rf x.2.1 q.2.1), (1, .int q.2.2.1), (2, .int q.2.2.2.1), (3, .int q.2.2.2.2.1)] → PW x.2.1 (q.2.2.2.2.2) H → SH x H locs → SW x H locs 38 ls []
  | _ => True
set_option maxRecDepth 100000 in
noncomputable def bX4_addPlace_38 (l0 : Nat) (l1 : Int32) (l2 : Int32) (l3 : Int32) (M : Mm) : Option ((Nat × Nat × Int32 × Int32 × Int32 × Mm) ⊕ Unit × Mm) := if 3 ≤ l3 then gfR M 0 l0 4 fun v1 => ldI M v1 l1 fun v2 => stI M v1 l1 (v2 ||| ((1 : Int32) <<< (l2 &&& 31))) fun M3 => gfR M3 0 l0 4 fun v4 => ldS par1 6 l1 fun v5 => ldI M3 v4 v5 fun v6 => stI M3 v4 v5 (v6 ||| ((1 : Int32) <<< (l2 &&& 31))) fun M7 => gfR M7 0 l0 4 fun v8 => ldI M7 v8 0 fun v9 => stI M7 v8 0 (v9 ||| ((1 : Int32) <<< (l2 &&& 31))) fun M10 => some (.inr ((), M10)) else gfR M 5 l0 6 fun v11 => ldR M 0 v11 l3 fun v12 => stI M v12 l2 0 fun M13 => some (.inl (1, l0, l1, l2, (l3 + 1), M13))
set_option maxRecDepth 100000 in
set_option maxHeartbeats 4000000 in
theorem sX4_addPlace_38 {x : SB} {F : ((Nat × Nat × Int32 × Int32 × Int32 × Mm) ⊕ Unit × Mm) → Prop} (X : CX x cX4_addPlace RX4 0) (hL : x.2.2.2.1 = 4) (Hr : RTV x cX4_addPlace F Sum.inr) (HH : ∀ q, F (.inl q) → pX4_addPlace x q) {l0 : Nat} {l1 : Int32} {l2 : Int32} {l3 : Int32} {M : Mm} (h_l0 : sh l0 = 14) : SIM x F (bX4_addPlace_38 l0 l1 l2 l3 M) 38 [(0, rf x.2.1 l0), (1, .int l1), (2, .int l2), (3, .int l3)] [] M := by
  unfold bX4_addPlace_38
  refine r_iload_n X dX4_addPlace_38 rfl 3 rfl ?_
  refine r_iconst (v := 3) X dX4_addPlace_39 (by decide) ?_
  refine r_icmp_ge 58 X dX4_addPlace_40 (by decide) ?_ ?_
  · refine r_aload_n X dX4_addPlace_58 rfl 0 rfl ?_
    refine r_getR X fl_X4_25 (by decide) h_l0 dX4_addPlace_59 (fun v1 h_v1 => ?_)
    refine r_iload_n X dX4_addPlace_62 rfl 1 rfl ?_
    refine r_dup2 X dX4_addPlace_63 rfl rfl ?_
    refine r_iald X h_v1 dX4_addPlace_64 (fun v2 => ?_)
    refine r_iconst (v := 1) X dX4_addPlace_65 (by decide) ?_
    refine r_iload_n X dX4_addPlace_66 rfl 2 rfl ?_
    refine r_ishl X dX4_addPlace_67 ?_
    refine r_ior X dX4_addPlace_68 ?_
    refine r_iast X h_v1 dX4_addPlace_69 (fun M3 => ?_)
    refine r_aload_n X dX4_addPlace_70 rfl 0 rfl ?_
    refine r_getR X fl_X4_25 (by decide) h_l0 dX4_addPlace_71 (fun v4 h_v4 => ?_)
    refine r_gets1 X k_406 dX4_addPlace_74 ?_
    refine r_iload_n X dX4_addPlace_77 rfl 1 rfl ?_
    refine r_ilds1 X dX4_addPlace_78 (fun v5 => ?_)
    refine r_dup2 X dX4_addPlace_79 rfl rfl ?_
    refine r_iald X h_v4 dX4_addPlace_80 (fun v6 => ?_)
    refine r_iconst (v := 1) X dX4_addPlace_81 (by decide) ?_
    refine r_iload_n X dX4_addPlace_82 rfl 2 rfl ?_
    refine r_ishl X dX4_addPlace_83 ?_
    refine r_ior X dX4_addPlace_84 ?_
    refine r_iast X h_v4 dX4_addPlace_85 (fun M7 => ?_)
    refine r_aload_n X dX4_addPlace_86 rfl 0 rfl ?_
    refine r_getR X fl_X4_25 (by decide) h_l0 dX4_addPlace_87 (fun v8 h_v8 => ?_)
    refine r_iconst (v := 0) X dX4_addPlace_90 (by decide) ?_
    refine r_dup2 X dX4_addPlace_91 rfl rfl ?_
    refine r_iald X h_v8 dX4_addPlace_92 (fun v9 => ?_)
    refine r_iconst (v := 1) X dX4_addPlace_93 (by decide) ?_
    refine r_iload_n X dX4_addPlace_94 rfl 2 rfl ?_
    refine r_ishl X dX4_addPlace_95 ?_
    refine r_ior X dX4_addPlace_96 ?_
    refine r_iast X h_v8 dX4_addPlace_97 (fun M10 => ?_)
    exact r_vret Hr dX4_addPlace_98
  · refine r_aload_n X dX4_addPlace_43 rfl 0 rfl ?_
    refine r_getR X fl_X4_33 (by decide) h_l0 dX4_addPlace_44 (fun v11 h_v11 => ?_)
    refine r_iload_n X dX4_addPlace_47 rfl 3 rfl ?_
    refine r_aldA X h_v11 dX4_addPlace_48 (fun v12 h_v12 => ?_)
    refine r_iload_n X dX4_addPlace_49 rfl 2 rfl ?_
    refine r_iconst (v := 0) X dX4_addPlace_50 (by decide) ?_
    refine r_iast X h_v12 dX4_addPlace_51 (fun M13 => ?_)
    refine r_iinc [(3, .int (l3 + 1)), (0, rf x.2.1 l0), (1, .int l1), (2, .int l2)] X dX4_addPlace_52 3 rfl rfl (nlt hL (by decide)) rfl ?_
    refine r_goto 38 X dX4_addPlace_55 (by decide) ?_
    exact r_hdr [(0, rf x.2.1 l0), (1, .int l1), (2, .int l2), (3, .int (l3 + 1))] [1, 2, 3, 0] rfl (fun h => HH _ h h_l0)
set_option maxRecDepth 100000 in
noncomputable def bX4_addPlace_0 (l0 : Nat) (l1 : Int32) (M : Mm) : Option ((Nat × Nat × Int32 × Int32 × Int32 × Mm) ⊕ Unit × Mm) := gfI M l0 0 fun v14 => gfI M l0 0 fun v15 => pfI M l0 0 (v15 + 1) fun M16 => gfR M16 0 l0 3 fun v17 => stI M16 v17 v14 l1 fun M18 => gfR M18 0 l0 5 fun v19 => stI M18 v19 v14 0 fun M20 => gfR M20 0 l0 7 fun v21 => stI M20 v21 v14 0 fun M22 => some (.inl (1, l0, l1, v14, 0, M22))
set_option maxRecDepth 100000 in
set_option maxHeartbeats 4000000 in
theorem sX4_addPlace_0 {x : SB} {F : ((Nat × Nat × Int32 × Int32 × Int32 × Mm) ⊕ Unit × Mm) → Prop} (X : CX x cX4_addPlace RX4 0) (hL : x.2.2.2.1 = 4) (Hr : RTV x cX4_addPlace F Sum.inr) (HH : ∀ q, F (.inl q) → pX4_addPlace x q) {l0 : Nat} {l1 : Int32} {M : Mm} (h_l0 : sh l0 = 14) : SIM x F (bX4_addPlace_0 l0 l1 M) 0 [(0, rf x.2.1 l0), (1, .int l1)] [] M := by
  unfold bX4_addPlace_0
  refine r_aload_n X dX4_addPlace_0 rfl 0 rfl ?_
  refine r_getI X fl_X4_9 (by decide) h_l0 dX4_addPlace_1 (fun v14 => ?_)
  refine r_istore_n [(2, .int v14), (0, rf x.2.1 l0), (1, .int l1)] X dX4_addPlace_4 rfl (nlt hL (by decide)) rfl ?_
  refine r_aload_n X dX4_addPlace_5 rfl 1 rfl ?_
  refine r_dup X dX4_addPlace_6 rfl ?_
  refine r_getI X fl_X4_9 (by decide) h_l0 dX4_addPlace_7 (fun v15 => ?_)
  refine r_iconst (v := 1) X dX4_addPlace_10 (by decide) ?_
  refine r_iadd X dX4_addPlace_11 ?_
  refine r_putI X fl_X4_9 (by decide) h_l0 (fun _ => rfl) (fun _ => rfl) dX4_addPlace_12 (fun M16 => ?_)
  refine r_aload_n X dX4_addPlace_15 rfl 1 rfl ?_
  refine r_getR X fl_X4_21 (by decide) h_l0 dX4_addPlace_16 (fun v17 h_v17 => ?_)
  refine r_iload_n X dX4_addPlace_19 rfl 0 rfl ?_
  refine r_iload_n X dX4_addPlace_20 rfl 2 rfl ?_
  refine r_iast X h_v17 dX4_addPlace_21 (fun M18 => ?_)
  refine r_aload_n X dX4_addPlace_22 rfl 1 rfl ?_
  refine r_getR X fl_X4_28 (by decide) h_l0 dX4_addPlace_23 (fun v19 h_v19 => ?_)
  refine r_iload_n X dX4_addPlace_26 rfl 0 rfl ?_
  refine r_iconst (v := 0) X dX4_addPlace_27 (by decide) ?_
  refine r_iast X h_v19 dX4_addPlace_28 (fun M20 => ?_)
  refine r_aload_n X dX4_addPlace_29 rfl 1 rfl ?_
  refine r_getR X fl_X4_36 (by decide) h_l0 dX4_addPlace_30 (fun v21 h_v21 => ?_)
  refine r_iload_n X dX4_addPlace_33 rfl 0 rfl ?_
  refine r_iconst (v := 0) X dX4_addPlace_34 (by decide) ?_
  refine r_iast X h_v21 dX4_addPlace_35 (fun M22 => ?_)
  refine r_iconst (v := 0) X dX4_addPlace_36 (by decide) ?_
  refine r_istore_n [(3, .int 0), (2, .int v14), (0, rf x.2.1 l0), (1, .int l1)] X dX4_addPlace_37 rfl (nlt hL (by decide)) rfl ?_
  exact r_hdr [(0, rf x.2.1 l0), (1, .int l1), (2, .int v14), (3, .int 0)] [2, 3, 1, 0] rfl (fun h => HH _ h h_l0)
set_option maxRecDepth 100000 in
noncomputable def gX4_addPlace (q : Nat × Nat × Int32 × Int32 × Int32 × Mm) : Option ((Nat × Nat × Int32 × Int32 × Int32 × Mm) ⊕ Unit × Mm) := match q.1 with
  | 1 => bX4_addPlace_38 (q.2.1) (q.2.2.1) (q.2.2.2.1) (q.2.2.2.2.1) (q.2.2.2.2.2)
  | _ => none
set_option maxRecDepth 100000 in
noncomputable def fX4_addPlace (l0 : Nat) (l1 : Int32) (M : Mm) : Option (Unit × Mm) := fen gX4_addPlace (bX4_addPlace_0 l0 l1 M)
set_option maxRecDepth 100000 in
set_option maxHeartbeats 4000000 in
theorem okX4_addPlace (l : Launch) (g : GX) (hJ : IJ g) {l0 : Nat} {l1 : Int32} {M : Mm} (h_l0 : sh l0 = 14) : CT l g yX4_addPlace cX4_addPlace 4 none 0 [rf g l0, .int l1] M (fX4_addPlace l0 l1 M) (fun _ => none) := by
  refine ct_V rfl hJ (Nat.le_of_ble_eq_true rfl) (fun x r hg hL hl X hf Hr => ?_)
  subst hg
  have Hr2 : RTV x cX4_addPlace (Sum.elim (pX4_addPlace x) (fun q => q = r)) Sum.inr := fun M h => Hr M h
  have HP : ∀ q, fnl gX4_addPlace q = some r → pX4_addPlace x q := by
    intro q hq
    refine fnl_ind (pX4_addPlace x) (fun q hq => ?_) hq
    obtain ⟨n, l0, l1, l2, l3, M⟩ := q
    match n, hq with
    | 1, hq => exact fun h_l0 ls H locs hl hP hS => sX4_addPlace_38 X hL Hr2 (fun _ h => h) h_l0 hq ls H locs hl hP hS
    | 0, hq => exact trivial
    | n + 2, hq => exact trivial
  exact fun _ ls H locs hl hP hS => sX4_addPlace_0 X hL Hr2 (fun _ h => h) h_l0 (fen_w hf HP) ls H locs hl hP hS
/-! CrumbWood$Reader.readItem(LCrumbWood$Wood;)Z -/
set_option maxRecDepth 100000 in
noncomputable def bX0_readItem_164  (M : Mm) : Option (Int32 × Mm) := some ((0, M))
set_option maxRecDepth 100000 in
set_option maxHeartbeats 4000000 in
theorem sX0_readItem_164 {x : SB} {F : (Int32 × Mm) → Prop} (X : CX x cX0_readItem RX0 3) (hL : x.2.2.2.1 = 4) (Hr : RTI x cX0_readItem .boolean F (fun q => q))  {M : Mm}  : SIM x F (bX0_readItem_164  M) 164 [] [] M := by
  unfold bX0_readItem_164
  refine r_iconst (v := 0) X dX0_readItem_164 (by decide) ?_
  exact r_iret Hr rfl dX0_readItem_165
set_option maxRecDepth 100000 in
noncomputable def bX0_readItem_135  (M : Mm) : Option (Int32 × Mm) := some ((0, M))
set_option maxRecDepth 100000 in
set_option maxHeartbeats 4000000 in
theorem sX0_readItem_135 {x : SB} {F : (Int32 × Mm) → Prop} (X : CX x cX0_readItem RX0 3) (hL : x.2.2.2.1 = 4) (Hr : RTI x cX0_readItem .boolean F (fun q => q))  {M : Mm}  : SIM x F (bX0_readItem_135  M) 135 [] [] M := by
  unfold bX0_readItem_135
  refine r_iconst (v := 0) X dX0_readItem_135 (by decide) ?_
  exact r_iret Hr rfl dX0_readItem_136
set_option maxRecDepth 100000 in
noncomputable def bX0_readItem_117 (l0 : Nat) (l1 : Nat) (s0 : Int32) (s1 : Int32) (s2 : Nat) (s3 : Nat) (M : Mm) : Option (Int32 × Mm) := cal (fX0_startsItem s3 s2 s1 s0 M) fun v2 M1 => if v2 = 0 then bX0_readItem_135 M1 else cal (fX0_readPockets l0 l1 M1) fun v4 M3 => if v4 = 0 then bX0_readItem_135 M3 else some ((1, M3))
set_option maxRecDepth 100000 in
set_option maxHeartbeats 4000000 in
theorem sX0_readItem_117 {x : SB} {F : (Int32 × Mm) → Prop} (X : CX x cX0_readItem RX0 3) (hL : x.2.2.2.1 = 4) (Hr : RTI x cX0_readItem .boolean F (fun q => q)) {l0 : Nat} {l1 : Nat} {s0 : Int32} {s1 : Int32} {s2 : Nat} {s3 : Nat} {M : Mm} (h_l0 : sh l0 = 10) (h_l1 : sh l1 = 14) (h_s2 : sh s2 = 14) (h_s3 : sh s3 = 10) : SIM x F (bX0_readItem_117 l0 l1 s0 s1 s2 s3 M) 117 [(0, rf x.2.1 l0), (1, rf x.2.1 l1)] [.int s0, .int s1, rf x.2.1 s2, rf x.2.1 s3] M := by
  unfold bX0_readItem_117
  refine r_callVI [rf x.2.1 s2, .int s1, .int s0] X mt_X0_46 (by decide) h_s3 (by decide) (okX0_startsItem _ _ X.J h_s3 h_s2) rfl (Nat.le_of_ble_eq_true rfl) dX0_readItem_117 rfl (fun v2 M1 => ?_)
  refine r_if_eq 135 X dX0_readItem_120 (by decide) ?_ ?_
  · exact r_to [] [] rfl (sX0_readItem_135 X hL Hr)
  · refine r_aload_n X dX0_readItem_123 rfl 0 rfl ?_
    refine r_aload_n X dX0_readItem_124 rfl 1 rfl ?_
    refine r_callVI [rf x.2.1 l1] X mt_X0_59 (by decide) h_l0 (by decide) (okX0_readPockets _ _ X.J h_l0 h_l1) rfl (Nat.le_of_ble_eq_true rfl) dX0_readItem_125 rfl (fun v4 M3 => ?_)
    refine r_if_eq 135 X dX0_readItem_128 (by decide) ?_ ?_
    · exact r_to [] [] rfl (sX0_readItem_135 X hL Hr)
    · refine r_iconst (v := 1) X dX0_readItem_131 (by decide) ?_
      refine r_goto 136 X dX0_readItem_132 (by decide) ?_
      exact r_iret Hr rfl dX0_readItem_136
set_option maxRecDepth 100000 in
noncomputable def bX0_readItem_93  (M : Mm) : Option (Int32 × Mm) := some ((0, M))
set_option maxRecDepth 100000 in
set_option maxHeartbeats 4000000 in
theorem sX0_readItem_93 {x : SB} {F : (Int32 × Mm) → Prop} (X : CX x cX0_readItem RX0 3) (hL : x.2.2.2.1 = 4) (Hr : RTI x cX0_readItem .boolean F (fun q => q))  {M : Mm}  : SIM x F (bX0_readItem_93  M) 93 [] [] M := by
  unfold bX0_readItem_93
  refine r_iconst (v := 0) X dX0_readItem_93 (by decide) ?_
  exact r_iret Hr rfl dX0_readItem_94
set_option maxRecDepth 100000 in
noncomputable def bX0_readItem_75 (l0 : Nat) (l1 : Nat) (s0 : Int32) (s1 : Int32) (s2 : Nat) (s3 : Nat) (M : Mm) : Option (Int32 × Mm) := cal (fX0_startsItem s3 s2 s1 s0 M) fun v6 M5 => if v6 = 0 then bX0_readItem_93 M5 else cal (fX0_readBird l0 l1 M5) fun v8 M7 => if v8 = 0 then bX0_readItem_93 M7 else some ((1, M7))
set_option maxRecDepth 100000 in
set_option maxHeartbeats 4000000 in
theorem sX0_readItem_75 {x : SB} {F : (Int32 × Mm) → Prop} (X : CX x cX0_readItem RX0 3) (hL : x.2.2.2.1 = 4) (Hr : RTI x cX0_readItem .boolean F (fun q => q)) {l0 : Nat} {l1 : Nat} {s0 : Int32} {s1 : Int32} {s2 : Nat} {s3 : Nat} {M : Mm} (h_l0 : sh l0 = 10) (h_l1 : sh l1 = 14) (h_s2 : sh s2 = 14) (h_s3 : sh s3 = 10) : SIM x F (bX0_readItem_75 l0 l1 s0 s1 s2 s3 M) 75 [(0, rf x.2.1 l0), (1, rf x.2.1 l1)] [.int s0, .int s1, rf x.2.1 s2, rf x.2.1 s3] M := by
  unfold bX0_readItem_75
  refine r_callVI [rf x.2.1 s2, .int s1, .int s0] X mt_X0_46 (by decide) h_s3 (by decide) (okX0_startsItem _ _ X.J h_s3 h_s2) rfl (Nat.le_of_ble_eq_true rfl) dX0_readItem_75 rfl (fun v6 M5 => ?_)
  refine r_if_eq 93 X dX0_readItem_78 (by decide) ?_ ?_
  · exact r_to [] [] rfl (sX0_readItem_93 X hL Hr)
  · refine r_aload_n X dX0_readItem_81 rfl 0 rfl ?_
    refine r_aload_n X dX0_readItem_82 rfl 1 rfl ?_
    refine r_callVI [rf x.2.1 l1] X mt_X0_56 (by decide) h_l0 (by decide) (okX0_readBird _ _ X.J h_l0 h_l1) rfl (Nat.le_of_ble_eq_true rfl) dX0_readItem_83 rfl (fun v8 M7 => ?_)
    refine r_if_eq 93 X dX0_readItem_86 (by decide) ?_ ?_
    · exact r_to [] [] rfl (sX0_readItem_93 X hL Hr)
    · refine r_iconst (v := 1) X dX0_readItem_89 (by decide) ?_
      refine r_goto 94 X dX0_readItem_90 (by decide) ?_
      exact r_iret Hr rfl dX0_readItem_94
set_option maxRecDepth 100000 in
noncomputable def bX0_readItem_51  (M : Mm) : Option (Int32 × Mm) := some ((0, M))
set_option maxRecDepth 100000 in
set_option maxHeartbeats 4000000 in
theorem sX0_readItem_51 {x : SB} {F : (Int32 × Mm) → Prop} (X : CX x cX0_readItem RX0 3) (hL : x.2.2.2.1 = 4) (Hr : RTI x cX0_readItem .boolean F (fun q => q))  {M : Mm}  : SIM x F (bX0_readItem_51  M) 51 [] [] M := by
  unfold bX0_readItem_51
  refine r_iconst (v := 0) X dX0_readItem_51 (by decide) ?_
  exact r_iret Hr rfl dX0_readItem_52
set_option maxRecDepth 100000 in
noncomputable def bX0_readItem_33 (l0 : Nat) (l1 : Nat) (s0 : Int32) (s1 : Int32) (s2 : Nat) (s3 : Nat) (M : Mm) : Option (Int32 × Mm) := cal (fX0_startsItem s3 s2 s1 s0 M) fun v10 M9 => if v10 = 0 then bX0_readItem_51 M9 else cal (fX0_readPath l0 l1 M9) fun v12 M11 => if v12 = 0 then bX0_readItem_51 M11 else some ((1, M11))
set_option maxRecDepth 100000 in
set_option maxHeartbeats 4000000 in
theorem sX0_readItem_33 {x : SB} {F : (Int32 × Mm) → Prop} (X : CX x cX0_readItem RX0 3) (hL : x.2.2.2.1 = 4) (Hr : RTI x cX0_readItem .boolean F (fun q => q)) {l0 : Nat} {l1 : Nat} {s0 : Int32} {s1 : Int32} {s2 : Nat} {s3 : Nat} {M : Mm} (h_l0 : sh l0 = 10) (h_l1 : sh l1 = 14) (h_s2 : sh s2 = 14) (h_s3 : sh s3 = 10) : SIM x F (bX0_readItem_33 l0 l1 s0 s1 s2 s3 M) 33 [(0, rf x.2.1 l0), (1, rf x.2.1 l1)] [.int s0, .int s1, rf x.2.1 s2, rf x.2.1 s3] M := by
  unfold bX0_readItem_33
  refine r_callVI [rf x.2.1 s2, .int s1, .int s0] X mt_X0_46 (by decide) h_s3 (by decide) (okX0_startsItem _ _ X.J h_s3 h_s2) rfl (Nat.le_of_ble_eq_true rfl) dX0_readItem_33 rfl (fun v10 M9 => ?_)
  refine r_if_eq 51 X dX0_readItem_36 (by decide) ?_ ?_
  · exact r_to [] [] rfl (sX0_readItem_51 X hL Hr)
  · refine r_aload_n X dX0_readItem_39 rfl 0 rfl ?_
    refine r_aload_n X dX0_readItem_40 rfl 1 rfl ?_
    refine r_callVI [rf x.2.1 l1] X mt_X0_50 (by decide) h_l0 (by decide) (okX0_readPath _ _ X.J h_l0 h_l1) rfl (Nat.le_of_ble_eq_true rfl) dX0_readItem_41 rfl (fun v12 M11 => ?_)
    refine r_if_eq 51 X dX0_readItem_44 (by decide) ?_ ?_
    · exact r_to [] [] rfl (sX0_readItem_51 X hL Hr)
    · refine r_iconst (v := 1) X dX0_readItem_47 (by decide) ?_
      refine r_goto 52 X dX0_readItem_48 (by decide) ?_
      exact r_iret Hr rfl dX0_readItem_52
set_option maxRecDepth 100000 in
noncomputable def fX0_readItem (l0 : Nat) (l1 : Nat) (M : Mm) : Option (Int32 × Mm) := gfR M 0 l0 0 fun v13 => gfI M l0 2 fun v14 => ldI M v13 v14 fun v15 => if v15 = 45 then gfI M l0 4 fun v25 => if 14 ≤ v25 then bX0_readItem_33 l0 l1 0 1 l1 l0 M else bX0_readItem_33 l0 l1 1 1 l1 l0 M else if v15 = 118 then gfI M l1 1 fun v24 => if 4 ≤ v24 then bX0_readItem_75 l0 l1 0 2 l1 l0 M else bX0_readItem_75 l0 l1 1 2 l1 l0 M else if v15 = 107 then gfI M l0 3 fun v23 => if v23 = 3 then bX0_readItem_117 l0 l1 0 3 l1 l0 M else bX0_readItem_117 l0 l1 1 3 l1 l0 M else cal (fX0_kindOf v15 M) fun v17 M16 => if v17 = (-9) then bX0_readItem_164 M16 else gfI M16 l0 3 fun v18 => if v18 = 0 then gfI M16 l1 0 fun v19 => if v19 < 8 then cal (fX4_addPlace l1 v17 M16) fun _ M20 => gfI M20 l0 2 fun v21 => pfI M20 l0 2 (v21 + 1) fun M22 => some ((1, M22)) else bX0_readItem_164 M16 else bX0_readItem_164 M16
set_option maxRecDepth 100000 in
set_option maxHeartbeats 4000000 in
theorem sX0_readItem_0 {x : SB} {F : (Int32 × Mm) → Prop} (X : CX x cX0_readItem RX0 3) (hL : x.2.2.2.1 = 4) (Hr : RTI x cX0_readItem .boolean F (fun q => q)) {l0 : Nat} {l1 : Nat} {M : Mm} (h_l0 : sh l0 = 10) (h_l1 : sh l1 = 14) : SIM x F (fX0_readItem l0 l1 M) 0 [(0, rf x.2.1 l0), (1, rf x.2.1 l1)] [] M := by
  unfold fX0_readItem
  refine r_aload_n X dX0_readItem_0 rfl 0 rfl ?_
  refine r_getR X fl_X0_9 (by decide) h_l0 dX0_readItem_1 (fun v13 h_v13 => ?_)
  refine r_aload_n X dX0_readItem_4 rfl 0 rfl ?_
  refine r_getI X fl_X0_19 (by decide) h_l0 dX0_readItem_5 (fun v14 => ?_)
  refine r_iald X h_v13 dX0_readItem_8 (fun v15 => ?_)
  refine r_istore_n [(2, .int v15), (0, rf x.2.1 l0), (1, rf x.2.1 l1)] X dX0_readItem_9 rfl (nlt hL (by decide)) rfl ?_
  refine r_iload_n X dX0_readItem_10 rfl 0 rfl ?_
  refine r_bipush (v := 45) X dX0_readItem_11 (by decide) ?_
  refine r_icmp_ne 53 X dX0_readItem_13 (by decide) ?_ ?_
  · refine r_aload_n X dX0_readItem_16 rfl 1 rfl ?_
    refine r_aload_n X dX0_readItem_17 rfl 2 rfl ?_
    refine r_iconst (v := 1) X dX0_readItem_18 (by decide) ?_
    refine r_aload_n X dX0_readItem_19 rfl 1 rfl ?_
    refine r_getI X fl_X0_25 (by decide) h_l0 dX0_readItem_20 (fun v25 => ?_)
    refine r_bipush (v := 14) X dX0_readItem_23 (by decide) ?_
    refine r_icmp_ge 32 X dX0_readItem_25 (by decide) ?_ ?_
    · refine r_iconst (v := 0) X dX0_readItem_32 (by decide) ?_
      exact r_to [(0, rf x.2.1 l0), (1, rf x.2.1 l1)] [1, 2] rfl (sX0_readItem_33 X hL Hr h_l0 h_l1 h_l1 h_l0)
    · refine r_iconst (v := 1) X dX0_readItem_28 (by decide) ?_
      refine r_goto 33 X dX0_readItem_29 (by decide) ?_
      exact r_to [(0, rf x.2.1 l0), (1, rf x.2.1 l1)] [1, 2] rfl (sX0_readItem_33 X hL Hr h_l0 h_l1 h_l1 h_l0)
  · refine r_iload_n X dX0_readItem_53 rfl 0 rfl ?_
    refine r_bipush (v := 118) X dX0_readItem_54 (by decide) ?_
    refine r_icmp_ne 95 X dX0_readItem_56 (by decide) ?_ ?_
    · refine r_aload_n X dX0_readItem_59 rfl 1 rfl ?_
      refine r_aload_n X dX0_readItem_60 rfl 2 rfl ?_
      refine r_iconst (v := 2) X dX0_readItem_61 (by decide) ?_
      refine r_aload_n X dX0_readItem_62 rfl 2 rfl ?_
      refine r_getI X fl_X0_53 (by decide) h_l1 dX0_readItem_63 (fun v24 => ?_)
      refine r_iconst (v := 4) X dX0_readItem_66 (by decide) ?_
      refine r_icmp_ge 74 X dX0_readItem_67 (by decide) ?_ ?_
      · refine r_iconst (v := 0) X dX0_readItem_74 (by decide) ?_
        exact r_to [(0, rf x.2.1 l0), (1, rf x.2.1 l1)] [1, 2] rfl (sX0_readItem_75 X hL Hr h_l0 h_l1 h_l1 h_l0)
      · refine r_iconst (v := 1) X dX0_readItem_70 (by decide) ?_
        refine r_goto 75 X dX0_readItem_71 (by decide) ?_
        exact r_to [(0, rf x.2.1 l0), (1, rf x.2.1 l1)] [1, 2] rfl (sX0_readItem_75 X hL Hr h_l0 h_l1 h_l1 h_l0)
    · refine r_iload_n X dX0_readItem_95 rfl 0 rfl ?_
      refine r_bipush (v := 107) X dX0_readItem_96 (by decide) ?_
      refine r_icmp_ne 137 X dX0_readItem_98 (by decide) ?_ ?_
      · refine r_aload_n X dX0_readItem_101 rfl 1 rfl ?_
        refine r_aload_n X dX0_readItem_102 rfl 2 rfl ?_
        refine r_iconst (v := 3) X dX0_readItem_103 (by decide) ?_
        refine r_aload_n X dX0_readItem_104 rfl 1 rfl ?_
        refine r_getI X fl_X0_22 (by decide) h_l0 dX0_readItem_105 (fun v23 => ?_)
        refine r_iconst (v := 3) X dX0_readItem_108 (by decide) ?_
        refine r_icmp_eq 116 X dX0_readItem_109 (by decide) ?_ ?_
        · refine r_iconst (v := 0) X dX0_readItem_116 (by decide) ?_
          exact r_to [(0, rf x.2.1 l0), (1, rf x.2.1 l1)] [1, 2] rfl (sX0_readItem_117 X hL Hr h_l0 h_l1 h_l1 h_l0)
        · refine r_iconst (v := 1) X dX0_readItem_112 (by decide) ?_
          refine r_goto 117 X dX0_readItem_113 (by decide) ?_
          exact r_to [(0, rf x.2.1 l0), (1, rf x.2.1 l1)] [1, 2] rfl (sX0_readItem_117 X hL Hr h_l0 h_l1 h_l1 h_l0)
      · refine r_iload_n X dX0_readItem_137 rfl 0 rfl ?_
        refine r_callSI [.int v15] X mt_X0_62 (by decide) (okX0_kindOf _ _ X.J) rfl (Nat.le_of_ble_eq_true rfl) dX0_readItem_138 rfl (fun v17 M16 => ?_)
        refine r_istore_n [(3, .int v17), (2, .int v15), (0, rf x.2.1 l0), (1, rf x.2.1 l1)] X dX0_readItem_141 rfl (nlt hL (by decide)) rfl ?_
        refine r_iload_n X dX0_readItem_142 rfl 0 rfl ?_
        refine r_bipush (v := (-9)) X dX0_readItem_143 (by decide) ?_
        refine r_icmp_eq 164 X dX0_readItem_145 (by decide) ?_ ?_
        · exact r_to [] [] rfl (sX0_readItem_164 X hL Hr)
        · refine r_aload_n X dX0_readItem_148 rfl 2 rfl ?_
          refine r_getI X fl_X0_22 (by decide) h_l0 dX0_readItem_149 (fun v18 => ?_)
          refine r_if_ne 164 X dX0_readItem_152 (by decide) ?_ ?_
          · refine r_aload_n X dX0_readItem_155 rfl 3 rfl ?_
            refine r_getI X fl_X0_66 (by decide) h_l1 dX0_readItem_156 (fun v19 => ?_)
            refine r_bipush (v := 8) X dX0_readItem_159 (by decide) ?_
            refine r_icmp_lt 166 X dX0_readItem_161 (by decide) ?_ ?_
            · refine r_aload_n X dX0_readItem_166 rfl 3 rfl ?_
              refine r_iload_n X dX0_readItem_167 rfl 0 rfl ?_
              refine r_callVV [.int v17] X mt_X0_69 (by decide) h_l1 (by decide) (okX4_addPlace _ _ X.J h_l1) rfl (Nat.le_of_ble_eq_true rfl) dX0_readItem_168 rfl (fun _ M20 => ?_)
              refine r_aload_n X dX0_readItem_171 rfl 2 rfl ?_
              refine r_dup X dX0_readItem_172 rfl ?_
              refine r_getI X fl_X0_19 (by decide) h_l0 dX0_readItem_173 (fun v21 => ?_)
              refine r_iconst (v := 1) X dX0_readItem_176 (by decide) ?_
              refine r_iadd X dX0_readItem_177 ?_
              refine r_putI X fl_X0_19 (by decide) h_l0 (fun _ => rfl) (fun _ => rfl) dX0_readItem_178 (fun M22 => ?_)
              refine r_iconst (v := 1) X dX0_readItem_181 (by decide) ?_
              exact r_iret Hr rfl dX0_readItem_182
            · exact r_to [] [] rfl (sX0_readItem_164 X hL Hr)
          · exact r_to [] [] rfl (sX0_readItem_164 X hL Hr)
set_option maxRecDepth 100000 in
set_option maxHeartbeats 4000000 in
theorem okX0_readItem (l : Launch) (g : GX) (hJ : IJ g) {l0 : Nat} {l1 : Nat} {M : Mm} (h_l0 : sh l0 = 10) (h_l1 : sh l1 = 14) : CT l g yX0_readItem cX0_readItem 4 (some .boolean) 3 [rf g l0, rf g l1] M (fX0_readItem l0 l1 M) (fun r => some (.int r)) := by
  refine ct_I rfl hJ (Nat.le_of_ble_eq_true rfl) (fun x r hg hL hl X hf Hr => ?_)
  subst hg
  exact fun _ ls H locs hl hP hS => sX0_readItem_0 X hL Hr h_l0 h_l1 ⟨_, hf, rfl⟩ ls H locs hl hP hS

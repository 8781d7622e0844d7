/-! CrumbWoodModel.fewest(II)I -/
set_option maxRecDepth 100000 in
noncomputable def fX6_fewest (l0 : Nat) (l1 : Int32) (l2 : Int32) (M : Mm) : Option (Int32 × Mm) := cal (fX6_needPlan l0 l1 l2 M) fun v2 M1 => if 0 ≤ v2 then cal (fX6_stonesFor l0 l2 0 M1) fun v4 M3 => some ((v4, M3)) else some ((v2, M1))
set_option maxRecDepth 100000 in
set_option maxHeartbeats 4000000 in
theorem sX6_fewest_0 {x : SB} {F : (Int32 × Mm) → Prop} (X : CX x cX6_fewest RX6 7) (hL : x.2.2.2.1 = 4) (Hr : RTI x cX6_fewest .int F (fun q => q)) {l0 : Nat} {l1 : Int32} {l2 : Int32} {M : Mm} (h_l0 : sh l0 = 16) : SIM x F (fX6_fewest l0 l1 l2 M) 0 [(0, rf x.2.1 l0), (1, .int l1), (2, .int l2)] [] M := by
  unfold fX6_fewest
  refine r_aload_n X dX6_fewest_0 rfl 0 rfl ?_
  refine r_iload_n X dX6_fewest_1 rfl 1 rfl ?_
  refine r_iload_n X dX6_fewest_2 rfl 2 rfl ?_
  refine r_callVI [.int l1, .int l2] X mt_X6_264 (by decide) h_l0 (by decide) (okX6_needPlan _ _ X.J h_l0) rfl (Nat.le_of_ble_eq_true rfl) dX6_fewest_3 rfl (fun v2 M1 => ?_)
  refine r_istore_n [(3, .int v2), (0, rf x.2.1 l0), (1, .int l1), (2, .int l2)] X dX6_fewest_6 rfl (nlt hL (by decide)) rfl ?_
  refine r_iload_n X dX6_fewest_7 rfl 0 rfl ?_
  refine r_if_ge 15 X dX6_fewest_8 (by decide) ?_ ?_
  · refine r_aload_n X dX6_fewest_15 rfl 1 rfl ?_
    refine r_iload_n X dX6_fewest_16 rfl 3 rfl ?_
    refine r_iconst (v := 0) X dX6_fewest_17 (by decide) ?_
    refine r_callVI [.int l2, .int 0] X mt_X6_267 (by decide) h_l0 (by decide) (okX6_stonesFor _ _ X.J h_l0) rfl (Nat.le_of_ble_eq_true rfl) dX6_fewest_18 rfl (fun v4 M3 => ?_)
    exact r_iret Hr rfl dX6_fewest_21
  · refine r_iload_n X dX6_fewest_11 rfl 0 rfl ?_
    refine r_goto 21 X dX6_fewest_12 (by decide) ?_
    exact r_iret Hr rfl dX6_fewest_21
set_option maxRecDepth 100000 in
set_option maxHeartbeats 4000000 in
theorem okX6_fewest (l : Launch) (g : GX) (hJ : IJ g) {l0 : Nat} {l1 : Int32} {l2 : Int32} {M : Mm} (h_l0 : sh l0 = 16) : CT l g yX6_fewest cX6_fewest 4 (some .int) 7 [rf g l0, .int l1, .int l2] M (fX6_fewest l0 l1 l2 M) (fun r => some (.int r)) := by
  refine ct_I rfl hJ (Nat.le_of_ble_eq_true rfl) (fun x r hg hL hl X hf Hr => ?_)
  subst hg
  exact fun _ ls H locs hl hP hS => sX6_fewest_0 X hL Hr h_l0 ⟨_, hf, rfl⟩ ls H locs hl hP hS
/-! CrumbWoodModel.finding()I -/
set_option maxRecDepth 100000 in
noncomputable def fX6_finding (l0 : Nat) (M : Mm) : Option (Int32 × Mm) := gfI M l0 0 fun v1 => some ((v1, M))
set_option maxRecDepth 100000 in
set_option maxHeartbeats 4000000 in
theorem sX6_finding_0 {x : SB} {F : (Int32 × Mm) → Prop} (X : CX x cX6_finding RX6 0) (hL : x.2.2.2.1 = 1) (Hr : RTI x cX6_finding .int F (fun q => q)) {l0 : Nat} {M : Mm} (h_l0 : sh l0 = 16) : SIM x F (fX6_finding l0 M) 0 [(0, rf x.2.1 l0)] [] M := by
  unfold fX6_finding
  refine r_aload_n X dX6_finding_0 rfl 0 rfl ?_
  refine r_getI X fl_X6_88 (by decide) h_l0 dX6_finding_1 (fun v1 => ?_)
  exact r_iret Hr rfl dX6_finding_4
set_option maxRecDepth 100000 in
set_option maxHeartbeats 4000000 in
theorem okX6_finding (l : Launch) (g : GX) (hJ : IJ g) {l0 : Nat} {M : Mm} (h_l0 : sh l0 = 16) : CT l g yX6_finding cX6_finding 1 (some .int) 0 [rf g l0] M (fX6_finding l0 M) (fun r => some (.int r)) := by
  refine ct_I rfl hJ (Nat.le_of_ble_eq_true rfl) (fun x r hg hL hl X hf Hr => ?_)
  subst hg
  exact fun _ ls H locs hl hP hS => sX6_finding_0 X hL Hr h_l0 ⟨_, hf, rfl⟩ ls H locs hl hP hS
/-! CrumbWoodModel.findings(I)I -/
set_option maxRecDepth 100000 in
noncomputable def fX6_findings (l0 : Nat) (l1 : Int32) (M : Mm) : Option (Int32 × Mm) := cal (fX6_in l1 1 5 M) fun v2 M1 => if v2 = 0 then some (((-1), M1)) else gfR M1 0 l0 1 fun v3 => ldI M1 v3 l1 fun v4 => some ((v4, M1))
set_option maxRecDepth 100000 in
set_option maxHeartbeats 4000000 in
theorem sX6_findings_0 {x : SB} {F : (Int32 × Mm) → Prop} (X : CX x cX6_findings RX6 1) (hL : x.2.2.2.1 = 2) (Hr : RTI x cX6_findings .int F (fun q => q)) {l0 : Nat} {l1 : Int32} {M : Mm} (h_l0 : sh l0 = 16) : SIM x F (fX6_findings l0 l1 M) 0 [(0, rf x.2.1 l0), (1, .int l1)] [] M := by
  unfold fX6_findings
  refine r_iload_n X dX6_findings_0 rfl 1 rfl ?_
  refine r_iconst (v := 1) X dX6_findings_1 (by decide) ?_
  refine r_iconst (v := 5) X dX6_findings_2 (by decide) ?_
  refine r_callSI [.int l1, .int 1, .int 5] X mt_X6_92 (by decide) (okX6_in _ _ X.J) rfl (Nat.le_of_ble_eq_true rfl) dX6_findings_3 rfl (fun v2 M1 => ?_)
  refine r_if_eq 18 X dX6_findings_6 (by decide) ?_ ?_
  · refine r_iconst (v := (-1)) X dX6_findings_18 (by decide) ?_
    exact r_iret Hr rfl dX6_findings_19
  · refine r_aload_n X dX6_findings_9 rfl 0 rfl ?_
    refine r_getR X fl_X6_7 (by decide) h_l0 dX6_findings_10 (fun v3 h_v3 => ?_)
    refine r_iload_n X dX6_findings_13 rfl 1 rfl ?_
    refine r_iald X h_v3 dX6_findings_14 (fun v4 => ?_)
    refine r_goto 19 X dX6_findings_15 (by decide) ?_
    exact r_iret Hr rfl dX6_findings_19
set_option maxRecDepth 100000 in
set_option maxHeartbeats 4000000 in
theorem okX6_findings (l : Launch) (g : GX) (hJ : IJ g) {l0 : Nat} {l1 : Int32} {M : Mm} (h_l0 : sh l0 = 16) : CT l g yX6_findings cX6_findings 2 (some .int) 1 [rf g l0, .int l1] M (fX6_findings l0 l1 M) (fun r => some (.int r)) := by
  refine ct_I rfl hJ (Nat.le_of_ble_eq_true rfl) (fun x r hg hL hl X hf Hr => ?_)
  subst hg
  exact fun _ ls H locs hl hP hS => sX6_findings_0 X hL Hr h_l0 ⟨_, hf, rfl⟩ ls H locs hl hP hS
/-! CrumbWoodModel.fool(II)I -/
set_option maxRecDepth 100000 in
noncomputable def bX6_fool_17  (M : Mm) : Option (Int32 × Mm) := some (((-1), M))
set_option maxRecDepth 100000 in
set_option maxHeartbeats 4000000 in
theorem sX6_fool_17 {x : SB} {F : (Int32 × Mm) → Prop} (X : CX x cX6_fool RX6 3) (hL : x.2.2.2.1 = 3) (Hr : RTI x cX6_fool .int F (fun q => q))  {M : Mm}  : SIM x F (bX6_fool_17  M) 17 [] [] M := by
  unfold bX6_fool_17
  refine r_iconst (v := (-1)) X dX6_fool_17 (by decide) ?_
  exact r_iret Hr rfl dX6_fool_18
set_option maxRecDepth 100000 in
noncomputable def fX6_fool (l0 : Nat) (l1 : Int32) (l2 : Int32) (M : Mm) : Option (Int32 × Mm) := cal (fX6_isPlace l0 l1 M) fun v2 M1 => if v2 = 0 then bX6_fool_17 M1 else cal (fX6_in l2 0 2 M1) fun v4 M3 => if v4 = 0 then bX6_fool_17 M3 else cal (fX6_marks l0 0 l2 l1 M3) fun v6 M5 => if v6 < 20 then cal (fX6_drops l0 0 l2 l1 M5) fun _ M7 => cal (fX6_marks l0 0 l2 l1 M7) fun v9 M8 => some ((v9, M8)) else some (((-2), M5))
set_option maxRecDepth 100000 in
set_option maxHeartbeats 4000000 in
theorem sX6_fool_0 {x : SB} {F : (Int32 × Mm) → Prop} (X : CX x cX6_fool RX6 3) (hL : x.2.2.2.1 = 3) (Hr : RTI x cX6_fool .int F (fun q => q)) {l0 : Nat} {l1 : Int32} {l2 : Int32} {M : Mm} (h_l0 : sh l0 = 16) : SIM x F (fX6_fool l0 l1 l2 M) 0 [(0, rf x.2.1 l0), (1, .int l1), (2, .int l2)] [] M := by
  unfold fX6_fool
  refine r_aload_n X dX6_fool_0 rfl 0 rfl ?_
  refine r_iload_n X dX6_fool_1 rfl 1 rfl ?_
  refine r_callVI [.int l1] X mt_X6_211 (by decide) h_l0 (by decide) (okX6_isPlace _ _ X.J h_l0) rfl (Nat.le_of_ble_eq_true rfl) dX6_fool_2 rfl (fun v2 M1 => ?_)
  refine r_if_eq 17 X dX6_fool_5 (by decide) ?_ ?_
  · exact r_to [] [] rfl (sX6_fool_17 X hL Hr)
  · refine r_iload_n X dX6_fool_8 rfl 2 rfl ?_
    refine r_iconst (v := 0) X dX6_fool_9 (by decide) ?_
    refine r_iconst (v := 2) X dX6_fool_10 (by decide) ?_
    refine r_callSI [.int l2, .int 0, .int 2] X mt_X6_92 (by decide) (okX6_in _ _ X.J) rfl (Nat.le_of_ble_eq_true rfl) dX6_fool_11 rfl (fun v4 M3 => ?_)
    refine r_if_ne 19 X dX6_fool_14 (by decide) ?_ ?_
    · exact r_to [] [] rfl (sX6_fool_17 X hL Hr)
    · refine r_aload_n X dX6_fool_19 rfl 0 rfl ?_
      refine r_iconst (v := 0) X dX6_fool_20 (by decide) ?_
      refine r_iload_n X dX6_fool_21 rfl 2 rfl ?_
      refine r_iload_n X dX6_fool_22 rfl 1 rfl ?_
      refine r_callVI [.int 0, .int l2, .int l1] X mt_X6_184 (by decide) h_l0 (by decide) (okX6_marks _ _ X.J h_l0) rfl (Nat.le_of_ble_eq_true rfl) dX6_fool_23 rfl (fun v6 M5 => ?_)
      refine r_bipush (v := 20) X dX6_fool_26 (by decide) ?_
      refine r_icmp_lt 34 X dX6_fool_28 (by decide) ?_ ?_
      · refine r_aload_n X dX6_fool_34 rfl 0 rfl ?_
        refine r_iconst (v := 0) X dX6_fool_35 (by decide) ?_
        refine r_iload_n X dX6_fool_36 rfl 2 rfl ?_
        refine r_iload_n X dX6_fool_37 rfl 1 rfl ?_
        refine r_callVV [.int 0, .int l2, .int l1] X mt_X6_227 (by decide) h_l0 (by decide) (okX6_drops _ _ X.J h_l0) rfl (Nat.le_of_ble_eq_true rfl) dX6_fool_38 rfl (fun _ M7 => ?_)
        refine r_aload_n X dX6_fool_41 rfl 0 rfl ?_
        refine r_iconst (v := 0) X dX6_fool_42 (by decide) ?_
        refine r_iload_n X dX6_fool_43 rfl 2 rfl ?_
        refine r_iload_n X dX6_fool_44 rfl 1 rfl ?_
        refine r_callVI [.int 0, .int l2, .int l1] X mt_X6_184 (by decide) h_l0 (by decide) (okX6_marks _ _ X.J h_l0) rfl (Nat.le_of_ble_eq_true rfl) dX6_fool_45 rfl (fun v9 M8 => ?_)
        exact r_iret Hr rfl dX6_fool_48
      · refine r_bipush (v := (-2)) X dX6_fool_31 (by decide) ?_
        exact r_iret Hr rfl dX6_fool_33
set_option maxRecDepth 100000 in
set_option maxHeartbeats 4000000 in
theorem okX6_fool (l : Launch) (g : GX) (hJ : IJ g) {l0 : Nat} {l1 : Int32} {l2 : Int32} {M : Mm} (h_l0 : sh l0 = 16) : CT l g yX6_fool cX6_fool 3 (some .int) 3 [rf g l0, .int l1, .int l2] M (fX6_fool l0 l1 l2 M) (fun r => some (.int r)) := by
  refine ct_I rfl hJ (Nat.le_of_ble_eq_true rfl) (fun x r hg hL hl X hf Hr => ?_)
  subst hg
  exact fun _ ls H locs hl hP hS => sX6_fool_0 X hL Hr h_l0 ⟨_, hf, rfl⟩ ls H locs hl hP hS
/-! CrumbWoodModel.helps()I -/
set_option maxRecDepth 100000 in
noncomputable def fX6_helps (l0 : Nat) (M : Mm) : Option (Int32 × Mm) := gfI M l0 10 fun v1 => if v1 = 0 then some (((-4), M)) else cal (fX6_changedBy l0 0 M) fun v3 M2 => some ((v3, M2))
set_option maxRecDepth 100000 in
set_option maxHeartbeats 4000000 in
theorem sX6_helps_0 {x : SB} {F : (Int32 × Mm) → Prop} (X : CX x cX6_helps RX6 6) (hL : x.2.2.2.1 = 1) (Hr : RTI x cX6_helps .int F (fun q => q)) {l0 : Nat} {M : Mm} (h_l0 : sh l0 = 16) : SIM x F (fX6_helps l0 M) 0 [(0, rf x.2.1 l0)] [] M := by
  unfold fX6_helps
  refine r_aload_n X dX6_helps_0 rfl 0 rfl ?_
  refine r_getI X fl_X6_167 (by decide) h_l0 dX6_helps_1 (fun v1 => ?_)
  refine r_if_ne 12 X dX6_helps_4 (by decide) ?_ ?_
  · refine r_bipush (v := (-4)) X dX6_helps_7 (by decide) ?_
    refine r_goto 17 X dX6_helps_9 (by decide) ?_
    exact r_iret Hr rfl dX6_helps_17
  · refine r_aload_n X dX6_helps_12 rfl 0 rfl ?_
    refine r_iconst (v := 0) X dX6_helps_13 (by decide) ?_
    refine r_callVI [.int 0] X mt_X6_271 (by decide) h_l0 (by decide) (okX6_changedBy _ _ X.J h_l0) rfl (Nat.le_of_ble_eq_true rfl) dX6_helps_14 rfl (fun v3 M2 => ?_)
    exact r_iret Hr rfl dX6_helps_17
set_option maxRecDepth 100000 in
set_option maxHeartbeats 4000000 in
theorem okX6_helps (l : Launch) (g : GX) (hJ : IJ g) {l0 : Nat} {M : Mm} (h_l0 : sh l0 = 16) : CT l g yX6_helps cX6_helps 1 (some .int) 6 [rf g l0] M (fX6_helps l0 M) (fun r => some (.int r)) := by
  refine ct_I rfl hJ (Nat.le_of_ble_eq_true rfl) (fun x r hg hL hl X hf Hr => ?_)
  subst hg
  exact fun _ ls H locs hl hP hS => sX6_helps_0 X hL Hr h_l0 ⟨_, hf, rfl⟩ ls H locs hl hP hS
/-! CrumbWoodModel.here()I -/
set_option maxRecDepth 100000 in
noncomputable def fX6_here (l0 : Nat) (M : Mm) : Option (Int32 × Mm) := gfI M l0 10 fun v1 => if v1 = 0 then some (((-4), M)) else gfI M l0 25 fun v2 => cal (fX6_hereNow l0 M) fun v4 M3 => cal (fX6_tells l0 v2 v4 M3) fun v6 M5 => some ((v6, M5))
set_option maxRecDepth 100000 in
set_option maxHeartbeats 4000000 in
theorem sX6_here_0 {x : SB} {F : (Int32 × Mm) → Prop} (X : CX x cX6_here RX6 1) (hL : x.2.2.2.1 = 1) (Hr : RTI x cX6_here .int F (fun q => q)) {l0 : Nat} {M : Mm} (h_l0 : sh l0 = 16) : SIM x F (fX6_here l0 M) 0 [(0, rf x.2.1 l0)] [] M := by
  unfold fX6_here
  refine r_aload_n X dX6_here_0 rfl 0 rfl ?_
  refine r_getI X fl_X6_167 (by decide) h_l0 dX6_here_1 (fun v1 => ?_)
  refine r_if_ne 12 X dX6_here_4 (by decide) ?_ ?_
  · refine r_bipush (v := (-4)) X dX6_here_7 (by decide) ?_
    refine r_goto 24 X dX6_here_9 (by decide) ?_
    exact r_iret Hr rfl dX6_here_24
  · refine r_aload_n X dX6_here_12 rfl 0 rfl ?_
    refine r_aload_n X dX6_here_13 rfl 0 rfl ?_
    refine r_getI X fl_X6_177 (by decide) h_l0 dX6_here_14 (fun v2 => ?_)
    refine r_aload_n X dX6_here_17 rfl 0 rfl ?_
    refine r_callVI [] X mt_X6_223 (by decide) h_l0 (by decide) (okX6_hereNow _ _ X.J h_l0) rfl (Nat.le_of_ble_eq_true rfl) dX6_here_18 rfl (fun v4 M3 => ?_)
    refine r_callVI [.int v2, .int v4] X mt_X6_114 (by decide) h_l0 (by decide) (okX6_tells _ _ X.J h_l0) rfl (Nat.le_of_ble_eq_true rfl) dX6_here_21 rfl (fun v6 M5 => ?_)
    exact r_iret Hr rfl dX6_here_24
set_option maxRecDepth 100000 in
set_option maxHeartbeats 4000000 in
theorem okX6_here (l : Launch) (g : GX) (hJ : IJ g) {l0 : Nat} {M : Mm} (h_l0 : sh l0 = 16) : CT l g yX6_here cX6_here 1 (some .int) 1 [rf g l0] M (fX6_here l0 M) (fun r => some (.int r)) := by
  refine ct_I rfl hJ (Nat.le_of_ble_eq_true rfl) (fun x r hg hL hl X hf Hr => ?_)
  subst hg
  exact fun _ ls H locs hl hP hS => sX6_here_0 X hL Hr h_l0 ⟨_, hf, rfl⟩ ls H locs hl hP hS
/-! CrumbWoodModel.hidden(I)I -/
set_option maxRecDepth 100000 in
noncomputable def bX6_hidden_36 (s0 : Int32) (s1 : Int32) (M : Mm) : Option (Int32 × Mm) := some (((s1 + s0), M))
set_option maxRecDepth 100000 in
set_option maxHeartbeats 4000000 in
theorem sX6_hidden_36 {x : SB} {F : (Int32 × Mm) → Prop} (X : CX x cX6_hidden RX6 2) (hL : x.2.2.2.1 = 2) (Hr : RTI x cX6_hidden .int F (fun q => q)) {s0 : Int32} {s1 : Int32} {M : Mm}  : SIM x F (bX6_hidden_36 s0 s1 M) 36 [] [.int s0, .int s1] M := by
  unfold bX6_hidden_36
  refine r_iadd X dX6_hidden_36 ?_
  exact r_iret Hr rfl dX6_hidden_37
set_option maxRecDepth 100000 in
noncomputable def fX6_hidden (l0 : Nat) (l1 : Int32) (M : Mm) : Option (Int32 × Mm) := cal (fX6_marks l0 0 0 l1 M) fun v2 M1 => cal (fX6_marks l0 0 2 l1 M1) fun v4 M3 => gfR M3 0 l0 12 fun v5 => ldI M3 v5 l1 fun v6 => if v6 = 5 then cal (fX6_marks l0 0 1 l1 M3) fun v8 M7 => bX6_hidden_36 v8 (v2 + v4) M7 else bX6_hidden_36 0 (v2 + v4) M3
set_option maxRecDepth 100000 in
set_option maxHeartbeats 4000000 in
theorem sX6_hidden_0 {x : SB} {F : (Int32 × Mm) → Prop} (X : CX x cX6_hidden RX6 2) (hL : x.2.2.2.1 = 2) (Hr : RTI x cX6_hidden .int F (fun q => q)) {l0 : Nat} {l1 : Int32} {M : Mm} (h_l0 : sh l0 = 16) : SIM x F (fX6_hidden l0 l1 M) 0 [(0, rf x.2.1 l0), (1, .int l1)] [] M := by
  unfold fX6_hidden
  refine r_aload_n X dX6_hidden_0 rfl 0 rfl ?_
  refine r_iconst (v := 0) X dX6_hidden_1 (by decide) ?_
  refine r_iconst (v := 0) X dX6_hidden_2 (by decide) ?_
  refine r_iload_n X dX6_hidden_3 rfl 1 rfl ?_
  refine r_callVI [.int 0, .int 0, .int l1] X mt_X6_184 (by decide) h_l0 (by decide) (okX6_marks _ _ X.J h_l0) rfl (Nat.le_of_ble_eq_true rfl) dX6_hidden_4 rfl (fun v2 M1 => ?_)
  refine r_aload_n X dX6_hidden_7 rfl 0 rfl ?_
  refine r_iconst (v := 0) X dX6_hidden_8 (by decide) ?_
  refine r_iconst (v := 2) X dX6_hidden_9 (by decide) ?_
  refine r_iload_n X dX6_hidden_10 rfl 1 rfl ?_
  refine r_callVI [.int 0, .int 2, .int l1] X mt_X6_184 (by decide) h_l0 (by decide) (okX6_marks _ _ X.J h_l0) rfl (Nat.le_of_ble_eq_true rfl) dX6_hidden_11 rfl (fun v4 M3 => ?_)
  refine r_iadd X dX6_hidden_14 ?_
  refine r_aload_n X dX6_hidden_15 rfl 0 rfl ?_
  refine r_getR X fl_X6_33 (by decide) h_l0 dX6_hidden_16 (fun v5 h_v5 => ?_)
  refine r_iload_n X dX6_hidden_19 rfl 1 rfl ?_
  refine r_iald X h_v5 dX6_hidden_20 (fun v6 => ?_)
  refine r_iconst (v := 5) X dX6_hidden_21 (by decide) ?_
  refine r_icmp_ne 35 X dX6_hidden_22 (by decide) ?_ ?_
  · refine r_aload_n X dX6_hidden_25 rfl 0 rfl ?_
    refine r_iconst (v := 0) X dX6_hidden_26 (by decide) ?_
    refine r_iconst (v := 1) X dX6_hidden_27 (by decide) ?_
    refine r_iload_n X dX6_hidden_28 rfl 1 rfl ?_
    refine r_callVI [.int 0, .int 1, .int l1] X mt_X6_184 (by decide) h_l0 (by decide) (okX6_marks _ _ X.J h_l0) rfl (Nat.le_of_ble_eq_true rfl) dX6_hidden_29 rfl (fun v8 M7 => ?_)
    refine r_goto 36 X dX6_hidden_32 (by decide) ?_
    exact r_to [] [] rfl (sX6_hidden_36 X hL Hr)
  · refine r_iconst (v := 0) X dX6_hidden_35 (by decide) ?_
    exact r_to [] [] rfl (sX6_hidden_36 X hL Hr)
set_option maxRecDepth 100000 in
set_option maxHeartbeats 4000000 in
theorem okX6_hidden (l : Launch) (g : GX) (hJ : IJ g) {l0 : Nat} {l1 : Int32} {M : Mm} (h_l0 : sh l0 = 16) : CT l g yX6_hidden cX6_hidden 2 (some .int) 2 [rf g l0, .int l1] M (fX6_hidden l0 l1 M) (fun r => some (.int r)) := by
  refine ct_I rfl hJ (Nat.le_of_ble_eq_true rfl) (fun x r hg hL hl X hf Hr => ?_)
  subst hg
  exact fun _ ls H locs hl hP hS => sX6_hidden_0 X hL Hr h_l0 ⟨_, hf, rfl⟩ ls H locs hl hP hS
/-! CrumbWoodModel.home()I -/
set_option maxRecDepth 100000 in
noncomputable def bX6_home_36 (s0 : Int32) (s1 : Int32) (s2 : Nat) (M : Mm) : Option (Int32 × Mm) := cal (fX6_tells s2 s1 s0 M) fun v2 M1 => some ((v2, M1))
set_option maxRecDepth 100000 in
set_option maxHeartbeats 4000000 in
theorem sX6_home_36 {x : SB} {F : (Int32 × Mm) → Prop} (X : CX x cX6_home RX6 5) (hL : x.2.2.2.1 = 2) (Hr : RTI x cX6_home .int F (fun q => q)) {s0 : Int32} {s1 : Int32} {s2 : Nat} {M : Mm} (h_s2 : sh s2 = 16) : SIM x F (bX6_home_36 s0 s1 s2 M) 36 [] [.int s0, .int s1, rf x.2.1 s2] M := by
  unfold bX6_home_36
  refine r_callVI [.int s1, .int s0] X mt_X6_114 (by decide) h_s2 (by decide) (okX6_tells _ _ X.J h_s2) rfl (Nat.le_of_ble_eq_true rfl) dX6_home_36 rfl (fun v2 M1 => ?_)
  exact r_iret Hr rfl dX6_home_39
set_option maxRecDepth 100000 in
noncomputable def fX6_home (l0 : Nat) (M : Mm) : Option (Int32 × Mm) := gfI M l0 10 fun v3 => if v3 = 0 then some (((-4), M)) else cal (fX6_hereNow l0 M) fun v5 M4 => cal (fX6_follows l0 0 v5 M4) fun v7 M6 => gfI M6 l0 32 fun v8 => if v7 = 0 then bX6_home_36 0 (v8 - 1) l0 M6 else bX6_home_36 1 (v8 - 1) l0 M6
set_option maxRecDepth 100000 in
set_option maxHeartbeats 4000000 in
theorem sX6_home_0 {x : SB} {F : (Int32 × Mm) → Prop} (X : CX x cX6_home RX6 5) (hL : x.2.2.2.1 = 2) (Hr : RTI x cX6_home .int F (fun q => q)) {l0 : Nat} {M : Mm} (h_l0 : sh l0 = 16) : SIM x F (fX6_home l0 M) 0 [(0, rf x.2.1 l0)] [] M := by
  unfold fX6_home
  refine r_aload_n X dX6_home_0 rfl 0 rfl ?_
  refine r_getI X fl_X6_167 (by decide) h_l0 dX6_home_1 (fun v3 => ?_)
  refine r_if_ne 10 X dX6_home_4 (by decide) ?_ ?_
  · refine r_bipush (v := (-4)) X dX6_home_7 (by decide) ?_
    exact r_iret Hr rfl dX6_home_9
  · refine r_aload_n X dX6_home_10 rfl 0 rfl ?_
    refine r_iconst (v := 0) X dX6_home_11 (by decide) ?_
    refine r_aload_n X dX6_home_12 rfl 0 rfl ?_
    refine r_callVI [] X mt_X6_223 (by decide) h_l0 (by decide) (okX6_hereNow _ _ X.J h_l0) rfl (Nat.le_of_ble_eq_true rfl) dX6_home_13 rfl (fun v5 M4 => ?_)
    refine r_callVI [.int 0, .int v5] X mt_X6_244 (by decide) h_l0 (by decide) (okX6_follows _ _ X.J h_l0) rfl (Nat.le_of_ble_eq_true rfl) dX6_home_16 rfl (fun v7 M6 => ?_)
    refine r_istore_n [(1, .int v7), (0, rf x.2.1 l0)] X dX6_home_19 rfl (nlt hL (by decide)) rfl ?_
    refine r_aload_n X dX6_home_20 rfl 1 rfl ?_
    refine r_aload_n X dX6_home_21 rfl 1 rfl ?_
    refine r_getI X fl_X6_238 (by decide) h_l0 dX6_home_22 (fun v8 => ?_)
    refine r_iconst (v := 1) X dX6_home_25 (by decide) ?_
    refine r_isub X dX6_home_26 ?_
    refine r_iload_n X dX6_home_27 rfl 0 rfl ?_
    refine r_if_eq 35 X dX6_home_28 (by decide) ?_ ?_
    · refine r_iconst (v := 0) X dX6_home_35 (by decide) ?_
      exact r_to [] [] rfl (sX6_home_36 X hL Hr h_l0)
    · refine r_iconst (v := 1) X dX6_home_31 (by decide) ?_
      refine r_goto 36 X dX6_home_32 (by decide) ?_
      exact r_to [] [] rfl (sX6_home_36 X hL Hr h_l0)
set_option maxRecDepth 100000 in
set_option maxHeartbeats 4000000 in
theorem okX6_home (l : Launch) (g : GX) (hJ : IJ g) {l0 : Nat} {M : Mm} (h_l0 : sh l0 = 16) : CT l g yX6_home cX6_home 2 (some .int) 5 [rf g l0] M (fX6_home l0 M) (fun r => some (.int r)) := by
  refine ct_I rfl hJ (Nat.le_of_ble_eq_true rfl) (fun x r hg hL hl X hf Hr => ?_)
  subst hg
  exact fun _ ls H locs hl hP hS => sX6_home_0 X hL Hr h_l0 ⟨_, hf, rfl⟩ ls H locs hl hP hS
/-! CrumbWoodModel.hours(I)I -/
set_option maxRecDepth 100000 in
noncomputable def fX6_hours (l0 : Nat) (l1 : Int32) (M : Mm) : Option (Int32 × Mm) := cal (fX6_in l1 0 40 M) fun v2 M1 => if v2 = 0 then some (((-1), M1)) else gfI M1 l0 10 fun v3 => if v3 = 0 then some (((-4), M1)) else cal (fX6_hoursOf l0 0 l1 M1) fun v5 M4 => some ((v5, M4))
set_option maxRecDepth 100000 in
set_option maxHeartbeats 4000000 in
theorem sX6_hours_0 {x : SB} {F : (Int32 × Mm) → Prop} (X : CX x cX6_hours RX6 5) (hL : x.2.2.2.1 = 2) (Hr : RTI x cX6_hours .int F (fun q => q)) {l0 : Nat} {l1 : Int32} {M : Mm} (h_l0 : sh l0 = 16) : SIM x F (fX6_hours l0 l1 M) 0 [(0, rf x.2.1 l0), (1, .int l1)] [] M := by
  unfold fX6_hours
  refine r_iload_n X dX6_hours_0 rfl 1 rfl ?_
  refine r_iconst (v := 0) X dX6_hours_1 (by decide) ?_
  refine r_bipush (v := 40) X dX6_hours_2 (by decide) ?_
  refine r_callSI [.int l1, .int 0, .int 40] X mt_X6_92 (by decide) (okX6_in _ _ X.J) rfl (Nat.le_of_ble_eq_true rfl) dX6_hours_4 rfl (fun v2 M1 => ?_)
  refine r_if_ne 12 X dX6_hours_7 (by decide) ?_ ?_
  · refine r_iconst (v := (-1)) X dX6_hours_10 (by decide) ?_
    exact r_iret Hr rfl dX6_hours_11
  · refine r_aload_n X dX6_hours_12 rfl 0 rfl ?_
    refine r_getI X fl_X6_167 (by decide) h_l0 dX6_hours_13 (fun v3 => ?_)
    refine r_if_ne 24 X dX6_hours_16 (by decide) ?_ ?_
    · refine r_bipush (v := (-4)) X dX6_hours_19 (by decide) ?_
      refine r_goto 30 X dX6_hours_21 (by decide) ?_
      exact r_iret Hr rfl dX6_hours_30
    · refine r_aload_n X dX6_hours_24 rfl 0 rfl ?_
      refine r_iconst (v := 0) X dX6_hours_25 (by decide) ?_
      refine r_iload_n X dX6_hours_26 rfl 1 rfl ?_
      refine r_callVI [.int 0, .int l1] X mt_X6_231 (by decide) h_l0 (by decide) (okX6_hoursOf _ _ X.J h_l0) rfl (Nat.le_of_ble_eq_true rfl) dX6_hours_27 rfl (fun v5 M4 => ?_)
      exact r_iret Hr rfl dX6_hours_30
set_option maxRecDepth 100000 in
set_option maxHeartbeats 4000000 in
theorem okX6_hours (l : Launch) (g : GX) (hJ : IJ g) {l0 : Nat} {l1 : Int32} {M : Mm} (h_l0 : sh l0 = 16) : CT l g yX6_hours cX6_hours 2 (some .int) 5 [rf g l0, .int l1] M (fX6_hours l0 l1 M) (fun r => some (.int r)) := by
  refine ct_I rfl hJ (Nat.le_of_ble_eq_true rfl) (fun x r hg hL hl X hf Hr => ?_)
  subst hg
  exact fun _ ls H locs hl hP hS => sX6_hours_0 X hL Hr h_l0 ⟨_, hf, rfl⟩ ls H locs hl hP hS
/-! CrumbWoodModel.keep(I)I -/
set_option maxRecDepth 100000 in
def pX6_keep (x : SB) (q : Nat × Nat × Int32 × Int32 × Mm) : Prop := match q.1 with
  | 1 => sh q.2.1 = 16 → ∀ (ls : Array Slot) (H : Heap) (locs : List Loc), lv_has ls x.2.2.2.1 [(0, rf x.2.1 q.2.1), (1, .int q.2.2.1), (2, .int q.2.2.2.1)] → PW x.2.1 (q.2.2.2.2) H → SH x H locs → SW x H locs 40 ls []
  | 2 => sh q.2.1 = 16 → ∀ (ls : Array Slot) (H : Heap) (locs : List Loc), lv_has ls x.2.2.2.1 [(0, rf x.2.1 q.2.1), (1, .int q.2.2.1), (2, .int q.2.2.2.1)] → PW x.2.1 (q.2.2.2.2) H → SH x H locs → SW x H locs 72 ls []
  | 3 => sh q.2.1 = 16 → ∀ (ls : Array Slot) (H : Heap) (locs : List Loc), lv_has ls x.2.2.2.1 [(0, rf x.2.1 q.2.1), (1, .int q.2.2.1), (2, .int q.2.2.2.1)] → PW x.2.1 (q.2.2.2.2) H → SH x H locs → SW x H locs 103 ls []
  | _ => True
set_option maxRecDepth 100000 in
noncomputable def bX6_keep_103 (l0 : Nat) (l1 : Int32) (l2 : Int32) (M : Mm) : Option ((Nat × Nat × Int32 × Int32 × Mm) ⊕ Int32 × Mm) := gfI M l0 25 fun v1 => if v1 < l2 then gfI M l0 25 fun v2 => some (.inr (v2, M)) else gfR M 0 l0 31 fun v3 => gfR M 0 l0 26 fun v4 => ldI M v4 l2 fun v5 => stI M v3 (((31 : Int32) * l1) + l2) v5 fun M6 => some (.inl (3, l0, l1, (l2 + 1), M6))
set_option maxRecDepth 100000 in
set_option maxHeartbeats 4000000 in
theorem sX6_keep_103 {x : SB} {F : ((Nat × Nat × Int32 × Int32 × Mm) ⊕ Int32 × Mm) → Prop} (X : CX x cX6_keep RX6 1) (hL : x.2.2.2.1 = 3) (Hr : RTI x cX6_keep .int F Sum.inr) (HH : ∀ q, F (.inl q) → pX6_keep x q) {l0 : Nat} {l1 : Int32} {l2 : Int32} {M : Mm} (h_l0 : sh l0 = 16) : SIM x F (bX6_keep_103 l0 l1 l2 M) 103 [(0, rf x.2.1 l0), (1, .int l1), (2, .int l2)] [] M := by
  unfold bX6_keep_103
  refine r_iload_n X dX6_keep_103 rfl 2 rfl ?_
  refine r_aload_n X dX6_keep_104 rfl 0 rfl ?_
  refine r_getI X fl_X6_177 (by decide) h_l0 dX6_keep_105 (fun v1 => ?_)
  refine r_icmp_gt 134 X dX6_keep_108 (by decide) ?_ ?_
  · refine r_aload_n X dX6_keep_134 rfl 0 rfl ?_
    refine r_getI X fl_X6_177 (by decide) h_l0 dX6_keep_135 (fun v2 => ?_)
    exact r_iret Hr rfl dX6_keep_138
  · refine r_aload_n X dX6_keep_111 rfl 0 rfl ?_
    refine r_getR X fl_X6_70 (by decide) h_l0 dX6_keep_112 (fun v3 h_v3 => ?_)
    refine r_bipush (v := 31) X dX6_keep_115 (by decide) ?_
    refine r_iload_n X dX6_keep_117 rfl 1 rfl ?_
    refine r_imul X dX6_keep_118 ?_
    refine r_iload_n X dX6_keep_119 rfl 2 rfl ?_
    refine r_iadd X dX6_keep_120 ?_
    refine r_aload_n X dX6_keep_121 rfl 0 rfl ?_
    refine r_getR X fl_X6_54 (by decide) h_l0 dX6_keep_122 (fun v4 h_v4 => ?_)
    refine r_iload_n X dX6_keep_125 rfl 2 rfl ?_
    refine r_iald X h_v4 dX6_keep_126 (fun v5 => ?_)
    refine r_iast X h_v3 dX6_keep_127 (fun M6 => ?_)
    refine r_iinc [(2, .int (l2 + 1)), (0, rf x.2.1 l0), (1, .int l1)] X dX6_keep_128 2 rfl rfl (nlt hL (by decide)) rfl ?_
    refine r_goto 103 X dX6_keep_131 (by decide) ?_
    exact r_hdr [(0, rf x.2.1 l0), (1, .int l1), (2, .int (l2 + 1))] [1, 2, 0] rfl (fun h => HH _ h h_l0)
set_option maxRecDepth 100000 in
noncomputable def bX6_keep_72 (l0 : Nat) (l1 : Int32) (l2 : Int32) (M : Mm) : Option ((Nat × Nat × Int32 × Int32 × Mm) ⊕ Int32 × Mm) := if 8 ≤ l2 then some (.inl (3, l0, l1, 0, M)) else gfR M 0 l0 30 fun v7 => gfR M 0 l0 13 fun v8 => ldI M v8 l2 fun v9 => stI M v7 (((8 : Int32) * l1) + l2) v9 fun M10 => some (.inl (2, l0, l1, (l2 + 1), M10))
set_option maxRecDepth 100000 in
set_option maxHeartbeats 4000000 in
theorem sX6_keep_72 {x : SB} {F : ((Nat × Nat × Int32 × Int32 × Mm) ⊕ Int32 × Mm) → Prop} (X : CX x cX6_keep RX6 1) (hL : x.2.2.2.1 = 3) (Hr : RTI x cX6_keep .int F Sum.inr) (HH : ∀ q, F (.inl q) → pX6_keep x q) {l0 : Nat} {l1 : Int32} {l2 : Int32} {M : Mm} (h_l0 : sh l0 = 16) : SIM x F (bX6_keep_72 l0 l1 l2 M) 72 [(0, rf x.2.1 l0), (1, .int l1), (2, .int l2)] [] M := by
  unfold bX6_keep_72
  refine r_iload_n X dX6_keep_72 rfl 2 rfl ?_
  refine r_bipush (v := 8) X dX6_keep_73 (by decide) ?_
  refine r_icmp_ge 101 X dX6_keep_75 (by decide) ?_ ?_
  · refine r_iconst (v := 0) X dX6_keep_101 (by decide) ?_
    refine r_istore_n [(2, .int 0), (0, rf x.2.1 l0), (1, .int l1)] X dX6_keep_102 rfl (nlt hL (by decide)) rfl ?_
    exact r_hdr [(0, rf x.2.1 l0), (1, .int l1), (2, .int 0)] [1, 2, 0] rfl (fun h => HH _ h h_l0)
  · refine r_aload_n X dX6_keep_78 rfl 0 rfl ?_
    refine r_getR X fl_X6_67 (by decide) h_l0 dX6_keep_79 (fun v7 h_v7 => ?_)
    refine r_bipush (v := 8) X dX6_keep_82 (by decide) ?_
    refine r_iload_n X dX6_keep_84 rfl 1 rfl ?_
    refine r_imul X dX6_keep_85 ?_
    refine r_iload_n X dX6_keep_86 rfl 2 rfl ?_
    refine r_iadd X dX6_keep_87 ?_
    refine r_aload_n X dX6_keep_88 rfl 0 rfl ?_
    refine r_getR X fl_X6_36 (by decide) h_l0 dX6_keep_89 (fun v8 h_v8 => ?_)
    refine r_iload_n X dX6_keep_92 rfl 2 rfl ?_
    refine r_iald X h_v8 dX6_keep_93 (fun v9 => ?_)
    refine r_iast X h_v7 dX6_keep_94 (fun M10 => ?_)
    refine r_iinc [(2, .int (l2 + 1)), (0, rf x.2.1 l0), (1, .int l1)] X dX6_keep_95 2 rfl rfl (nlt hL (by decide)) rfl ?_
    refine r_goto 72 X dX6_keep_98 (by decide) ?_
    exact r_hdr [(0, rf x.2.1 l0), (1, .int l1), (2, .int (l2 + 1))] [1, 2, 0] rfl (fun h => HH _ h h_l0)
set_option maxRecDepth 100000 in
noncomputable def bX6_keep_40 (l0 : Nat) (l1 : Int32) (l2 : Int32) (M : Mm) : Option ((Nat × Nat × Int32 × Int32 × Mm) ⊕ Int32 × Mm) := if 39 ≤ l2 then some (.inl (2, l0, l1, 0, M)) else gfR M 0 l0 29 fun v11 => cal (fX6_v l0 0 l2 0 M) fun v13 M12 => stI M12 v11 (((39 : Int32) * l1) + l2) v13 fun M14 => some (.inl (1, l0, l1, (l2 + 1), M14))
set_option maxRecDepth 100000 in
set_option maxHeartbeats 4000000 in
theorem sX6_keep_40 {x : SB} {F : ((Nat × Nat × Int32 × Int32 × Mm) ⊕ Int32 × Mm) → Prop} (X : CX x cX6_keep RX6 1) (hL : x.2.2.2.1 = 3) (Hr : RTI x cX6_keep .int F Sum.inr) (HH : ∀ q, F (.inl q) → pX6_keep x q) {l0 : Nat} {l1 : Int32} {l2 : Int32} {M : Mm} (h_l0 : sh l0 = 16) : SIM x F (bX6_keep_40 l0 l1 l2 M) 40 [(0, rf x.2.1 l0), (1, .int l1), (2, .int l2)] [] M := by
  unfold bX6_keep_40
  refine r_iload_n X dX6_keep_40 rfl 2 rfl ?_
  refine r_bipush (v := 39) X dX6_keep_41 (by decide) ?_
  refine r_icmp_ge 70 X dX6_keep_43 (by decide) ?_ ?_
  · refine r_iconst (v := 0) X dX6_keep_70 (by decide) ?_
    refine r_istore_n [(2, .int 0), (0, rf x.2.1 l0), (1, .int l1)] X dX6_keep_71 rfl (nlt hL (by decide)) rfl ?_
    exact r_hdr [(0, rf x.2.1 l0), (1, .int l1), (2, .int 0)] [1, 2, 0] rfl (fun h => HH _ h h_l0)
  · refine r_aload_n X dX6_keep_46 rfl 0 rfl ?_
    refine r_getR X fl_X6_64 (by decide) h_l0 dX6_keep_47 (fun v11 h_v11 => ?_)
    refine r_bipush (v := 39) X dX6_keep_50 (by decide) ?_
    refine r_iload_n X dX6_keep_52 rfl 1 rfl ?_
    refine r_imul X dX6_keep_53 ?_
    refine r_iload_n X dX6_keep_54 rfl 2 rfl ?_
    refine r_iadd X dX6_keep_55 ?_
    refine r_aload_n X dX6_keep_56 rfl 0 rfl ?_
    refine r_iconst (v := 0) X dX6_keep_57 (by decide) ?_
    refine r_iload_n X dX6_keep_58 rfl 2 rfl ?_
    refine r_iconst (v := 0) X dX6_keep_59 (by decide) ?_
    refine r_callVI [.int 0, .int l2, .int 0] X mt_X6_180 (by decide) h_l0 (by decide) (okX6_v _ _ X.J h_l0) rfl (Nat.le_of_ble_eq_true rfl) dX6_keep_60 rfl (fun v13 M12 => ?_)
    refine r_iast X h_v11 dX6_keep_63 (fun M14 => ?_)
    refine r_iinc [(2, .int (l2 + 1)), (0, rf x.2.1 l0), (1, .int l1)] X dX6_keep_64 2 rfl rfl (nlt hL (by decide)) rfl ?_
    refine r_goto 40 X dX6_keep_67 (by decide) ?_
    exact r_hdr [(0, rf x.2.1 l0), (1, .int l1), (2, .int (l2 + 1))] [1, 2, 0] rfl (fun h => HH _ h h_l0)
set_option maxRecDepth 100000 in
noncomputable def bX6_keep_0 (l0 : Nat) (l1 : Int32) (M : Mm) : Option ((Nat × Nat × Int32 × Int32 × Mm) ⊕ Int32 × Mm) := cal (fX6_in l1 0 2 M) fun v16 M15 => if v16 = 0 then some (.inr ((-1), M15)) else gfI M15 l0 10 fun v17 => if v17 = 0 then some (.inr ((-4), M15)) else gfR M15 2 l0 27 fun v18 => stI M15 v18 l1 (vp_nar .boolean 1) fun M19 => gfR M19 0 l0 28 fun v20 => gfI M19 l0 25 fun v21 => stI M19 v20 l1 v21 fun M22 => some (.inl (1, l0, l1, 0, M22))
set_option maxRecDepth 100000 in
set_option maxHeartbeats 4000000 in
theorem sX6_keep_0 {x : SB} {F : ((Nat × Nat × Int32 × Int32 × Mm) ⊕ Int32 × Mm) → Prop} (X : CX x cX6_keep RX6 1) (hL : x.2.2.2.1 = 3) (Hr : RTI x cX6_keep .int F Sum.inr) (HH : ∀ q, F (.inl q) → pX6_keep x q) {l0 : Nat} {l1 : Int32} {M : Mm} (h_l0 : sh l0 = 16) : SIM x F (bX6_keep_0 l0 l1 M) 0 [(0, rf x.2.1 l0), (1, .int l1)] [] M := by
  unfold bX6_keep_0
  refine r_iload_n X dX6_keep_0 rfl 1 rfl ?_
  refine r_iconst (v := 0) X dX6_keep_1 (by decide) ?_
  refine r_iconst (v := 2) X dX6_keep_2 (by decide) ?_
  refine r_callSI [.int l1, .int 0, .int 2] X mt_X6_92 (by decide) (okX6_in _ _ X.J) rfl (Nat.le_of_ble_eq_true rfl) dX6_keep_3 rfl (fun v16 M15 => ?_)
  refine r_if_ne 11 X dX6_keep_6 (by decide) ?_ ?_
  · refine r_iconst (v := (-1)) X dX6_keep_9 (by decide) ?_
    exact r_iret Hr rfl dX6_keep_10
  · refine r_aload_n X dX6_keep_11 rfl 0 rfl ?_
    refine r_getI X fl_X6_167 (by decide) h_l0 dX6_keep_12 (fun v17 => ?_)
    refine r_if_ne 21 X dX6_keep_15 (by decide) ?_ ?_
    · refine r_bipush (v := (-4)) X dX6_keep_18 (by decide) ?_
      exact r_iret Hr rfl dX6_keep_20
    · refine r_aload_n X dX6_keep_21 rfl 0 rfl ?_
      refine r_getR X fl_X6_57 (by decide) h_l0 dX6_keep_22 (fun v18 h_v18 => ?_)
      refine r_iload_n X dX6_keep_25 rfl 1 rfl ?_
      refine r_iconst (v := 1) X dX6_keep_26 (by decide) ?_
      refine r_zast X h_v18 dX6_keep_27 (fun M19 => ?_)
      refine r_aload_n X dX6_keep_28 rfl 0 rfl ?_
      refine r_getR X fl_X6_61 (by decide) h_l0 dX6_keep_29 (fun v20 h_v20 => ?_)
      refine r_iload_n X dX6_keep_32 rfl 1 rfl ?_
      refine r_aload_n X dX6_keep_33 rfl 0 rfl ?_
      refine r_getI X fl_X6_177 (by decide) h_l0 dX6_keep_34 (fun v21 => ?_)
      refine r_iast X h_v20 dX6_keep_37 (fun M22 => ?_)
      refine r_iconst (v := 0) X dX6_keep_38 (by decide) ?_
      refine r_istore_n [(2, .int 0), (0, rf x.2.1 l0), (1, .int l1)] X dX6_keep_39 rfl (nlt hL (by decide)) rfl ?_
      exact r_hdr [(0, rf x.2.1 l0), (1, .int l1), (2, .int 0)] [1, 2, 0] rfl (fun h => HH _ h h_l0)
set_option maxRecDepth 100000 in
noncomputable def gX6_keep (q : Nat × Nat × Int32 × Int32 × Mm) : Option ((Nat × Nat × Int32 × Int32 × Mm) ⊕ Int32 × Mm) := match q.1 with
  | 1 => bX6_keep_40 (q.2.1) (q.2.2.1) (q.2.2.2.1) (q.2.2.2.2)
  | 2 => bX6_keep_72 (q.2.1) (q.2.2.1) (q.2.2.2.1) (q.2.2.2.2)
  | 3 => bX6_keep_103 (q.2.1) (q.2.2.1) (q.2.2.2.1) (q.2.2.2.2)
  | _ => none
set_option maxRecDepth 100000 in
noncomputable def fX6_keep (l0 : Nat) (l1 : Int32) (M : Mm) : Option (Int32 × Mm) := fen gX6_keep (bX6_keep_0 l0 l1 M)
set_option maxRecDepth 100000 in
set_option maxHeartbeats 4000000 in
theorem okX6_keep (l : Launch) (g : GX) (hJ : IJ g) {l0 : Nat} {l1 : Int32} {M : Mm} (h_l0 : sh l0 = 16) : CT l g yX6_keep cX6_keep 3 (some .int) 1 [rf g l0, .int l1] M (fX6_keep l0 l1 M) (fun r => some (.int r)) := by
  refine ct_I rfl hJ (Nat.le_of_ble_eq_true rfl) (fun x r hg hL hl X hf Hr => ?_)
  subst hg
  have Hr2 : RTI x cX6_keep .int (Sum.elim (pX6_keep x) (fun q => q = r)) Sum.inr := fun v M h => Hr v M h
  have HP : ∀ q, fnl gX6_keep q = some r → pX6_keep x q := by
    intro q hq
    refine fnl_ind (pX6_keep x) (fun q hq => ?_) hq
    obtain ⟨n, l0, l1, l2, M⟩ := q
    match n, hq with
    | 1, hq => exact fun h_l0 ls H locs hl hP hS => sX6_keep_40 X hL Hr2 (fun _ h => h) h_l0 hq ls H locs hl hP hS
    | 2, hq => exact fun h_l0 ls H locs hl hP hS => sX6_keep_72 X hL Hr2 (fun _ h => h) h_l0 hq ls H locs hl hP hS
    | 3, hq => exact fun h_l0 ls H locs hl hP hS => sX6_keep_103 X hL Hr2 (fun _ h => h) h_l0 hq ls H locs hl hP hS
    | 0, hq => exact trivial
    | n + 4, hq => exact trivial
  exact fun _ ls H locs hl hP hS => sX6_keep_0 X hL Hr2 (fun _ h => h) h_l0 (fen_w hf HP) ls H locs hl hP hS
/-! CrumbWoodModel.lay(III)I -/
set_option maxRecDepth 100000 in
noncomputable def fX6_lay (l0 : Nat) (l1 : Int32) (l2 : Int32) (l3 : Int32) (M : Mm) : Option (Int32 × Mm) := cal (fX6_isRow l1 M) fun v2 M1 => if v2 = 0 then some (((-1), M1)) else gfR M1 0 l0 5 fun v3 => ldI M1 v3 l1 fun v4 => if 0 ≤ v4 then gfR M1 0 l0 5 fun v5 => ldI M1 v5 l1 fun v6 => cal (fX6_in l2 0 (v6 - 1) M1) fun v8 M7 => if v8 = 0 then cal (fX6_meets l0 2 M7) fun v16 M15 => some ((v16, M15)) else cal (fX6_rowAt l0 l1 l2 M7) fun v10 M9 => gfR M9 0 l0 6 fun v11 => stI M9 v11 (((40 : Int32) * l1) + l2) l3 fun M12 => cal (fX6_tells l0 v10 1 M12) fun v14 M13 => some ((v14, M13)) else cal (fX6_meets l0 1 M1) fun v18 M17 => some ((v18, M17))
set_option maxRecDepth 100000 in
set_option maxHeartbeats 4000000 in
theorem sX6_lay_0 {x : SB} {F : (Int32 × Mm) → Prop} (X : CX x cX6_lay RX6 2) (hL : x.2.2.2.1 = 5) (Hr : RTI x cX6_lay .int F (fun q => q)) {l0 : Nat} {l1 : Int32} {l2 : Int32} {l3 : Int32} {M : Mm} (h_l0 : sh l0 = 16) : SIM x F (fX6_lay l0 l1 l2 l3 M) 0 [(0, rf x.2.1 l0), (1, .int l1), (2, .int l2), (3, .int l3)] [] M := by
  unfold fX6_lay
  refine r_iload_n X dX6_lay_0 rfl 1 rfl ?_
  refine r_callSI [.int l1] X mt_X6_102 (by decide) (okX6_isRow _ _ X.J) rfl (Nat.le_of_ble_eq_true rfl) dX6_lay_1 rfl (fun v2 M1 => ?_)
  refine r_if_ne 9 X dX6_lay_4 (by decide) ?_ ?_
  · refine r_iconst (v := (-1)) X dX6_lay_7 (by decide) ?_
    exact r_iret Hr rfl dX6_lay_8
  · refine r_aload_n X dX6_lay_9 rfl 0 rfl ?_
    refine r_getR X fl_X6_17 (by decide) h_l0 dX6_lay_10 (fun v3 h_v3 => ?_)
    refine r_iload_n X dX6_lay_13 rfl 1 rfl ?_
    refine r_iald X h_v3 dX6_lay_14 (fun v4 => ?_)
    refine r_if_ge 24 X dX6_lay_15 (by decide) ?_ ?_
    · refine r_iload_n X dX6_lay_24 rfl 2 rfl ?_
      refine r_iconst (v := 0) X dX6_lay_25 (by decide) ?_
      refine r_aload_n X dX6_lay_26 rfl 0 rfl ?_
      refine r_getR X fl_X6_17 (by decide) h_l0 dX6_lay_27 (fun v5 h_v5 => ?_)
      refine r_iload_n X dX6_lay_30 rfl 1 rfl ?_
      refine r_iald X h_v5 dX6_lay_31 (fun v6 => ?_)
      refine r_iconst (v := 1) X dX6_lay_32 (by decide) ?_
      refine r_isub X dX6_lay_33 ?_
      refine r_callSI [.int l2, .int 0, .int (v6 - 1)] X mt_X6_92 (by decide) (okX6_in _ _ X.J) rfl (Nat.le_of_ble_eq_true rfl) dX6_lay_34 rfl (fun v8 M7 => ?_)
      refine r_if_ne 46 X dX6_lay_37 (by decide) ?_ ?_
      · refine r_aload_n X dX6_lay_40 rfl 0 rfl ?_
        refine r_iconst (v := 2) X dX6_lay_41 (by decide) ?_
        refine r_callVI [.int 2] X mt_X6_106 (by decide) h_l0 (by decide) (okX6_meets _ _ X.J h_l0) rfl (Nat.le_of_ble_eq_true rfl) dX6_lay_42 rfl (fun v16 M15 => ?_)
        exact r_iret Hr rfl dX6_lay_45
      · refine r_aload_n X dX6_lay_46 rfl 0 rfl ?_
        refine r_iload_n X dX6_lay_47 rfl 1 rfl ?_
        refine r_iload_n X dX6_lay_48 rfl 2 rfl ?_
        refine r_callVI [.int l1, .int l2] X mt_X6_110 (by decide) h_l0 (by decide) (okX6_rowAt _ _ X.J h_l0) rfl (Nat.le_of_ble_eq_true rfl) dX6_lay_49 rfl (fun v10 M9 => ?_)
        refine r_istore [(4, .int v10), (0, rf x.2.1 l0), (1, .int l1), (2, .int l2), (3, .int l3)] X dX6_lay_52 (nlt hL (by decide)) rfl ?_
        refine r_aload_n X dX6_lay_54 rfl 1 rfl ?_
        refine r_getR X fl_X6_20 (by decide) h_l0 dX6_lay_55 (fun v11 h_v11 => ?_)
        refine r_bipush (v := 40) X dX6_lay_58 (by decide) ?_
        refine r_iload_n X dX6_lay_60 rfl 2 rfl ?_
        refine r_imul X dX6_lay_61 ?_
        refine r_iload_n X dX6_lay_62 rfl 3 rfl ?_
        refine r_iadd X dX6_lay_63 ?_
        refine r_iload_n X dX6_lay_64 rfl 4 rfl ?_
        refine r_iast X h_v11 dX6_lay_65 (fun M12 => ?_)
        refine r_aload_n X dX6_lay_66 rfl 1 rfl ?_
        refine r_iload X dX6_lay_67 0 rfl ?_
        refine r_iconst (v := 1) X dX6_lay_69 (by decide) ?_
        refine r_callVI [.int v10, .int 1] X mt_X6_114 (by decide) h_l0 (by decide) (okX6_tells _ _ X.J h_l0) rfl (Nat.le_of_ble_eq_true rfl) dX6_lay_70 rfl (fun v14 M13 => ?_)
        exact r_iret Hr rfl dX6_lay_73
    · refine r_aload_n X dX6_lay_18 rfl 0 rfl ?_
      refine r_iconst (v := 1) X dX6_lay_19 (by decide) ?_
      refine r_callVI [.int 1] X mt_X6_106 (by decide) h_l0 (by decide) (okX6_meets _ _ X.J h_l0) rfl (Nat.le_of_ble_eq_true rfl) dX6_lay_20 rfl (fun v18 M17 => ?_)
      exact r_iret Hr rfl dX6_lay_23
set_option maxRecDepth 100000 in
set_option maxHeartbeats 4000000 in
theorem okX6_lay (l : Launch) (g : GX) (hJ : IJ g) {l0 : Nat} {l1 : Int32} {l2 : Int32} {l3 : Int32} {M : Mm} (h_l0 : sh l0 = 16) : CT l g yX6_lay cX6_lay 5 (some .int) 2 [rf g l0, .int l1, .int l2, .int l3] M (fX6_lay l0 l1 l2 l3 M) (fun r => some (.int r)) := by
  refine ct_I rfl hJ (Nat.le_of_ble_eq_true rfl) (fun x r hg hL hl X hf Hr => ?_)
  subst hg
  exact fun _ ls H locs hl hP hS => sX6_lay_0 X hL Hr h_l0 ⟨_, hf, rfl⟩ ls H locs hl hP hS
/-! CrumbWoodModel.layWays(II)V -/
set_option maxRecDepth 100000 in
def pX6_layWays (x : SB) (q : Nat × Nat × Int32 × Int32 × Int32 × Int32 × Int32 × Int32 × Mm) : Prop := match q.1 with
  | 1 => sh q.2.1 = 16 → ∀ (ls : Array Slot) (H : Heap) (locs : List Loc), lv_has ls x.2.2.2.1 [(0, rf x.2.1 q.2.1), (1, .int q.2.2.1), (2, .int q.2.2.2.1), (3, .int q.2.2.2.2.1)] → PW x.2.1 (q.2.2.2.2.2.2.2.2) H → SH x H locs → SW x H locs 2 ls []
  | 2 => sh q.2.1 = 16 → ∀ (ls : Array Slot) (H : Heap) (locs : List Loc), lv_has ls x.2.2.2.1 [(0, rf x.2.1 q.2.1), (1, .int q.2.2.1), (2, .int q.2.2.2.1), (3, .int q.2.2.2.2.1), (4, .int q.2.2.2.2.2.1)] → PW x.2.1 (q.2.2.2.2.2.2.2.2) H → SH x H locs → SW x H locs 10 ls []
  | 3 => sh q.2.1 = 16 → ∀ (ls : Array Slot) (H : Heap) (locs : List Loc), lv_has ls x.2.2.2.1 [(0, rf x.2.1 q.2.1), (1, .int q.2.2.1), (2, .int q.2.2.2.1), (3, .int q.2.2.2.2.1), (4, .int q.2.2.2.2.2.1), (5, .int q.2.2.2.2.2.2.1), (6, .int q.2.2.2.2.2.2.2.1)] → PW x.2.1 (q.2.2.2.2.2.2.2.2) H → SH x H locs → SW x H locs 42 ls []
  | _ => True
set_option maxRecDepth 100000 in
noncomputable def bX6_layWays_166 (l0 : Nat) (l1 : Int32) (l2 : Int32) (l3 : Int32) (l4 : Int32) (s0 : Int32) (s1 : Int32) (s2 : Nat) (M : Mm) : Option ((Nat × Nat × Int32 × Int32 × Int32 × Int32 × Int32 × Int32 × Mm) ⊕ Unit × Mm) := stI M s2 s1 s0 fun M1 => some (.inl (2, l0, l1, l2, l3, (l4 + 1), 0, 0, M1))
set_option maxRecDepth 100000 in
set_option maxHeartbeats 4000000 in
theorem sX6_layWays_166 {x : SB} {F : ((Nat × Nat × Int32 × Int32 × Int32 × Int32 × Int32 × Int32 × Mm) ⊕ Unit × Mm) → Prop} (X : CX x cX6_layWays RX6 2) (hL : x.2.2.2.1 = 8) (Hr : RTV x cX6_layWays F Sum.inr) (HH : ∀ q, F (.inl q) → pX6_layWays x q) {l0 : Nat} {l1 : Int32} {l2 : Int32} {l3 : Int32} {l4 : Int32} {s0 : Int32} {s1 : Int32} {s2 : Nat} {M : Mm} (h_l0 : sh l0 = 16) (h_s2 : sh s2 = 0) : SIM x F (bX6_layWays_166 l0 l1 l2 l3 l4 s0 s1 s2 M) 166 [(0, rf x.2.1 l0), (1, .int l1), (2, .int l2), (3, .int l3), (4, .int l4)] [.int s0, .int s1, rf x.2.1 s2] M := by
  unfold bX6_layWays_166
  refine r_iast X h_s2 dX6_layWays_166 (fun M1 => ?_)
  refine r_iinc [(4, .int (l4 + 1)), (0, rf x.2.1 l0), (1, .int l1), (2, .int l2), (3, .int l3)] X dX6_layWays_167 4 rfl rfl (nlt hL (by decide)) rfl ?_
  refine r_goto 10 X dX6_layWays_170 (by decide) ?_
  exact r_hdr [(0, rf x.2.1 l0), (1, .int l1), (2, .int l2), (3, .int l3), (4, .int (l4 + 1))] [1, 2, 3, 4, 0] rfl (fun h => HH _ h h_l0)
set_option maxRecDepth 100000 in
noncomputable def bX6_layWays_140 (l0 : Nat) (l1 : Int32) (l2 : Int32) (l3 : Int32) (l4 : Int32) (l5 : Int32) (M : Mm) : Option ((Nat × Nat × Int32 × Int32 × Int32 × Int32 × Int32 × Int32 × Mm) ⊕ Unit × Mm) := gfR M 0 l0 39 fun v2 => cal (fX6_has l2 l4 M) fun v4 M3 => if v4 = 0 then bX6_layWays_166 l0 l1 l2 l3 l4 l5 (((8 : Int32) * l3) + l4) v2 M3 else bX6_layWays_166 l0 l1 l2 l3 l4 0 (((8 : Int32) * l3) + l4) v2 M3
set_option maxRecDepth 100000 in
set_option maxHeartbeats 4000000 in
theorem sX6_layWays_140 {x : SB} {F : ((Nat × Nat × Int32 × Int32 × Int32 × Int32 × Int32 × Int32 × Mm) ⊕ Unit × Mm) → Prop} (X : CX x cX6_layWays RX6 2) (hL : x.2.2.2.1 = 8) (Hr : RTV x cX6_layWays F Sum.inr) (HH : ∀ q, F (.inl q) → pX6_layWays x q) {l0 : Nat} {l1 : Int32} {l2 : Int32} {l3 : Int32} {l4 : Int32} {l5 : Int32} {M : Mm} (h_l0 : sh l0 = 16) : SIM x F (bX6_layWays_140 l0 l1 l2 l3 l4 l5 M) 140 [(0, rf x.2.1 l0), (1, .int l1), (2, .int l2), (3, .int l3), (4, .int l4), (5, .int l5)] [] M := by
  unfold bX6_layWays_140
  refine r_aload_n X dX6_layWays_140 rfl 0 rfl ?_
  refine r_getR X fl_X6_85 (by decide) h_l0 dX6_layWays_141 (fun v2 h_v2 => ?_)
  refine r_bipush (v := 8) X dX6_layWays_144 (by decide) ?_
  refine r_iload_n X dX6_layWays_146 rfl 3 rfl ?_
  refine r_imul X dX6_layWays_147 ?_
  refine r_iload X dX6_layWays_148 4 rfl ?_
  refine r_iadd X dX6_layWays_150 ?_
  refine r_iload_n X dX6_layWays_151 rfl 2 rfl ?_
  refine r_iload X dX6_layWays_152 4 rfl ?_
  refine r_callSI [.int l2, .int l4] X mt_X6_145 (by decide) (okX6_has _ _ X.J) rfl (Nat.le_of_ble_eq_true rfl) dX6_layWays_154 rfl (fun v4 M3 => ?_)
  refine r_if_eq 164 X dX6_layWays_157 (by decide) ?_ ?_
  · refine r_iload X dX6_layWays_164 5 rfl ?_
    exact r_to [(0, rf x.2.1 l0), (1, .int l1), (2, .int l2), (3, .int l3), (4, .int l4)] [0, 1, 2, 3, 4] rfl (sX6_layWays_166 X hL Hr HH h_l0 h_v2)
  · refine r_iconst (v := 0) X dX6_layWays_160 (by decide) ?_
    refine r_goto 166 X dX6_layWays_161 (by decide) ?_
    exact r_to [(0, rf x.2.1 l0), (1, .int l1), (2, .int l2), (3, .int l3), (4, .int l4)] [0, 1, 2, 3, 4] rfl (sX6_layWays_166 X hL Hr HH h_l0 h_v2)
set_option maxRecDepth 100000 in
noncomputable def bX6_layWays_131 (l0 : Nat) (l1 : Int32) (l2 : Int32) (l3 : Int32) (l4 : Int32) (l6 : Int32) (s0 : Int32) (s1 : Int32) (M : Mm) : Option ((Nat × Nat × Int32 × Int32 × Int32 × Int32 × Int32 × Int32 × Mm) ⊕ Unit × Mm) := ltI (s1 + s0) fun v5 => some (.inl (3, l0, l1, l2, l3, l4, v5, (l6 + 1), M))
set_option maxRecDepth 100000 in
set_option maxHeartbeats 4000000 in
theorem sX6_layWays_131 {x : SB} {F : ((Nat × Nat × Int32 × Int32 × Int32 × Int32 × Int32 × Int32 × Mm) ⊕ Unit × Mm) → Prop} (X : CX x cX6_layWays RX6 2) (hL : x.2.2.2.1 = 8) (Hr : RTV x cX6_layWays F Sum.inr) (HH : ∀ q, F (.inl q) → pX6_layWays x q) {l0 : Nat} {l1 : Int32} {l2 : Int32} {l3 : Int32} {l4 : Int32} {l6 : Int32} {s0 : Int32} {s1 : Int32} {M : Mm} (h_l0 : sh l0 = 16) : SIM x F (bX6_layWays_131 l0 l1 l2 l3 l4 l6 s0 s1 M) 131 [(0, rf x.2.1 l0), (1, .int l1), (2, .int l2), (3, .int l3), (4, .int l4), (6, .int l6)] [.int s0, .int s1] M := by
  unfold bX6_layWays_131
  refine r_iadd X dX6_layWays_131 ?_
  refine r_letI (fun v5 => ?_)
  refine r_istore [(5, .int v5), (0, rf x.2.1 l0), (1, .int l1), (2, .int l2), (3, .int l3), (4, .int l4), (6, .int l6)] X dX6_layWays_132 (nlt hL (by decide)) rfl ?_
  refine r_iinc [(6, .int (l6 + 1)), (5, .int v5), (0, rf x.2.1 l0), (1, .int l1), (2, .int l2), (3, .int l3), (4, .int l4)] X dX6_layWays_134 6 rfl rfl (nlt hL (by decide)) rfl ?_
  refine r_goto 42 X dX6_layWays_137 (by decide) ?_
  exact r_hdr [(0, rf x.2.1 l0), (1, .int l1), (2, .int l2), (3, .int l3), (4, .int l4), (5, .int v5), (6, .int (l6 + 1))] [2, 3, 4, 5, 6, 1, 0] rfl (fun h => HH _ h h_l0)
set_option maxRecDepth 100000 in
noncomputable def bX6_layWays_130 (l0 : Nat) (l1 : Int32) (l2 : Int32) (l3 : Int32) (l4 : Int32) (l6 : Int32) (s0 : Int32) (M : Mm) : Option ((Nat × Nat × Int32 × Int32 × Int32 × Int32 × Int32 × Int32 × Mm) ⊕ Unit × Mm) := bX6_layWays_131 l0 l1 l2 l3 l4 l6 0 s0 M
set_option maxRecDepth 100000 in
set_option maxHeartbeats 4000000 in
theorem sX6_layWays_130 {x : SB} {F : ((Nat × Nat × Int32 × Int32 × Int32 × Int32 × Int32 × Int32 × Mm) ⊕ Unit × Mm) → Prop} (X : CX x cX6_layWays RX6 2) (hL : x.2.2.2.1 = 8) (Hr : RTV x cX6_layWays F Sum.inr) (HH : ∀ q, F (.inl q) → pX6_layWays x q) {l0 : Nat} {l1 : Int32} {l2 : Int32} {l3 : Int32} {l4 : Int32} {l6 : Int32} {s0 : Int32} {M : Mm} (h_l0 : sh l0 = 16) : SIM x F (bX6_layWays_130 l0 l1 l2 l3 l4 l6 s0 M) 130 [(0, rf x.2.1 l0), (1, .int l1), (2, .int l2), (3, .int l3), (4, .int l4), (6, .int l6)] [.int s0] M := by
  unfold bX6_layWays_130
  refine r_iconst (v := 0) X dX6_layWays_130 (by decide) ?_
  exact r_to [(0, rf x.2.1 l0), (1, .int l1), (2, .int l2), (3, .int l3), (4, .int l4), (6, .int l6)] [0, 1, 2, 3, 4, 5] rfl (sX6_layWays_131 X hL Hr HH h_l0)
set_option maxRecDepth 100000 in
noncomputable def bX6_layWays_89 (l0 : Nat) (l1 : Int32) (l2 : Int32) (l3 : Int32) (l4 : Int32) (l5 : Int32) (l6 : Int32) (s0 : Int32) (M : Mm) : Option ((Nat × Nat × Int32 × Int32 × Int32 × Int32 × Int32 × Int32 × Mm) ⊕ Unit × Mm) := gfR M 0 l0 13 fun v6 => ldI M v6 l4 fun v7 => cal (fX6_has v7 l6 M) fun v9 M8 => if v9 = 0 then bX6_layWays_130 l0 l1 l2 l3 l4 l6 l5 M8 else if s0 = 0 then bX6_layWays_130 l0 l1 l2 l3 l4 l6 l5 M8 else gfR M8 0 l0 39 fun v10 => ldI M8 v10 (((8 : Int32) * (l3 - 1)) + l6) fun v11 => bX6_layWays_131 l0 l1 l2 l3 l4 l6 v11 l5 M8
set_option maxRecDepth 100000 in
set_option maxHeartbeats 4000000 in
theorem sX6_layWays_89 {x : SB} {F : ((Nat × Nat × Int32 × Int32 × Int32 × Int32 × Int32 × Int32 × Mm) ⊕ Unit × Mm) → Prop} (X : CX x cX6_layWays RX6 2) (hL : x.2.2.2.1 = 8) (Hr : RTV x cX6_layWays F Sum.inr) (HH : ∀ q, F (.inl q) → pX6_layWays x q) {l0 : Nat} {l1 : Int32} {l2 : Int32} {l3 : Int32} {l4 : Int32} {l5 : Int32} {l6 : Int32} {s0 : Int32} {M : Mm} (h_l0 : sh l0 = 16) : SIM x F (bX6_layWays_89 l0 l1 l2 l3 l4 l5 l6 s0 M) 89 [(0, rf x.2.1 l0), (1, .int l1), (2, .int l2), (3, .int l3), (4, .int l4), (5, .int l5), (6, .int l6)] [.int s0] M := by
  unfold bX6_layWays_89
  refine r_istore [(7, .int s0), (0, rf x.2.1 l0), (1, .int l1), (2, .int l2), (3, .int l3), (4, .int l4), (5, .int l5), (6, .int l6)] X dX6_layWays_89 (nlt hL (by decide)) rfl ?_
  refine r_iload X dX6_layWays_91 6 rfl ?_
  refine r_aload_n X dX6_layWays_93 rfl 1 rfl ?_
  refine r_getR X fl_X6_36 (by decide) h_l0 dX6_layWays_94 (fun v6 h_v6 => ?_)
  refine r_iload X dX6_layWays_97 5 rfl ?_
  refine r_iald X h_v6 dX6_layWays_99 (fun v7 => ?_)
  refine r_iload X dX6_layWays_100 7 rfl ?_
  refine r_callSI [.int v7, .int l6] X mt_X6_145 (by decide) (okX6_has _ _ X.J) rfl (Nat.le_of_ble_eq_true rfl) dX6_layWays_102 rfl (fun v9 M8 => ?_)
  refine r_if_eq 130 X dX6_layWays_105 (by decide) ?_ ?_
  · exact r_to [(0, rf x.2.1 l0), (1, .int l1), (2, .int l2), (3, .int l3), (4, .int l4), (6, .int l6)] [1, 2, 3, 4, 5, 7] rfl (sX6_layWays_130 X hL Hr HH h_l0)
  · refine r_iload X dX6_layWays_108 0 rfl ?_
    refine r_if_eq 130 X dX6_layWays_110 (by decide) ?_ ?_
    · exact r_to [(0, rf x.2.1 l0), (1, .int l1), (2, .int l2), (3, .int l3), (4, .int l4), (6, .int l6)] [1, 2, 3, 4, 5, 7] rfl (sX6_layWays_130 X hL Hr HH h_l0)
    · refine r_aload_n X dX6_layWays_113 rfl 1 rfl ?_
      refine r_getR X fl_X6_85 (by decide) h_l0 dX6_layWays_114 (fun v10 h_v10 => ?_)
      refine r_bipush (v := 8) X dX6_layWays_117 (by decide) ?_
      refine r_iload_n X dX6_layWays_119 rfl 4 rfl ?_
      refine r_iconst (v := 1) X dX6_layWays_120 (by decide) ?_
      refine r_isub X dX6_layWays_121 ?_
      refine r_imul X dX6_layWays_122 ?_
      refine r_iload X dX6_layWays_123 7 rfl ?_
      refine r_iadd X dX6_layWays_125 ?_
      refine r_iald X h_v10 dX6_layWays_126 (fun v11 => ?_)
      refine r_goto 131 X dX6_layWays_127 (by decide) ?_
      exact r_to [(0, rf x.2.1 l0), (1, .int l1), (2, .int l2), (3, .int l3), (4, .int l4), (6, .int l6)] [1, 2, 3, 4, 5, 7] rfl (sX6_layWays_131 X hL Hr HH h_l0)
set_option maxRecDepth 100000 in
noncomputable def bX6_layWays_42 (l0 : Nat) (l1 : Int32) (l2 : Int32) (l3 : Int32) (l4 : Int32) (l5 : Int32) (l6 : Int32) (M : Mm) : Option ((Nat × Nat × Int32 × Int32 × Int32 × Int32 × Int32 × Int32 × Mm) ⊕ Unit × Mm) := gfI M l0 10 fun v12 => if v12 ≤ l6 then bX6_layWays_140 l0 l1 l2 l3 l4 l5 M else if l3 ≤ 0 then bX6_layWays_140 l0 l1 l2 l3 l4 l5 M else cal (fX6_marks l0 0 0 l6 M) fun v14 M13 => cal (fX6_marks l0 0 1 l6 M13) fun v16 M15 => cal (fX6_marks l0 0 2 l6 M15) fun v18 M17 => if ((v14 + v16) + v18) ≤ 0 then bX6_layWays_89 l0 l1 l2 l3 l4 l5 l6 0 M17 else bX6_layWays_89 l0 l1 l2 l3 l4 l5 l6 1 M17
set_option maxRecDepth 100000 in
set_option maxHeartbeats 4000000 in
theorem sX6_layWays_42 {x : SB} {F : ((Nat × Nat × Int32 × Int32 × Int32 × Int32 × Int32 × Int32 × Mm) ⊕ Unit × Mm) → Prop} (X : CX x cX6_layWays RX6 2) (hL : x.2.2.2.1 = 8) (Hr : RTV x cX6_layWays F Sum.inr) (HH : ∀ q, F (.inl q) → pX6_layWays x q) {l0 : Nat} {l1 : Int32} {l2 : Int32} {l3 : Int32} {l4 : Int32} {l5 : Int32} {l6 : Int32} {M : Mm} (h_l0 : sh l0 = 16) : SIM x F (bX6_layWays_42 l0 l1 l2 l3 l4 l5 l6 M) 42 [(0, rf x.2.1 l0), (1, .int l1), (2, .int l2), (3, .int l3), (4, .int l4), (5, .int l5), (6, .int l6)] [] M := by
  unfold bX6_layWays_42
  refine r_iload X dX6_layWays_42 6 rfl ?_
  refine r_aload_n X dX6_layWays_44 rfl 0 rfl ?_
  refine r_getI X fl_X6_167 (by decide) h_l0 dX6_layWays_45 (fun v12 => ?_)
  refine r_icmp_ge 140 X dX6_layWays_48 (by decide) ?_ ?_
  · exact r_to [(0, rf x.2.1 l0), (1, .int l1), (2, .int l2), (3, .int l3), (4, .int l4), (5, .int l5)] [0, 1, 2, 3, 4, 5] rfl (sX6_layWays_140 X hL Hr HH h_l0)
  · refine r_iload_n X dX6_layWays_51 rfl 3 rfl ?_
    refine r_if_le 140 X dX6_layWays_52 (by decide) ?_ ?_
    · exact r_to [(0, rf x.2.1 l0), (1, .int l1), (2, .int l2), (3, .int l3), (4, .int l4), (5, .int l5)] [0, 1, 2, 3, 4, 5] rfl (sX6_layWays_140 X hL Hr HH h_l0)
    · refine r_aload_n X dX6_layWays_55 rfl 0 rfl ?_
      refine r_iconst (v := 0) X dX6_layWays_56 (by decide) ?_
      refine r_iconst (v := 0) X dX6_layWays_57 (by decide) ?_
      refine r_iload X dX6_layWays_58 6 rfl ?_
      refine r_callVI [.int 0, .int 0, .int l6] X mt_X6_184 (by decide) h_l0 (by decide) (okX6_marks _ _ X.J h_l0) rfl (Nat.le_of_ble_eq_true rfl) dX6_layWays_60 rfl (fun v14 M13 => ?_)
      refine r_aload_n X dX6_layWays_63 rfl 0 rfl ?_
      refine r_iconst (v := 0) X dX6_layWays_64 (by decide) ?_
      refine r_iconst (v := 1) X dX6_layWays_65 (by decide) ?_
      refine r_iload X dX6_layWays_66 6 rfl ?_
      refine r_callVI [.int 0, .int 1, .int l6] X mt_X6_184 (by decide) h_l0 (by decide) (okX6_marks _ _ X.J h_l0) rfl (Nat.le_of_ble_eq_true rfl) dX6_layWays_68 rfl (fun v16 M15 => ?_)
      refine r_iadd X dX6_layWays_71 ?_
      refine r_aload_n X dX6_layWays_72 rfl 0 rfl ?_
      refine r_iconst (v := 0) X dX6_layWays_73 (by decide) ?_
      refine r_iconst (v := 2) X dX6_layWays_74 (by decide) ?_
      refine r_iload X dX6_layWays_75 6 rfl ?_
      refine r_callVI [.int 0, .int 2, .int l6] X mt_X6_184 (by decide) h_l0 (by decide) (okX6_marks _ _ X.J h_l0) rfl (Nat.le_of_ble_eq_true rfl) dX6_layWays_77 rfl (fun v18 M17 => ?_)
      refine r_iadd X dX6_layWays_80 ?_
      refine r_if_le 88 X dX6_layWays_81 (by decide) ?_ ?_
      · refine r_iconst (v := 0) X dX6_layWays_88 (by decide) ?_
        exact r_to [(0, rf x.2.1 l0), (1, .int l1), (2, .int l2), (3, .int l3), (4, .int l4), (5, .int l5), (6, .int l6)] [0, 1, 2, 3, 4, 5, 6] rfl (sX6_layWays_89 X hL Hr HH h_l0)
      · refine r_iconst (v := 1) X dX6_layWays_84 (by decide) ?_
        refine r_goto 89 X dX6_layWays_85 (by decide) ?_
        exact r_to [(0, rf x.2.1 l0), (1, .int l1), (2, .int l2), (3, .int l3), (4, .int l4), (5, .int l5), (6, .int l6)] [0, 1, 2, 3, 4, 5, 6] rfl (sX6_layWays_89 X hL Hr HH h_l0)
set_option maxRecDepth 100000 in
noncomputable def bX6_layWays_37 (l0 : Nat) (l1 : Int32) (l2 : Int32) (l3 : Int32) (l4 : Int32) (s0 : Int32) (M : Mm) : Option ((Nat × Nat × Int32 × Int32 × Int32 × Int32 × Int32 × Int32 × Mm) ⊕ Unit × Mm) := some (.inl (3, l0, l1, l2, l3, l4, s0, 0, M))
set_option maxRecDepth 100000 in
set_option maxHeartbeats 4000000 in
theorem sX6_layWays_37 {x : SB} {F : ((Nat × Nat × Int32 × Int32 × Int32 × Int32 × Int32 × Int32 × Mm) ⊕ Unit × Mm) → Prop} (X : CX x cX6_layWays RX6 2) (hL : x.2.2.2.1 = 8) (Hr : RTV x cX6_layWays F Sum.inr) (HH : ∀ q, F (.inl q) → pX6_layWays x q) {l0 : Nat} {l1 : Int32} {l2 : Int32} {l3 : Int32} {l4 : Int32} {s0 : Int32} {M : Mm} (h_l0 : sh l0 = 16) : SIM x F (bX6_layWays_37 l0 l1 l2 l3 l4 s0 M) 37 [(0, rf x.2.1 l0), (1, .int l1), (2, .int l2), (3, .int l3), (4, .int l4)] [.int s0] M := by
  unfold bX6_layWays_37
  refine r_istore [(5, .int s0), (0, rf x.2.1 l0), (1, .int l1), (2, .int l2), (3, .int l3), (4, .int l4)] X dX6_layWays_37 (nlt hL (by decide)) rfl ?_
  refine r_iconst (v := 0) X dX6_layWays_39 (by decide) ?_
  refine r_istore [(6, .int 0), (5, .int s0), (0, rf x.2.1 l0), (1, .int l1), (2, .int l2), (3, .int l3), (4, .int l4)] X dX6_layWays_40 (nlt hL (by decide)) rfl ?_
  exact r_hdr [(0, rf x.2.1 l0), (1, .int l1), (2, .int l2), (3, .int l3), (4, .int l4), (5, .int s0), (6, .int 0)] [2, 3, 4, 5, 6, 1, 0] rfl (fun h => HH _ h h_l0)
set_option maxRecDepth 100000 in
noncomputable def bX6_layWays_36 (l0 : Nat) (l1 : Int32) (l2 : Int32) (l3 : Int32) (l4 : Int32) (M : Mm) : Option ((Nat × Nat × Int32 × Int32 × Int32 × Int32 × Int32 × Int32 × Mm) ⊕ Unit × Mm) := bX6_layWays_37 l0 l1 l2 l3 l4 0 M
set_option maxRecDepth 100000 in
set_option maxHeartbeats 4000000 in
theorem sX6_layWays_36 {x : SB} {F : ((Nat × Nat × Int32 × Int32 × Int32 × Int32 × Int32 × Int32 × Mm) ⊕ Unit × Mm) → Prop} (X : CX x cX6_layWays RX6 2) (hL : x.2.2.2.1 = 8) (Hr : RTV x cX6_layWays F Sum.inr) (HH : ∀ q, F (.inl q) → pX6_layWays x q) {l0 : Nat} {l1 : Int32} {l2 : Int32} {l3 : Int32} {l4 : Int32} {M : Mm} (h_l0 : sh l0 = 16) : SIM x F (bX6_layWays_36 l0 l1 l2 l3 l4 M) 36 [(0, rf x.2.1 l0), (1, .int l1), (2, .int l2), (3, .int l3), (4, .int l4)] [] M := by
  unfold bX6_layWays_36
  refine r_iconst (v := 0) X dX6_layWays_36 (by decide) ?_
  exact r_to [(0, rf x.2.1 l0), (1, .int l1), (2, .int l2), (3, .int l3), (4, .int l4)] [0, 1, 2, 3, 4] rfl (sX6_layWays_37 X hL Hr HH h_l0)
set_option maxRecDepth 100000 in
noncomputable def bX6_layWays_10 (l0 : Nat) (l1 : Int32) (l2 : Int32) (l3 : Int32) (l4 : Int32) (M : Mm) : Option ((Nat × Nat × Int32 × Int32 × Int32 × Int32 × Int32 × Int32 × Mm) ⊕ Unit × Mm) := gfI M l0 10 fun v19 => if v19 ≤ l4 then some (.inl (1, l0, l1, l2, (l3 + 1), 0, 0, 0, M)) else if l3 = 0 then cal (fX6_hereNow l0 M) fun v21 M20 => if l4 = v21 then bX6_layWays_37 l0 l1 l2 l3 l4 1 M20 else bX6_layWays_36 l0 l1 l2 l3 l4 M20 else bX6_layWays_36 l0 l1 l2 l3 l4 M
set_option maxRecDepth 100000 in
set_option maxHeartbeats 4000000 in
theorem sX6_layWays_10 {x : SB} {F : ((Nat × Nat × Int32 × Int32 × Int32 × Int32 × Int32 × Int32 × Mm) ⊕ Unit × Mm) → Prop} (X : CX x cX6_layWays RX6 2) (hL : x.2.2.2.1 = 8) (Hr : RTV x cX6_layWays F Sum.inr) (HH : ∀ q, F (.inl q) → pX6_layWays x q) {l0 : Nat} {l1 : Int32} {l2 : Int32} {l3 : Int32} {l4 : Int32} {M : Mm} (h_l0 : sh l0 = 16) : SIM x F (bX6_layWays_10 l0 l1 l2 l3 l4 M) 10 [(0, rf x.2.1 l0), (1, .int l1), (2, .int l2), (3, .int l3), (4, .int l4)] [] M := by
  unfold bX6_layWays_10
  refine r_iload X dX6_layWays_10 4 rfl ?_
  refine r_aload_n X dX6_layWays_12 rfl 0 rfl ?_
  refine r_getI X fl_X6_167 (by decide) h_l0 dX6_layWays_13 (fun v19 => ?_)
  refine r_icmp_ge 173 X dX6_layWays_16 (by decide) ?_ ?_
  · refine r_iinc [(3, .int (l3 + 1)), (0, rf x.2.1 l0), (1, .int l1), (2, .int l2), (4, .int l4)] X dX6_layWays_173 3 rfl rfl (nlt hL (by decide)) rfl ?_
    refine r_goto 2 X dX6_layWays_176 (by decide) ?_
    exact r_hdr [(0, rf x.2.1 l0), (1, .int l1), (2, .int l2), (3, .int (l3 + 1))] [1, 2, 3, 0] rfl (fun h => HH _ h h_l0)
  · refine r_iload_n X dX6_layWays_19 rfl 3 rfl ?_
    refine r_if_ne 36 X dX6_layWays_20 (by decide) ?_ ?_
    · refine r_iload X dX6_layWays_23 4 rfl ?_
      refine r_aload_n X dX6_layWays_25 rfl 0 rfl ?_
      refine r_callVI [] X mt_X6_223 (by decide) h_l0 (by decide) (okX6_hereNow _ _ X.J h_l0) rfl (Nat.le_of_ble_eq_true rfl) dX6_layWays_26 rfl (fun v21 M20 => ?_)
      refine r_icmp_ne 36 X dX6_layWays_29 (by decide) ?_ ?_
      · refine r_iconst (v := 1) X dX6_layWays_32 (by decide) ?_
        refine r_goto 37 X dX6_layWays_33 (by decide) ?_
        exact r_to [(0, rf x.2.1 l0), (1, .int l1), (2, .int l2), (3, .int l3), (4, .int l4)] [0, 1, 2, 3, 4] rfl (sX6_layWays_37 X hL Hr HH h_l0)
      · exact r_to [(0, rf x.2.1 l0), (1, .int l1), (2, .int l2), (3, .int l3), (4, .int l4)] [0, 1, 2, 3, 4] rfl (sX6_layWays_36 X hL Hr HH h_l0)
    · exact r_to [(0, rf x.2.1 l0), (1, .int l1), (2, .int l2), (3, .int l3), (4, .int l4)] [0, 1, 2, 3, 4] rfl (sX6_layWays_36 X hL Hr HH h_l0)
set_option maxRecDepth 100000 in
noncomputable def bX6_layWays_2 (l0 : Nat) (l1 : Int32) (l2 : Int32) (l3 : Int32) (M : Mm) : Option ((Nat × Nat × Int32 × Int32 × Int32 × Int32 × Int32 × Int32 × Mm) ⊕ Unit × Mm) := if l1 < l3 then some (.inr ((), M)) else some (.inl (2, l0, l1, l2, l3, 0, 0, 0, M))
set_option maxRecDepth 100000 in
set_option maxHeartbeats 4000000 in
theorem sX6_layWays_2 {x : SB} {F : ((Nat × Nat × Int32 × Int32 × Int32 × Int32 × Int32 × Int32 × Mm) ⊕ Unit × Mm) → Prop} (X : CX x cX6_layWays RX6 2) (hL : x.2.2.2.1 = 8) (Hr : RTV x cX6_layWays F Sum.inr) (HH : ∀ q, F (.inl q) → pX6_layWays x q) {l0 : Nat} {l1 : Int32} {l2 : Int32} {l3 : Int32} {M : Mm} (h_l0 : sh l0 = 16) : SIM x F (bX6_layWays_2 l0 l1 l2 l3 M) 2 [(0, rf x.2.1 l0), (1, .int l1), (2, .int l2), (3, .int l3)] [] M := by
  unfold bX6_layWays_2
  refine r_iload_n X dX6_layWays_2 rfl 3 rfl ?_
  refine r_iload_n X dX6_layWays_3 rfl 1 rfl ?_
  refine r_icmp_gt 179 X dX6_layWays_4 (by decide) ?_ ?_
  · exact r_vret Hr dX6_layWays_179
  · refine r_iconst (v := 0) X dX6_layWays_7 (by decide) ?_
    refine r_istore [(4, .int 0), (0, rf x.2.1 l0), (1, .int l1), (2, .int l2), (3, .int l3)] X dX6_layWays_8 (nlt hL (by decide)) rfl ?_
    exact r_hdr [(0, rf x.2.1 l0), (1, .int l1), (2, .int l2), (3, .int l3), (4, .int 0)] [1, 2, 3, 4, 0] rfl (fun h => HH _ h h_l0)
set_option maxRecDepth 100000 in
noncomputable def bX6_layWays_0 (l0 : Nat) (l1 : Int32) (l2 : Int32) (M : Mm) : Option ((Nat × Nat × Int32 × Int32 × Int32 × Int32 × Int32 × Int32 × Mm) ⊕ Unit × Mm) := some (.inl (1, l0, l1, l2, 0, 0, 0, 0, M))
set_option maxRecDepth 100000 in
set_option maxHeartbeats 4000000 in
theorem sX6_layWays_0 {x : SB} {F : ((Nat × Nat × Int32 × Int32 × Int32 × Int32 × Int32 × Int32 × Mm) ⊕ Unit × Mm) → Prop} (X : CX x cX6_layWays RX6 2) (hL : x.2.2.2.1 = 8) (Hr : RTV x cX6_layWays F Sum.inr) (HH : ∀ q, F (.inl q) → pX6_layWays x q) {l0 : Nat} {l1 : Int32} {l2 : Int32} {M : Mm} (h_l0 : sh l0 = 16) : SIM x F (bX6_layWays_0 l0 l1 l2 M) 0 [(0, rf x.2.1 l0), (1, .int l1), (2, .int l2)] [] M := by
  unfold bX6_layWays_0
  refine r_iconst (v := 0) X dX6_layWays_0 (by decide) ?_
  refine r_istore_n [(3, .int 0), (0, rf x.2.1 l0), (1, .int l1), (2, .int l2)] X dX6_layWays_1 rfl (nlt hL (by decide)) rfl ?_
  exact r_hdr [(0, rf x.2.1 l0), (1, .int l1), (2, .int l2), (3, .int 0)] [1, 2, 3, 0] rfl (fun h => HH _ h h_l0)
set_option maxRecDepth 100000 in
noncomputable def gX6_layWays (q : Nat × Nat × Int32 × Int32 × Int32 × Int32 × Int32 × Int32 × Mm) : Option ((Nat × Nat × Int32 × Int32 × Int32 × Int32 × Int32 × Int32 × Mm) ⊕ Unit × Mm) := match q.1 with
  | 1 => bX6_layWays_2 (q.2.1) (q.2.2.1) (q.2.2.2.1) (q.2.2.2.2.1) (q.2.2.2.2.2.2.2.2)
  | 2 => bX6_layWays_10 (q.2.1) (q.2.2.1) (q.2.2.2.1) (q.2.2.2.2.1) (q.2.2.2.2.2.1) (q.2.2.2.2.2.2.2.2)
  | 3 => bX6_layWays_42 (q.2.1) (q.2.2.1) (q.2.2.2.1) (q.2.2.2.2.1) (q.2.2.2.2.2.1) (q.2.2.2.2.2.2.1) (q.2.2.2.2.2.2.2.1) (q.2.2.2.2.2.2.2.2)
  | _ => none
set_option maxRecDepth 100000 in
noncomputable def fX6_layWays (l0 : Nat) (l1 : Int32) (l2 : Int32) (M : Mm) : Option (Unit × Mm) := fen gX6_layWays (bX6_layWays_0 l0 l1 l2 M)
set_option maxRecDepth 100000 in
set_option maxHeartbeats 4000000 in
theorem okX6_layWays (l : Launch) (g : GX) (hJ : IJ g) {l0 : Nat} {l1 : Int32} {l2 : Int32} {M : Mm} (h_l0 : sh l0 = 16) : CT l g yX6_layWays cX6_layWays 8 none 2 [rf g l0, .int l1, .int l2] M (fX6_layWays l0 l1 l2 M) (fun _ => none) := by
  refine ct_V rfl hJ (Nat.le_of_ble_eq_true rfl) (fun x r hg hL hl X hf Hr => ?_)
  subst hg
  have Hr2 : RTV x cX6_layWays (Sum.elim (pX6_layWays x) (fun q => q = r)) Sum.inr := fun M h => Hr M h
  have HP : ∀ q, fnl gX6_layWays q = some r → pX6_layWays x q := by
    intro q hq
    refine fnl_ind (pX6_layWays x) (fun q hq => ?_) hq
    obtain ⟨n, l0, l1, l2, l3, l4, l5, l6, M⟩ := q
    match n, hq with
    | 1, hq => exact fun h_l0 ls H locs hl hP hS => sX6_layWays_2 X hL Hr2 (fun _ h => h) h_l0 hq ls H locs hl hP hS
    | 2, hq => exact fun h_l0 ls H locs hl hP hS => sX6_layWays_10 X hL Hr2 (fun _ h => h) h_l0 hq ls H locs hl hP hS
    | 3, hq => exact fun h_l0 ls H locs hl hP hS => sX6_layWays_42 X hL Hr2 (fun _ h => h) h_l0 hq ls H locs hl hP hS
    | 0, hq => exact trivial
    | n + 4, hq => exact trivial
  exact fun _ ls H locs hl hP hS => sX6_layWays_0 X hL Hr2 (fun _ h => h) h_l0 (fen_w hf HP) ls H locs hl hP hS
/-! CrumbWoodModel.lead(I)I -/
set_option maxRecDepth 100000 in
noncomputable def fX6_lead (l0 : Nat) (l1 : Int32) (M : Mm) : Option (Int32 × Mm) := cal (fX6_isPlace l0 l1 M) fun v2 M1 => if v2 = 0 then some (((-1), M1)) else gfR M1 0 l0 13 fun v3 => cal (fX6_hereNow l0 M1) fun v5 M4 => ldI M4 v3 v5 fun v6 => cal (fX6_has v6 l1 M4) fun v8 M7 => if v8 = 0 then some (((-4), M7)) else gfI M7 l0 25 fun v9 => if v9 = 30 then some (((-2), M7)) else gfI M7 l0 25 fun v10 => pfI M7 l0 25 (v10 + 1) fun M11 => gfR M11 0 l0 26 fun v12 => gfI M11 l0 25 fun v13 => stI M11 v12 v13 l1 fun M14 => gfI M14 l0 25 fun v15 => some ((v15, M14))
set_option maxRecDepth 100000 in
set_option maxHeartbeats 4000000 in
theorem sX6_lead_0 {x : SB} {F : (Int32 × Mm) → Prop} (X : CX x cX6_lead RX6 2) (hL : x.2.2.2.1 = 2) (Hr : RTI x cX6_lead .int F (fun q => q)) {l0 : Nat} {l1 : Int32} {M : Mm} (h_l0 : sh l0 = 16) : SIM x F (fX6_lead l0 l1 M) 0 [(0, rf x.2.1 l0), (1, .int l1)] [] M := by
  unfold fX6_lead
  refine r_aload_n X dX6_lead_0 rfl 0 rfl ?_
  refine r_iload_n X dX6_lead_1 rfl 1 rfl ?_
  refine r_callVI [.int l1] X mt_X6_211 (by decide) h_l0 (by decide) (okX6_isPlace _ _ X.J h_l0) rfl (Nat.le_of_ble_eq_true rfl) dX6_lead_2 rfl (fun v2 M1 => ?_)
  refine r_if_ne 10 X dX6_lead_5 (by decide) ?_ ?_
  · refine r_iconst (v := (-1)) X dX6_lead_8 (by decide) ?_
    exact r_iret Hr rfl dX6_lead_9
  · refine r_aload_n X dX6_lead_10 rfl 0 rfl ?_
    refine r_getR X fl_X6_36 (by decide) h_l0 dX6_lead_11 (fun v3 h_v3 => ?_)
    refine r_aload_n X dX6_lead_14 rfl 0 rfl ?_
    refine r_callVI [] X mt_X6_223 (by decide) h_l0 (by decide) (okX6_hereNow _ _ X.J h_l0) rfl (Nat.le_of_ble_eq_true rfl) dX6_lead_15 rfl (fun v5 M4 => ?_)
    refine r_iald X h_v3 dX6_lead_18 (fun v6 => ?_)
    refine r_iload_n X dX6_lead_19 rfl 1 rfl ?_
    refine r_callSI [.int v6, .int l1] X mt_X6_145 (by decide) (okX6_has _ _ X.J) rfl (Nat.le_of_ble_eq_true rfl) dX6_lead_20 rfl (fun v8 M7 => ?_)
    refine r_if_ne 29 X dX6_lead_23 (by decide) ?_ ?_
    · refine r_bipush (v := (-4)) X dX6_lead_26 (by decide) ?_
      exact r_iret Hr rfl dX6_lead_28
    · refine r_aload_n X dX6_lead_29 rfl 0 rfl ?_
      refine r_getI X fl_X6_177 (by decide) h_l0 dX6_lead_30 (fun v9 => ?_)
      refine r_bipush (v := 30) X dX6_lead_33 (by decide) ?_
      refine r_icmp_ne 41 X dX6_lead_35 (by decide) ?_ ?_
      · refine r_bipush (v := (-2)) X dX6_lead_38 (by decide) ?_
        exact r_iret Hr rfl dX6_lead_40
      · refine r_aload_n X dX6_lead_41 rfl 0 rfl ?_
        refine r_dup X dX6_lead_42 rfl ?_
        refine r_getI X fl_X6_177 (by decide) h_l0 dX6_lead_43 (fun v10 => ?_)
        refine r_iconst (v := 1) X dX6_lead_46 (by decide) ?_
        refine r_iadd X dX6_lead_47 ?_
        refine r_putI X fl_X6_177 (by decide) h_l0 (fun _ => rfl) (fun _ => rfl) dX6_lead_48 (fun M11 => ?_)
        refine r_aload_n X dX6_lead_51 rfl 0 rfl ?_
        refine r_getR X fl_X6_54 (by decide) h_l0 dX6_lead_52 (fun v12 h_v12 => ?_)
        refine r_aload_n X dX6_lead_55 rfl 0 rfl ?_
        refine r_getI X fl_X6_177 (by decide) h_l0 dX6_lead_56 (fun v13 => ?_)
        refine r_iload_n X dX6_lead_59 rfl 1 rfl ?_
        refine r_iast X h_v12 dX6_lead_60 (fun M14 => ?_)
        refine r_aload_n X dX6_lead_61 rfl 0 rfl ?_
        refine r_getI X fl_X6_177 (by decide) h_l0 dX6_lead_62 (fun v15 => ?_)
        exact r_iret Hr rfl dX6_lead_65
set_option maxRecDepth 100000 in
set_option maxHeartbeats 4000000 in
theorem okX6_lead (l : Launch) (g : GX) (hJ : IJ g) {l0 : Nat} {l1 : Int32} {M : Mm} (h_l0 : sh l0 = 16) : CT l g yX6_lead cX6_lead 2 (some .int) 2 [rf g l0, .int l1] M (fX6_lead l0 l1 M) (fun r => some (.int r)) := by
  refine ct_I rfl hJ (Nat.le_of_ble_eq_true rfl) (fun x r hg hL hl X hf Hr => ?_)
  subst hg
  exact fun _ ls H locs hl hP hS => sX6_lead_0 X hL Hr h_l0 ⟨_, hf, rfl⟩ ls H locs hl hP hS
/-! CrumbWoodModel.led(I)I -/
set_option maxRecDepth 100000 in
noncomputable def fX6_led (l0 : Nat) (l1 : Int32) (M : Mm) : Option (Int32 × Mm) := cal (fX6_isRow l1 M) fun v2 M1 => if v2 = 0 then some (((-1), M1)) else gfI M1 l0 10 fun v3 => if v3 = 0 then some (((-4), M1)) else gfR M1 0 l0 26 fun v4 => gfI M1 l0 25 fun v5 => cal (fX6_layRow l0 l1 v4 (v5 + 1) M1) fun _ M6 => gfI M6 l0 25 fun v7 => some (((v7 + 1), M6))
set_option maxRecDepth 100000 in
set_option maxHeartbeats 4000000 in
theorem sX6_led_0 {x : SB} {F : (Int32 × Mm) → Prop} (X : CX x cX6_led RX6 2) (hL : x.2.2.2.1 = 2) (Hr : RTI x cX6_led .int F (fun q => q)) {l0 : Nat} {l1 : Int32} {M : Mm} (h_l0 : sh l0 = 16) : SIM x F (fX6_led l0 l1 M) 0 [(0, rf x.2.1 l0), (1, .int l1)] [] M := by
  unfold fX6_led
  refine r_iload_n X dX6_led_0 rfl 1 rfl ?_
  refine r_callSI [.int l1] X mt_X6_102 (by decide) (okX6_isRow _ _ X.J) rfl (Nat.le_of_ble_eq_true rfl) dX6_led_1 rfl (fun v2 M1 => ?_)
  refine r_if_ne 9 X dX6_led_4 (by decide) ?_ ?_
  · refine r_iconst (v := (-1)) X dX6_led_7 (by decide) ?_
    exact r_iret Hr rfl dX6_led_8
  · refine r_aload_n X dX6_led_9 rfl 0 rfl ?_
    refine r_getI X fl_X6_167 (by decide) h_l0 dX6_led_10 (fun v3 => ?_)
    refine r_if_ne 19 X dX6_led_13 (by decide) ?_ ?_
    · refine r_bipush (v := (-4)) X dX6_led_16 (by decide) ?_
      exact r_iret Hr rfl dX6_led_18
    · refine r_aload_n X dX6_led_19 rfl 0 rfl ?_
      refine r_iload_n X dX6_led_20 rfl 1 rfl ?_
      refine r_aload_n X dX6_led_21 rfl 0 rfl ?_
      refine r_getR X fl_X6_54 (by decide) h_l0 dX6_led_22 (fun v4 h_v4 => ?_)
      refine r_aload_n X dX6_led_25 rfl 0 rfl ?_
      refine r_getI X fl_X6_177 (by decide) h_l0 dX6_led_26 (fun v5 => ?_)
      refine r_iconst (v := 1) X dX6_led_29 (by decide) ?_
      refine r_iadd X dX6_led_30 ?_
      refine r_callVV [.int l1, rf x.2.1 v4, .int (v5 + 1)] X mt_X6_234 (by decide) h_l0 (by decide) (okX6_layRow _ _ X.J h_l0 h_v4) rfl (Nat.le_of_ble_eq_true rfl) dX6_led_31 rfl (fun _ M6 => ?_)
      refine r_aload_n X dX6_led_34 rfl 0 rfl ?_
      refine r_getI X fl_X6_177 (by decide) h_l0 dX6_led_35 (fun v7 => ?_)
      refine r_iconst (v := 1) X dX6_led_38 (by decide) ?_
      refine r_iadd X dX6_led_39 ?_
      exact r_iret Hr rfl dX6_led_40
set_option maxRecDepth 100000 in
set_option maxHeartbeats 4000000 in
theorem okX6_led (l : Launch) (g : GX) (hJ : IJ g) {l0 : Nat} {l1 : Int32} {M : Mm} (h_l0 : sh l0 = 16) : CT l g yX6_led cX6_led 2 (some .int) 2 [rf g l0, .int l1] M (fX6_led l0 l1 M) (fun r => some (.int r)) := by
  refine ct_I rfl hJ (Nat.le_of_ble_eq_true rfl) (fun x r hg hL hl X hf Hr => ?_)
  subst hg
  exact fun _ ls H locs hl hP hS => sX6_led_0 X hL Hr h_l0 ⟨_, hf, rfl⟩ ls H locs hl hP hS
/-! CrumbWoodModel.lots(II)I -/
set_option maxRecDepth 100000 in
def pX6_lots (x : SB) (q : Nat × Nat × Int32 × Int64 × Int32 × Int32 × Int32 × Int32 × Mm) : Prop := match q.1 with
  | 1 => sh q.2.1 = 16 → ∀ (ls : Array Slot) (H : Heap) (locs : List Loc), lv_has ls x.2.2.2.1 [(0, rf x.2.1 q.2.1), (1, .int q.2.2.1), (3, .long q.2.2.2.1), (5, .int q.2.2.2.2.1)] → PW x.2.1 (q.2.2.2.2.2.2.2.2) H → SH x H locs → SW x H locs 53 ls []
  | 2 => sh q.2.1 = 16 → ∀ (ls : Array Slot) (H : Heap) (locs : List Loc), lv_has ls x.2.2.2.1 [(0, rf x.2.1 q.2.1), (1, .int q.2.2.1), (3, .long q.2.2.2.1), (5, .int q.2.2.2.2.1), (6, .int q.2.2.2.2.2.1), (7, .int q.2.2.2.2.2.2.1), (8, .int q.2.2.2.2.2.2.2.1)] → PW x.2.1 (q.2.2.2.2.2.2.2.2) H → SH x H locs → SW x H locs 106 ls []
  | _ => True
set_option maxRecDepth 100000 in
noncomputable def bX6_lots_205 (l5 : Int32) (M : Mm) : Option ((Nat × Nat × Int32 × Int64 × Int32 × Int32 × Int32 × Int32 × Mm) ⊕ Int32 × Mm) := some (.inr (l5, M))
set_option maxRecDepth 100000 in
set_option maxHeartbeats 4000000 in
theorem sX6_lots_205 {x : SB} {F : ((Nat × Nat × Int32 × Int64 × Int32 × Int32 × Int32 × Int32 × Mm) ⊕ Int32 × Mm) → Prop} (X : CX x cX6_lots RX6 4) (hL : x.2.2.2.1 = 9) (Hr : RTI x cX6_lots .int F Sum.inr) (HH : ∀ q, F (.inl q) → pX6_lots x q) {l5 : Int32} {M : Mm}  : SIM x F (bX6_lots_205 l5 M) 205 [(5, .int l5)] [] M := by
  unfold bX6_lots_205
  refine r_iload X dX6_lots_205 0 rfl ?_
  exact r_iret Hr rfl dX6_lots_207
set_option maxRecDepth 100000 in
noncomputable def bX6_lots_202 (l0 : Nat) (l1 : Int32) (l3 : Int64) (l5 : Int32) (M : Mm) : Option ((Nat × Nat × Int32 × Int64 × Int32 × Int32 × Int32 × Int32 × Mm) ⊕ Int32 × Mm) := some (.inl (1, l0, l1, l3, l5, 0, 0, 0, M))
set_option maxRecDepth 100000 in
set_option maxHeartbeats 4000000 in
theorem sX6_lots_202 {x : SB} {F : ((Nat × Nat × Int32 × Int64 × Int32 × Int32 × Int32 × Int32 × Mm) ⊕ Int32 × Mm) → Prop} (X : CX x cX6_lots RX6 4) (hL : x.2.2.2.1 = 9) (Hr : RTI x cX6_lots .int F Sum.inr) (HH : ∀ q, F (.inl q) → pX6_lots x q) {l0 : Nat} {l1 : Int32} {l3 : Int64} {l5 : Int32} {M : Mm} (h_l0 : sh l0 = 16) : SIM x F (bX6_lots_202 l0 l1 l3 l5 M) 202 [(0, rf x.2.1 l0), (1, .int l1), (3, .long l3), (5, .int l5)] [] M := by
  unfold bX6_lots_202
  refine r_goto 53 X dX6_lots_202 (by decide) ?_
  exact r_hdr [(0, rf x.2.1 l0), (1, .int l1), (3, .long l3), (5, .int l5)] [0, 1, 2, 3] rfl (fun h => HH _ h h_l0)
set_option maxRecDepth 100000 in
noncomputable def bX6_lots_138 (l0 : Nat) (l1 : Int32) (l3 : Int64) (l5 : Int32) (l6 : Int32) (l8 : Int32) (s0 : Int32) (s1 : Int32) (M : Mm) : Option ((Nat × Nat × Int32 × Int64 × Int32 × Int32 × Int32 × Int32 × Mm) ⊕ Int32 × Mm) := ltI (s1 - s0) fun v1 => some (.inl (2, l0, l1, l3, l5, l6, v1, (l8 + 1), M))
set_option maxRecDepth 100000 in
set_option maxHeartbeats 4000000 in
theorem sX6_lots_138 {x : SB} {F : ((Nat × Nat × Int32 × Int64 × Int32 × Int32 × Int32 × Int32 × Mm) ⊕ Int32 × Mm) → Prop} (X : CX x cX6_lots RX6 4) (hL : x.2.2.2.1 = 9) (Hr : RTI x cX6_lots .int F Sum.inr) (HH : ∀ q, F (.inl q) → pX6_lots x q) {l0 : Nat} {l1 : Int32} {l3 : Int64} {l5 : Int32} {l6 : Int32} {l8 : Int32} {s0 : Int32} {s1 : Int32} {M : Mm} (h_l0 : sh l0 = 16) : SIM x F (bX6_lots_138 l0 l1 l3 l5 l6 l8 s0 s1 M) 138 [(0, rf x.2.1 l0), (1, .int l1), (3, .long l3), (5, .int l5), (6, .int l6), (8, .int l8)] [.int s0, .int s1] M := by
  unfold bX6_lots_138
  refine r_isub X dX6_lots_138 ?_
  refine r_letI (fun v1 => ?_)
  refine r_istore [(7, .int v1), (0, rf x.2.1 l0), (1, .int l1), (3, .long l3), (5, .int l5), (6, .int l6), (8, .int l8)] X dX6_lots_139 (nlt hL (by decide)) rfl ?_
  refine r_iinc [(8, .int (l8 + 1)), (7, .int v1), (0, rf x.2.1 l0), (1, .int l1), (3, .long l3), (5, .int l5), (6, .int l6)] X dX6_lots_141 6 rfl rfl (nlt hL (by decide)) rfl ?_
  refine r_goto 106 X dX6_lots_144 (by decide) ?_
  exact r_hdr [(0, rf x.2.1 l0), (1, .int l1), (3, .long l3), (5, .int l5), (6, .int l6), (7, .int v1), (8, .int (l8 + 1))] [2, 3, 4, 5, 6, 1, 0] rfl (fun h => HH _ h h_l0)
set_option maxRecDepth 100000 in
noncomputable def bX6_lots_121 (l0 : Nat) (l1 : Int32) (l3 : Int64) (l5 : Int32) (l6 : Int32) (l7 : Int32) (l8 : Int32) (M : Mm) : Option ((Nat × Nat × Int32 × Int64 × Int32 × Int32 × Int32 × Int32 × Mm) ⊕ Int32 × Mm) := cal (fX6_has l6 l8 M) fun v3 M2 => if v3 = 0 then bX6_lots_138 l0 l1 l3 l5 l6 l8 0 l7 M2 else bX6_lots_138 l0 l1 l3 l5 l6 l8 1 l7 M2
set_option maxRecDepth 100000 in
set_option maxHeartbeats 4000000 in
theorem sX6_lots_121 {x : SB} {F : ((Nat × Nat × Int32 × Int64 × Int32 × Int32 × Int32 × Int32 × Mm) ⊕ Int32 × Mm) → Prop} (X : CX x cX6_lots RX6 4) (hL : x.2.2.2.1 = 9) (Hr : RTI x cX6_lots .int F Sum.inr) (HH : ∀ q, F (.inl q) → pX6_lots x q) {l0 : Nat} {l1 : Int32} {l3 : Int64} {l5 : Int32} {l6 : Int32} {l7 : Int32} {l8 : Int32} {M : Mm} (h_l0 : sh l0 = 16) : SIM x F (bX6_lots_121 l0 l1 l3 l5 l6 l7 l8 M) 121 [(0, rf x.2.1 l0), (1, .int l1), (3, .long l3), (5, .int l5), (6, .int l6), (7, .int l7), (8, .int l8)] [] M := by
  unfold bX6_lots_121
  refine r_iload X dX6_lots_121 5 rfl ?_
  refine r_iload X dX6_lots_123 4 rfl ?_
  refine r_iload X dX6_lots_125 6 rfl ?_
  refine r_callSI [.int l6, .int l8] X mt_X6_145 (by decide) (okX6_has _ _ X.J) rfl (Nat.le_of_ble_eq_true rfl) dX6_lots_127 rfl (fun v3 M2 => ?_)
  refine r_if_eq 137 X dX6_lots_130 (by decide) ?_ ?_
  · refine r_iconst (v := 0) X dX6_lots_137 (by decide) ?_
    exact r_to [(0, rf x.2.1 l0), (1, .int l1), (3, .long l3), (5, .int l5), (6, .int l6), (8, .int l8)] [0, 1, 2, 3, 4, 6] rfl (sX6_lots_138 X hL Hr HH h_l0)
  · refine r_iconst (v := 1) X dX6_lots_133 (by decide) ?_
    refine r_goto 138 X dX6_lots_134 (by decide) ?_
    exact r_to [(0, rf x.2.1 l0), (1, .int l1), (3, .long l3), (5, .int l5), (6, .int l6), (8, .int l8)] [0, 1, 2, 3, 4, 6] rfl (sX6_lots_138 X hL Hr HH h_l0)
set_option maxRecDepth 100000 in
noncomputable def bX6_lots_106 (l0 : Nat) (l1 : Int32) (l3 : Int64) (l5 : Int32) (l6 : Int32) (l7 : Int32) (l8 : Int32) (M : Mm) : Option ((Nat × Nat × Int32 × Int64 × Int32 × Int32 × Int32 × Int32 × Mm) ⊕ Int32 × Mm) := cal (fX6_has l6 l8 M) fun v5 M4 => if v5 = 0 then bX6_lots_121 l0 l1 l3 l5 l6 l7 l8 M4 else if l7 ≤ 0 then gfI M4 l0 25 fun v6 => pfI M4 l0 25 (v6 + 1) fun M7 => gfR M7 0 l0 26 fun v8 => gfI M7 l0 25 fun v9 => stI M7 v8 v9 l8 fun M10 => dvJ l3 64 fun v11 => rmJ v11 2 fun v12 => if (lg_cmp v12 1) = 0 then cal (fX6_v l0 0 36 0 M10) fun v14 M13 => if v14 ≤ 0 then bX6_lots_202 l0 l1 l3 (l5 + 1) M13 else cal (fX6_drop l0 0 M13) fun v16 M15 => bX6_lots_202 l0 l1 l3 (l5 + 1) M15 else bX6_lots_202 l0 l1 l3 (l5 + 1) M10 else bX6_lots_121 l0 l1 l3 l5 l6 l7 l8 M4
set_option maxRecDepth 100000 in
set_option maxHeartbeats 4000000 in
theorem sX6_lots_106 {x : SB} {F : ((Nat × Nat × Int32 × Int64 × Int32 × Int32 × Int32 × Int32 × Mm) ⊕ Int32 × Mm) → Prop} (X : CX x cX6_lots RX6 4) (hL : x.2.2.2.1 = 9) (Hr : RTI x cX6_lots .int F Sum.inr) (HH : ∀ q, F (.inl q) → pX6_lots x q) {l0 : Nat} {l1 : Int32} {l3 : Int64} {l5 : Int32} {l6 : Int32} {l7 : Int32} {l8 : Int32} {M : Mm} (h_l0 : sh l0 = 16) : SIM x F (bX6_lots_106 l0 l1 l3 l5 l6 l7 l8 M) 106 [(0, rf x.2.1 l0), (1, .int l1), (3, .long l3), (5, .int l5), (6, .int l6), (7, .int l7), (8, .int l8)] [] M := by
  unfold bX6_lots_106
  refine r_iload X dX6_lots_106 4 rfl ?_
  refine r_iload X dX6_lots_108 6 rfl ?_
  refine r_callSI [.int l6, .int l8] X mt_X6_145 (by decide) (okX6_has _ _ X.J) rfl (Nat.le_of_ble_eq_true rfl) dX6_lots_110 rfl (fun v5 M4 => ?_)
  refine r_if_eq 121 X dX6_lots_113 (by decide) ?_ ?_
  · exact r_to [(0, rf x.2.1 l0), (1, .int l1), (3, .long l3), (5, .int l5), (6, .int l6), (7, .int l7), (8, .int l8)] [0, 1, 2, 3, 4, 5, 6] rfl (sX6_lots_121 X hL Hr HH h_l0)
  · refine r_iload X dX6_lots_116 5 rfl ?_
    refine r_if_le 147 X dX6_lots_118 (by decide) ?_ ?_
    · refine r_aload_n X dX6_lots_147 rfl 0 rfl ?_
      refine r_dup X dX6_lots_148 rfl ?_
      refine r_getI X fl_X6_177 (by decide) h_l0 dX6_lots_149 (fun v6 => ?_)
      refine r_iconst (v := 1) X dX6_lots_152 (by decide) ?_
      refine r_iadd X dX6_lots_153 ?_
      refine r_putI X fl_X6_177 (by decide) h_l0 (fun _ => rfl) (fun _ => rfl) dX6_lots_154 (fun M7 => ?_)
      refine r_aload_n X dX6_lots_157 rfl 0 rfl ?_
      refine r_getR X fl_X6_54 (by decide) h_l0 dX6_lots_158 (fun v8 h_v8 => ?_)
      refine r_aload_n X dX6_lots_161 rfl 0 rfl ?_
      refine r_getI X fl_X6_177 (by decide) h_l0 dX6_lots_162 (fun v9 => ?_)
      refine r_iload X dX6_lots_165 6 rfl ?_
      refine r_iast X h_v8 dX6_lots_167 (fun M10 => ?_)
      refine r_iinc [(5, .int (l5 + 1)), (0, rf x.2.1 l0), (1, .int l1), (3, .long l3), (6, .int l6), (7, .int l7), (8, .int l8)] X dX6_lots_168 3 rfl rfl (nlt hL (by decide)) rfl ?_
      refine r_lload_n X dX6_lots_171 rfl 3 rfl ?_
      refine r_ldc2 X dX6_lots_172 k_1261 ?_
      refine r_ldiv X dX6_lots_175 (fun v11 => ?_)
      refine r_ldc2 X dX6_lots_176 k_1262 ?_
      refine r_lrem X dX6_lots_179 (fun v12 => ?_)
      refine r_lconst (v := 1) X dX6_lots_180 (by decide) ?_
      refine r_lcmp X dX6_lots_181 ?_
      refine r_if_ne 202 X dX6_lots_182 (by decide) ?_ ?_
      · refine r_aload_n X dX6_lots_185 rfl 1 rfl ?_
        refine r_iconst (v := 0) X dX6_lots_186 (by decide) ?_
        refine r_bipush (v := 36) X dX6_lots_187 (by decide) ?_
        refine r_iconst (v := 0) X dX6_lots_189 (by decide) ?_
        refine r_callVI [.int 0, .int 36, .int 0] X mt_X6_180 (by decide) h_l0 (by decide) (okX6_v _ _ X.J h_l0) rfl (Nat.le_of_ble_eq_true rfl) dX6_lots_190 rfl (fun v14 M13 => ?_)
        refine r_if_le 202 X dX6_lots_193 (by decide) ?_ ?_
        · exact r_to [(0, rf x.2.1 l0), (1, .int l1), (3, .long l3), (5, .int (l5 + 1))] [1, 2, 3, 0] rfl (sX6_lots_202 X hL Hr HH h_l0)
        · refine r_aload_n X dX6_lots_196 rfl 1 rfl ?_
          refine r_iconst (v := 0) X dX6_lots_197 (by decide) ?_
          refine r_callVI [.int 0] X mt_X6_294 (by decide) h_l0 (by decide) (okX6_drop _ _ X.J h_l0) rfl (Nat.le_of_ble_eq_true rfl) dX6_lots_198 rfl (fun v16 M15 => ?_)
          refine r_pop X dX6_lots_201 rfl ?_
          exact r_to [(0, rf x.2.1 l0), (1, .int l1), (3, .long l3), (5, .int (l5 + 1))] [1, 2, 3, 0] rfl (sX6_lots_202 X hL Hr HH h_l0)
      · exact r_to [(0, rf x.2.1 l0), (1, .int l1), (3, .long l3), (5, .int (l5 + 1))] [1, 2, 3, 0] rfl (sX6_lots_202 X hL Hr HH h_l0)
    · exact r_to [(0, rf x.2.1 l0), (1, .int l1), (3, .long l3), (5, .int l5), (6, .int l6), (7, .int l7), (8, .int l8)] [0, 1, 2, 3, 4, 5, 6] rfl (sX6_lots_121 X hL Hr HH h_l0)
set_option maxRecDepth 100000 in
noncomputable def bX6_lots_53 (l0 : Nat) (l1 : Int32) (l3 : Int64) (l5 : Int32) (M : Mm) : Option ((Nat × Nat × Int32 × Int64 × Int32 × Int32 × Int32 × Int32 × Mm) ⊕ Int32 × Mm) := if l1 ≤ l5 then bX6_lots_205 l5 M else gfR M 0 l0 13 fun v17 => cal (fX6_hereNow l0 M) fun v19 M18 => ldI M18 v17 v19 fun v20 => if v20 = 0 then bX6_lots_205 l5 M18 else rmJ ((48271 : Int64) * l3) 2147483647 fun v21 => gfR M18 0 l0 13 fun v22 => cal (fX6_hereNow l0 M18) fun v24 M23 => ldI M23 v22 v24 fun v25 => cal (fX6_bits v25 M23) fun v27 M26 => rmJ v21 ((v27 : Int32).toInt64) fun v28 => ltI ((v28 : Int64).toInt32) fun v29 => some (.inl (2, l0, l1, v21, l5, v25, v29, 0, M26))
set_option maxRecDepth 100000 in
set_option maxHeartbeats 4000000 in
theorem sX6_lots_53 {x : SB} {F : ((Nat × Nat × Int32 × Int64 × Int32 × Int32 × Int32 × Int32 × Mm) ⊕ Int32 × Mm) → Prop} (X : CX x cX6_lots RX6 4) (hL : x.2.2.2.1 = 9) (Hr : RTI x cX6_lots .int F Sum.inr) (HH : ∀ q, F (.inl q) → pX6_lots x q) {l0 : Nat} {l1 : Int32} {l3 : Int64} {l5 : Int32} {M : Mm} (h_l0 : sh l0 = 16) : SIM x F (bX6_lots_53 l0 l1 l3 l5 M) 53 [(0, rf x.2.1 l0), (1, .int l1), (3, .long l3), (5, .int l5)] [] M := by
  unfold bX6_lots_53
  refine r_iload X dX6_lots_53 3 rfl ?_
  refine r_iload_n X dX6_lots_55 rfl 1 rfl ?_
  refine r_icmp_ge 205 X dX6_lots_56 (by decide) ?_ ?_
  · exact r_to [(5, .int l5)] [3] rfl (sX6_lots_205 X hL Hr HH)
  · refine r_aload_n X dX6_lots_59 rfl 0 rfl ?_
    refine r_getR X fl_X6_36 (by decide) h_l0 dX6_lots_60 (fun v17 h_v17 => ?_)
    refine r_aload_n X dX6_lots_63 rfl 0 rfl ?_
    refine r_callVI [] X mt_X6_223 (by decide) h_l0 (by decide) (okX6_hereNow _ _ X.J h_l0) rfl (Nat.le_of_ble_eq_true rfl) dX6_lots_64 rfl (fun v19 M18 => ?_)
    refine r_iald X h_v17 dX6_lots_67 (fun v20 => ?_)
    refine r_if_eq 205 X dX6_lots_68 (by decide) ?_ ?_
    · exact r_to [(5, .int l5)] [3] rfl (sX6_lots_205 X hL Hr HH)
    · refine r_ldc2 X dX6_lots_71 k_1259 ?_
      refine r_lload_n X dX6_lots_74 rfl 2 rfl ?_
      refine r_lmul X dX6_lots_75 ?_
      refine r_ldc2 X dX6_lots_76 k_1260 ?_
      refine r_lrem X dX6_lots_79 (fun v21 => ?_)
      refine r_lstore_n [(3, .long v21), (0, rf x.2.1 l0), (1, .int l1), (5, .int l5)] X dX6_lots_80 rfl (nlt hL (by decide)) rfl ?_
      refine r_aload_n X dX6_lots_81 rfl 1 rfl ?_
      refine r_getR X fl_X6_36 (by decide) h_l0 dX6_lots_82 (fun v22 h_v22 => ?_)
      refine r_aload_n X dX6_lots_85 rfl 1 rfl ?_
      refine r_callVI [] X mt_X6_223 (by decide) h_l0 (by decide) (okX6_hereNow _ _ X.J h_l0) rfl (Nat.le_of_ble_eq_true rfl) dX6_lots_86 rfl (fun v24 M23 => ?_)
      refine r_iald X h_v22 dX6_lots_89 (fun v25 => ?_)
      refine r_istore [(6, .int v25), (3, .long v21), (0, rf x.2.1 l0), (1, .int l1), (5, .int l5)] X dX6_lots_90 (nlt hL (by decide)) rfl ?_
      refine r_lload_n X dX6_lots_92 rfl 1 rfl ?_
      refine r_iload X dX6_lots_93 0 rfl ?_
      refine r_callSI [.int v25] X mt_X6_257 (by decide) (okX6_bits _ _ X.J) rfl (Nat.le_of_ble_eq_true rfl) dX6_lots_95 rfl (fun v27 M26 => ?_)
      refine r_i2l X dX6_lots_98 ?_
      refine r_lrem X dX6_lots_99 (fun v28 => ?_)
      refine r_l2i X dX6_lots_100 ?_
      refine r_letI (fun v29 => ?_)
      refine r_istore [(7, .int v29), (6, .int v25), (3, .long v21), (0, rf x.2.1 l0), (1, .int l1), (5, .int l5)] X dX6_lots_101 (nlt hL (by decide)) rfl ?_
      refine r_iconst (v := 0) X dX6_lots_103 (by decide) ?_
      refine r_istore [(8, .int 0), (7, .int v29), (6, .int v25), (3, .long v21), (0, rf x.2.1 l0), (1, .int l1), (5, .int l5)] X dX6_lots_104 (nlt hL (by decide)) rfl ?_
      exact r_hdr [(0, rf x.2.1 l0), (1, .int l1), (3, .long v21), (5, .int l5), (6, .int v25), (7, .int v29), (8, .int 0)] [4, 5, 3, 6, 2, 1, 0] rfl (fun h => HH _ h h_l0)
set_option maxRecDepth 100000 in
noncomputable def bX6_lots_21  (M : Mm) : Option ((Nat × Nat × Int32 × Int64 × Int32 × Int32 × Int32 × Int32 × Mm) ⊕ Int32 × Mm) := some (.inr ((-1), M))
set_option maxRecDepth 100000 in
set_option maxHeartbeats 4000000 in
theorem sX6_lots_21 {x : SB} {F : ((Nat × Nat × Int32 × Int64 × Int32 × Int32 × Int32 × Int32 × Mm) ⊕ Int32 × Mm) → Prop} (X : CX x cX6_lots RX6 4) (hL : x.2.2.2.1 = 9) (Hr : RTI x cX6_lots .int F Sum.inr) (HH : ∀ q, F (.inl q) → pX6_lots x q)  {M : Mm}  : SIM x F (bX6_lots_21  M) 21 [] [] M := by
  unfold bX6_lots_21
  refine r_iconst (v := (-1)) X dX6_lots_21 (by decide) ?_
  exact r_iret Hr rfl dX6_lots_22
set_option maxRecDepth 100000 in
noncomputable def bX6_lots_0 (l0 : Nat) (l1 : Int32) (l2 : Int32) (M : Mm) : Option ((Nat × Nat × Int32 × Int64 × Int32 × Int32 × Int32 × Int32 × Mm) ⊕ Int32 × Mm) := cal (fX6_in l1 1 20 M) fun v31 M30 => if v31 = 0 then bX6_lots_21 M30 else cal (fX6_in l2 1 2147483646 M30) fun v33 M32 => if v33 = 0 then bX6_lots_21 M32 else gfI M32 l0 10 fun v34 => if v34 = 0 then some (.inr ((-4), M32)) else gfI M32 l0 25 fun v35 => if (v35 + l1) ≤ 30 then ltJ ((l2 : Int32).toInt64) fun v36 => some (.inl (1, l0, l1, v36, 0, 0, 0, 0, M32)) else some (.inr ((-2), M32))
set_option maxRecDepth 100000 in
set_option maxHeartbeats 4000000 in
theorem sX6_lots_0 {x : SB} {F : ((Nat × Nat × Int32 × Int64 × Int32 × Int32 × Int32 × Int32 × Mm) ⊕ Int32 × Mm) → Prop} (X : CX x cX6_lots RX6 4) (hL : x.2.2.2.1 = 9) (Hr : RTI x cX6_lots .int F Sum.inr) (HH : ∀ q, F (.inl q) → pX6_lots x q) {l0 : Nat} {l1 : Int32} {l2 : Int32} {M : Mm} (h_l0 : sh l0 = 16) : SIM x F (bX6_lots_0 l0 l1 l2 M) 0 [(0, rf x.2.1 l0), (1, .int l1), (2, .int l2)] [] M := by
  unfold bX6_lots_0
  refine r_iload_n X dX6_lots_0 rfl 1 rfl ?_
  refine r_iconst (v := 1) X dX6_lots_1 (by decide) ?_
  refine r_bipush (v := 20) X dX6_lots_2 (by decide) ?_
  refine r_callSI [.int l1, .int 1, .int 20] X mt_X6_92 (by decide) (okX6_in _ _ X.J) rfl (Nat.le_of_ble_eq_true rfl) dX6_lots_4 rfl (fun v31 M30 => ?_)
  refine r_if_eq 21 X dX6_lots_7 (by decide) ?_ ?_
  · exact r_to [] [] rfl (sX6_lots_21 X hL Hr HH)
  · refine r_iload_n X dX6_lots_10 rfl 2 rfl ?_
    refine r_iconst (v := 1) X dX6_lots_11 (by decide) ?_
    refine r_ldcw X dX6_lots_12 k_1258 ?_
    refine r_callSI [.int l2, .int 1, .int 2147483646] X mt_X6_92 (by decide) (okX6_in _ _ X.J) rfl (Nat.le_of_ble_eq_true rfl) dX6_lots_15 rfl (fun v33 M32 => ?_)
    refine r_if_ne 23 X dX6_lots_18 (by decide) ?_ ?_
    · exact r_to [] [] rfl (sX6_lots_21 X hL Hr HH)
    · refine r_aload_n X dX6_lots_23 rfl 0 rfl ?_
      refine r_getI X fl_X6_167 (by decide) h_l0 dX6_lots_24 (fun v34 => ?_)
      refine r_if_ne 33 X dX6_lots_27 (by decide) ?_ ?_
      · refine r_bipush (v := (-4)) X dX6_lots_30 (by decide) ?_
        exact r_iret Hr rfl dX6_lots_32
      · refine r_aload_n X dX6_lots_33 rfl 0 rfl ?_
        refine r_getI X fl_X6_177 (by decide) h_l0 dX6_lots_34 (fun v35 => ?_)
        refine r_iload_n X dX6_lots_37 rfl 1 rfl ?_
        refine r_iadd X dX6_lots_38 ?_
        refine r_bipush (v := 30) X dX6_lots_39 (by decide) ?_
        refine r_icmp_le 47 X dX6_lots_41 (by decide) ?_ ?_
        · refine r_iload_n X dX6_lots_47 rfl 2 rfl ?_
          refine r_i2l X dX6_lots_48 ?_
          refine r_letJ (fun v36 => ?_)
          refine r_lstore_n [(3, .long v36), (0, rf x.2.1 l0), (1, .int l1), (2, .int l2)] X dX6_lots_49 rfl (nlt hL (by decide)) rfl ?_
          refine r_iconst (v := 0) X dX6_lots_50 (by decide) ?_
          refine r_istore [(5, .int 0), (3, .long v36), (0, rf x.2.1 l0), (1, .int l1), (2, .int l2)] X dX6_lots_51 (nlt hL (by decide)) rfl ?_
          exact r_hdr [(0, rf x.2.1 l0), (1, .int l1), (3, .long v36), (5, .int 0)] [2, 3, 1, 0] rfl (fun h => HH _ h h_l0)
        · refine r_bipush (v := (-2)) X dX6_lots_44 (by decide) ?_
          exact r_iret Hr rfl dX6_lots_46
set_option maxRecDepth 100000 in
noncomputable def gX6_lots (q : Nat × Nat × Int32 × Int64 × Int32 × Int32 × Int32 × Int32 × Mm) : Option ((Nat × Nat × Int32 × Int64 × Int32 × Int32 × Int32 × Int32 × Mm) ⊕ Int32 × Mm) := match q.1 with
  | 1 => bX6_lots_53 (q.2.1) (q.2.2.1) (q.2.2.2.1) (q.2.2.2.2.1) (q.2.2.2.2.2.2.2.2)
  | 2 => bX6_lots_106 (q.2.1) (q.2.2.1) (q.2.2.2.1) (q.2.2.2.2.1) (q.2.2.2.2.2.1) (q.2.2.2.2.2.2.1) (q.2.2.2.2.2.2.2.1) (q.2.2.2.2.2.2.2.2)
  | _ => none
set_option maxRecDepth 100000 in
noncomputable def fX6_lots (l0 : Nat) (l1 : Int32) (l2 : Int32) (M : Mm) : Option (Int32 × Mm) := fen gX6_lots (bX6_lots_0 l0 l1 l2 M)
set_option maxRecDepth 100000 in
set_option maxHeartbeats 4000000 in
theorem okX6_lots (l : Launch) (g : GX) (hJ : IJ g) {l0 : Nat} {l1 : Int32} {l2 : Int32} {M : Mm} (h_l0 : sh l0 = 16) : CT l g yX6_lots cX6_lots 9 (some .int) 4 [rf g l0, .int l1, .int l2] M (fX6_lots l0 l1 l2 M) (fun r => some (.int r)) := by
  refine ct_I rfl hJ (Nat.le_of_ble_eq_true rfl) (fun x r hg hL hl X hf Hr => ?_)
  subst hg
  have Hr2 : RTI x cX6_lots .int (Sum.elim (pX6_lots x) (fun q => q = r)) Sum.inr := fun v M h => Hr v M h
  have HP : ∀ q, fnl gX6_lots q = some r → pX6_lots x q := by
    intro q hq
    refine fnl_ind (pX6_lots x) (fun q hq => ?_) hq
    obtain ⟨n, l0, l1, l3, l5, l6, l7, l8, M⟩ := q
    match n, hq with
    | 1, hq => exact fun h_l0 ls H locs hl hP hS => sX6_lots_53 X hL Hr2 (fun _ h => h) h_l0 hq ls H locs hl hP hS
    | 2, hq => exact fun h_l0 ls H locs hl hP hS => sX6_lots_106 X hL Hr2 (fun _ h => h) h_l0 hq ls H locs hl hP hS
    | 0, hq => exact trivial
    | n + 3, hq => exact trivial
  exact fun _ ls H locs hl hP hS => sX6_lots_0 X hL Hr2 (fun _ h => h) h_l0 (fen_w hf HP) ls H locs hl hP hS
/-! CrumbWoodModel.lower()J -/
set_option maxRecDepth 100000 in
noncomputable def fX6_lower (l0 : Nat) (M : Mm) : Option (Int64 × Mm) := gfJ M l0 4 fun v1 => some ((v1, M))
set_option maxRecDepth 100000 in
set_option maxHeartbeats 4000000 in
theorem sX6_lower_0 {x : SB} {F : (Int64 × Mm) → Prop} (X : CX x cX6_lower RX6 0) (hL : x.2.2.2.1 = 1) (Hr : RTJ x cX6_lower F (fun q => q)) {l0 : Nat} {M : Mm} (h_l0 : sh l0 = 16) : SIM x F (fX6_lower l0 M) 0 [(0, rf x.2.1 l0)] [] M := by
  unfold fX6_lower
  refine r_aload_n X dX6_lower_0 rfl 0 rfl ?_
  refine r_getJ X fl_X6_13 (by decide) h_l0 dX6_lower_1 (fun v1 => ?_)
  exact r_lret Hr dX6_lower_4
set_option maxRecDepth 100000 in
set_option maxHeartbeats 4000000 in
theorem okX6_lower (l : Launch) (g : GX) (hJ : IJ g) {l0 : Nat} {M : Mm} (h_l0 : sh l0 = 16) : CT l g yX6_lower cX6_lower 1 (some .long) 0 [rf g l0] M (fX6_lower l0 M) (fun r => some (.long r)) := by
  refine ct_J rfl hJ (Nat.le_of_ble_eq_true rfl) (fun x r hg hL hl X hf Hr => ?_)
  subst hg
  exact fun _ ls H locs hl hP hS => sX6_lower_0 X hL Hr h_l0 ⟨_, hf, rfl⟩ ls H locs hl hP hS
/-! CrumbWoodModel.thicketsBy(I)I -/
set_option maxRecDepth 100000 in
def pX6_thicketsBy (x : SB) (q : Nat × Nat × Int32 × Int32 × Int32 × Mm) : Prop := match q.1 with
  | 1 => sh q.2.1 = 16 → ∀ (ls : Array Slot) (H : Heap) (locs : List Loc), lv_has ls x.2.2.2.1 [(0, rf x.2.1 q.2.1), (1, .int q.2.2.1), (2, .int q.2.2.2.1), (3, .int q.2.2.2.2.1)] → PW x.2.1 (q.2.2.2.2.2) H → SH x H locs → SW x H locs 4 ls []
  | _ => True
set_option maxRecDepth 100000 in
noncomputable def bX6_thicketsBy_39 (l0 : Nat) (l1 : Int32) (l3 : Int32) (s0 : Int32) (s1 : Int32) (M : Mm) : Option ((Nat × Nat × Int32 × Int32 × Int32 × Mm) ⊕ Int32 × Mm) := ltI (s1 + s0) fun v1 => some (.inl (1, l0, l1, v1, (l3 + 1), M))
set_option maxRecDepth 100000 in
set_option maxHeartbeats 4000000 in
theorem sX6_thicketsBy_39 {x : SB} {F : ((Nat × Nat × Int32 × Int32 × Int32 × Mm) ⊕ Int32 × Mm) → Prop} (X : CX x cX6_thicketsBy RX6 1) (hL : x.2.2.2.1 = 4) (Hr : RTI x cX6_thicketsBy .int F Sum.inr) (HH : ∀ q, F (.inl q) → pX6_thicketsBy x q) {l0 : Nat} {l1 : Int32} {l3 : Int32} {s0 : Int32} {s1 : Int32} {M : Mm} (h_l0 : sh l0 = 16) : SIM x F (bX6_thicketsBy_39 l0 l1 l3 s0 s1 M) 39 [(0, rf x.2.1 l0), (1, .int l1), (3, .int l3)] [.int s0, .int s1] M := by
  unfold bX6_thicketsBy_39
  refine r_iadd X dX6_thicketsBy_39 ?_
  refine r_letI (fun v1 => ?_)
  refine r_istore_n [(2, .int v1), (0, rf x.2.1 l0), (1, .int l1), (3, .int l3)] X dX6_thicketsBy_40 rfl (nlt hL (by decide)) rfl ?_
  refine r_iinc [(3, .int (l3 + 1)), (2, .int v1), (0, rf x.2.1 l0), (1, .int l1)] X dX6_thicketsBy_41 3 rfl rfl (nlt hL (by decide)) rfl ?_
  refine r_goto 4 X dX6_thicketsBy_44 (by decide) ?_
  exact r_hdr [(0, rf x.2.1 l0), (1, .int l1), (2, .int v1), (3, .int (l3 + 1))] [2, 3, 1, 0] rfl (fun h => HH _ h h_l0)
set_option maxRecDepth 100000 in
noncomputable def bX6_thicketsBy_38 (l0 : Nat) (l1 : Int32) (l3 : Int32) (s0 : Int32) (M : Mm) : Option ((Nat × Nat × Int32 × Int32 × Int32 × Mm) ⊕ Int32 × Mm) := bX6_thicketsBy_39 l0 l1 l3 0 s0 M
set_option maxRecDepth 100000 in
set_option maxHeartbeats 4000000 in
theorem sX6_thicketsBy_38 {x : SB} {F : ((Nat × Nat × Int32 × Int32 × Int32 × Mm) ⊕ Int32 × Mm) → Prop} (X : CX x cX6_thicketsBy RX6 1) (hL : x.2.2.2.1 = 4) (Hr : RTI x cX6_thicketsBy .int F Sum.inr) (HH : ∀ q, F (.inl q) → pX6_thicketsBy x q) {l0 : Nat} {l1 : Int32} {l3 : Int32} {s0 : Int32} {M : Mm} (h_l0 : sh l0 = 16) : SIM x F (bX6_thicketsBy_38 l0 l1 l3 s0 M) 38 [(0, rf x.2.1 l0), (1, .int l1), (3, .int l3)] [.int s0] M := by
  unfold bX6_thicketsBy_38
  refine r_iconst (v := 0) X dX6_thicketsBy_38 (by decide) ?_
  exact r_to [(0, rf x.2.1 l0), (1, .int l1), (3, .int l3)] [0, 1, 2] rfl (sX6_thicketsBy_39 X hL Hr HH h_l0)
set_option maxRecDepth 100000 in
noncomputable def bX6_thicketsBy_4 (l0 : Nat) (l1 : Int32) (l2 : Int32) (l3 : Int32) (M : Mm) : Option ((Nat × Nat × Int32 × Int32 × Int32 × Mm) ⊕ Int32 × Mm) := gfI M l0 10 fun v2 => if v2 ≤ l3 then some (.inr (l2, M)) else gfR M 0 l0 13 fun v3 => ldI M v3 l1 fun v4 => cal (fX6_has v4 l3 M) fun v6 M5 => if v6 = 0 then bX6_thicketsBy_38 l0 l1 l3 l2 M5 else cal (fX6_isThicket l0 l3 M5) fun v8 M7 => if v8 = 0 then bX6_thicketsBy_38 l0 l1 l3 l2 M7 else bX6_thicketsBy_39 l0 l1 l3 1 l2 M7
set_option maxRecDepth 100000 in
set_option maxHeartbeats 4000000 in
theorem sX6_thicketsBy_4 {x : SB} {F : ((Nat × Nat × Int32 × Int32 × Int32 × Mm) ⊕ Int32 × Mm) → Prop} (X : CX x cX6_thicketsBy RX6 1) (hL : x.2.2.2.1 = 4) (Hr : RTI x cX6_thicketsBy .int F Sum.inr) (HH : ∀ q, F (.inl q) → pX6_thicketsBy x q) {l0 : Nat} {l1 : Int32} {l2 : Int32} {l3 : Int32} {M : Mm} (h_l0 : sh l0 = 16) : SIM x F (bX6_thicketsBy_4 l0 l1 l2 l3 M) 4 [(0, rf x.2.1 l0), (1, .int l1), (2, .int l2), (3, .int l3)] [] M := by
  unfold bX6_thicketsBy_4
  refine r_iload_n X dX6_thicketsBy_4 rfl 3 rfl ?_
  refine r_aload_n X dX6_thicketsBy_5 rfl 0 rfl ?_
  refine r_getI X fl_X6_167 (by decide) h_l0 dX6_thicketsBy_6 (fun v2 => ?_)
  refine r_icmp_ge 47 X dX6_thicketsBy_9 (by decide) ?_ ?_
  · refine r_iload_n X dX6_thicketsBy_47 rfl 2 rfl ?_
    exact r_iret Hr rfl dX6_thicketsBy_48
  · refine r_iload_n X dX6_thicketsBy_12 rfl 2 rfl ?_
    refine r_aload_n X dX6_thicketsBy_13 rfl 0 rfl ?_
    refine r_getR X fl_X6_36 (by decide) h_l0 dX6_thicketsBy_14 (fun v3 h_v3 => ?_)
    refine r_iload_n X dX6_thicketsBy_17 rfl 1 rfl ?_
    refine r_iald X h_v3 dX6_thicketsBy_18 (fun v4 => ?_)
    refine r_iload_n X dX6_thicketsBy_19 rfl 3 rfl ?_
    refine r_callSI [.int v4, .int l3] X mt_X6_145 (by decide) (okX6_has _ _ X.J) rfl (Nat.le_of_ble_eq_true rfl) dX6_thicketsBy_20 rfl (fun v6 M5 => ?_)
    refine r_if_eq 38 X dX6_thicketsBy_23 (by decide) ?_ ?_
    · exact r_to [(0, rf x.2.1 l0), (1, .int l1), (3, .int l3)] [0, 1, 3] rfl (sX6_thicketsBy_38 X hL Hr HH h_l0)
    · refine r_aload_n X dX6_thicketsBy_26 rfl 0 rfl ?_
      refine r_iload_n X dX6_thicketsBy_27 rfl 3 rfl ?_
      refine r_callVI [.int l3] X mt_X6_193 (by decide) h_l0 (by decide) (okX6_isThicket _ _ X.J h_l0) rfl (Nat.le_of_ble_eq_true rfl) dX6_thicketsBy_28 rfl (fun v8 M7 => ?_)
      refine r_if_eq 38 X dX6_thicketsBy_31 (by decide) ?_ ?_
      · exact r_to [(0, rf x.2.1 l0), (1, .int l1), (3, .int l3)] [0, 1, 3] rfl (sX6_thicketsBy_38 X hL Hr HH h_l0)
      · refine r_iconst (v := 1) X dX6_thicketsBy_34 (by decide) ?_
        refine r_goto 39 X dX6_thicketsBy_35 (by decide) ?_
        exact r_to [(0, rf x.2.1 l0), (1, .int l1), (3, .int l3)] [0, 1, 3] rfl (sX6_thicketsBy_39 X hL Hr HH h_l0)
set_option maxRecDepth 100000 in
noncomputable def bX6_thicketsBy_0 (l0 : Nat) (l1 : Int32) (M : Mm) : Option ((Nat × Nat × Int32 × Int32 × Int32 × Mm) ⊕ Int32 × Mm) := some (.inl (1, l0, l1, 0, 0, M))
set_option maxRecDepth 100000 in
set_option maxHeartbeats 4000000 in
theorem sX6_thicketsBy_0 {x : SB} {F : ((Nat × Nat × Int32 × Int32 × Int32 × Mm) ⊕ Int32 × Mm) → Prop} (X : CX x cX6_thicketsBy RX6 1) (hL : x.2.2.2.1 = 4) (Hr : RTI x cX6_thicketsBy .int F Sum.inr) (HH : ∀ q, F (.inl q) → pX6_thicketsBy x q) {l0 : Nat} {l1 : Int32} {M : Mm} (h_l0 : sh l0 = 16) : SIM x F (bX6_thicketsBy_0 l0 l1 M) 0 [(0, rf x.2.1 l0), (1, .int l1)] [] M := by
  unfold bX6_thicketsBy_0
  refine r_iconst (v := 0) X dX6_thicketsBy_0 (by decide) ?_
  refine r_istore_n [(2, .int 0), (0, rf x.2.1 l0), (1, .int l1)] X dX6_thicketsBy_1 rfl (nlt hL (by decide)) rfl ?_
  refine r_iconst (v := 0) X dX6_thicketsBy_2 (by decide) ?_
  refine r_istore_n [(3, .int 0), (2, .int 0), (0, rf x.2.1 l0), (1, .int l1)] X dX6_thicketsBy_3 rfl (nlt hL (by decide)) rfl ?_
  exact r_hdr [(0, rf x.2.1 l0), (1, .int l1), (2, .int 0), (3, .int 0)] [2, 3, 1, 0] rfl (fun h => HH _ h h_l0)
set_option maxRecDepth 100000 in
noncomputable def gX6_thicketsBy (q : Nat × Nat × Int32 × Int32 × Int32 × Mm) : Option ((Nat × Nat × Int32 × Int32 × Int32 × Mm) ⊕ Int32 × Mm) := match q.1 with
  | 1 => bX6_thicketsBy_4 (q.2.1) (q.2.2.1) (q.2.2.2.1) (q.2.2.2.2.1) (q.2.2.2.2.2)
  | _ => none
set_option maxRecDepth 100000 in
noncomputable def fX6_thicketsBy (l0 : Nat) (l1 : Int32) (M : Mm) : Option (Int32 × Mm) := fen gX6_thicketsBy (bX6_thicketsBy_0 l0 l1 M)
set_option maxRecDepth 100000 in
set_option maxHeartbeats 4000000 in
theorem okX6_thicketsBy (l : Launch) (g : GX) (hJ : IJ g) {l0 : Nat} {l1 : Int32} {M : Mm} (h_l0 : sh l0 = 16) : CT l g yX6_thicketsBy cX6_thicketsBy 4 (some .int) 1 [rf g l0, .int l1] M (fX6_thicketsBy l0 l1 M) (fun r => some (.int r)) := by
  refine ct_I rfl hJ (Nat.le_of_ble_eq_true rfl) (fun x r hg hL hl X hf Hr => ?_)
  subst hg
  have Hr2 : RTI x cX6_thicketsBy .int (Sum.elim (pX6_thicketsBy x) (fun q => q = r)) Sum.inr := fun v M h => Hr v M h
  have HP : ∀ q, fnl gX6_thicketsBy q = some r → pX6_thicketsBy x q := by
    intro q hq
    refine fnl_ind (pX6_thicketsBy x) (fun q hq => ?_) hq
    obtain ⟨n, l0, l1, l2, l3, M⟩ := q
    match n, hq with
    | 1, hq => exact fun h_l0 ls H locs hl hP hS => sX6_thicketsBy_4 X hL Hr2 (fun _ h => h) h_l0 hq ls H locs hl hP hS
    | 0, hq => exact trivial
    | n + 2, hq => exact trivial
  exact fun _ ls H locs hl hP hS => sX6_thicketsBy_0 X hL Hr2 (fun _ h => h) h_l0 (fen_w hf HP) ls H locs hl hP hS
/-! CrumbWoodModel.mark(II)I -/
set_option maxRecDepth 100000 in
noncomputable def bX6_mark_57 (l0 : Nat) (l1 : Int32) (l2 : Int32) (M : Mm) : Option (Int32 × Mm) := if l2 = 1 then cal (fX6_eatSet l0 l1 M) fun v2 M1 => cal (fX6_crumbsOn l0 0 v2 M1) fun v4 M3 => some ((v4, M3)) else if l2 = 2 then cal (fX6_hidden l0 l1 M) fun v6 M5 => some ((v6, M5)) else if l2 = 3 then cal (fX6_v l0 0 24 l1 M) fun v8 M7 => some ((v8, M7)) else if l2 = 4 then cal (fX6_marks l0 0 2 l1 M) fun v10 M9 => some ((v10, M9)) else cal (fX6_thicketsBy l0 l1 M) fun v12 M11 => some ((v12, M11))
set_option maxRecDepth 100000 in
set_option maxHeartbeats 4000000 in
theorem sX6_mark_57 {x : SB} {F : (Int32 × Mm) → Prop} (X : CX x cX6_mark RX6 3) (hL : x.2.2.2.1 = 4) (Hr : RTI x cX6_mark .int F (fun q => q)) {l0 : Nat} {l1 : Int32} {l2 : Int32} {M : Mm} (h_l0 : sh l0 = 16) : SIM x F (bX6_mark_57 l0 l1 l2 M) 57 [(0, rf x.2.1 l0), (1, .int l1), (2, .int l2)] [] M := by
  unfold bX6_mark_57
  refine r_iload_n X dX6_mark_57 rfl 2 rfl ?_
  refine r_tsw 1 88 X dX6_mark_58 (by decide) (by decide) rfl (by decide) ?_ (fun q1 => ?_)
  · refine r_aload_n X dX6_mark_88 rfl 0 rfl ?_
    refine r_iconst (v := 0) X dX6_mark_89 (by decide) ?_
    refine r_aload_n X dX6_mark_90 rfl 0 rfl ?_
    refine r_iload_n X dX6_mark_91 rfl 1 rfl ?_
    refine r_callVI [.int l1] X mt_X6_196 (by decide) h_l0 (by decide) (okX6_eatSet _ _ X.J h_l0) rfl (Nat.le_of_ble_eq_true rfl) dX6_mark_92 rfl (fun v2 M1 => ?_)
    refine r_callVI [.int 0, .int v2] X mt_X6_199 (by decide) h_l0 (by decide) (okX6_crumbsOn _ _ X.J h_l0) rfl (Nat.le_of_ble_eq_true rfl) dX6_mark_95 rfl (fun v4 M3 => ?_)
    exact r_iret Hr rfl dX6_mark_98
  refine r_tsw 2 99 X dX6_mark_58 (by decide) (by decide) rfl (by decide) ?_ (fun q2 => ?_)
  · refine r_aload_n X dX6_mark_99 rfl 0 rfl ?_
    refine r_iload_n X dX6_mark_100 rfl 1 rfl ?_
    refine r_callVI [.int l1] X mt_X6_217 (by decide) h_l0 (by decide) (okX6_hidden _ _ X.J h_l0) rfl (Nat.le_of_ble_eq_true rfl) dX6_mark_101 rfl (fun v6 M5 => ?_)
    exact r_iret Hr rfl dX6_mark_104
  refine r_tsw 3 105 X dX6_mark_58 (by decide) (by decide) rfl (by decide) ?_ (fun q3 => ?_)
  · refine r_aload_n X dX6_mark_105 rfl 0 rfl ?_
    refine r_iconst (v := 0) X dX6_mark_106 (by decide) ?_
    refine r_bipush (v := 24) X dX6_mark_107 (by decide) ?_
    refine r_iload_n X dX6_mark_109 rfl 1 rfl ?_
    refine r_callVI [.int 0, .int 24, .int l1] X mt_X6_180 (by decide) h_l0 (by decide) (okX6_v _ _ X.J h_l0) rfl (Nat.le_of_ble_eq_true rfl) dX6_mark_110 rfl (fun v8 M7 => ?_)
    exact r_iret Hr rfl dX6_mark_113
  refine r_tsw 4 114 X dX6_mark_58 (by decide) (by decide) rfl (by decide) ?_ (fun q4 => ?_)
  · refine r_aload_n X dX6_mark_114 rfl 0 rfl ?_
    refine r_iconst (v := 0) X dX6_mark_115 (by decide) ?_
    refine r_iconst (v := 2) X dX6_mark_116 (by decide) ?_
    refine r_iload_n X dX6_mark_117 rfl 1 rfl ?_
    refine r_callVI [.int 0, .int 2, .int l1] X mt_X6_184 (by decide) h_l0 (by decide) (okX6_marks _ _ X.J h_l0) rfl (Nat.le_of_ble_eq_true rfl) dX6_mark_118 rfl (fun v10 M9 => ?_)
    exact r_iret Hr rfl dX6_mark_121
  refine r_tswd 122 X dX6_mark_58 (by have := i32_ne q1 (n := 1) (by decide); have := i32_ne q2 (n := 2) (by decide); have := i32_ne q3 (n := 3) (by decide); have := i32_ne q4 (n := 4) (by decide); omega) (by decide) ?_
  refine r_aload_n X dX6_mark_122 rfl 0 rfl ?_
  refine r_iload_n X dX6_mark_123 rfl 1 rfl ?_
  refine r_callVI [.int l1] X mt_X6_220 (by decide) h_l0 (by decide) (okX6_thicketsBy _ _ X.J h_l0) rfl (Nat.le_of_ble_eq_true rfl) dX6_mark_124 rfl (fun v12 M11 => ?_)
  exact r_iret Hr rfl dX6_mark_127
set_option maxRecDepth 100000 in
noncomputable def bX6_mark_51 (l0 : Nat) (M : Mm) : Option (Int32 × Mm) := cal (fX6_meets l0 3 M) fun v14 M13 => some ((v14, M13))
set_option maxRecDepth 100000 in
set_option maxHeartbeats 4000000 in
theorem sX6_mark_51 {x : SB} {F : (Int32 × Mm) → Prop} (X : CX x cX6_mark RX6 3) (hL : x.2.2.2.1 = 4) (Hr : RTI x cX6_mark .int F (fun q => q)) {l0 : Nat} {M : Mm} (h_l0 : sh l0 = 16) : SIM x F (bX6_mark_51 l0 M) 51 [(0, rf x.2.1 l0)] [] M := by
  unfold bX6_mark_51
  refine r_aload_n X dX6_mark_51 rfl 0 rfl ?_
  refine r_iconst (v := 3) X dX6_mark_52 (by decide) ?_
  refine r_callVI [.int 3] X mt_X6_106 (by decide) h_l0 (by decide) (okX6_meets _ _ X.J h_l0) rfl (Nat.le_of_ble_eq_true rfl) dX6_mark_53 rfl (fun v14 M13 => ?_)
  exact r_iret Hr rfl dX6_mark_56
set_option maxRecDepth 100000 in
noncomputable def bX6_mark_41 (l0 : Nat) (l1 : Int32) (l2 : Int32) (l3 : Int32) (M : Mm) : Option (Int32 × Mm) := if l2 = 2 then if l3 = 5 then bX6_mark_57 l0 l1 l2 M else bX6_mark_51 l0 M else bX6_mark_51 l0 M
set_option maxRecDepth 100000 in
set_option maxHeartbeats 4000000 in
theorem sX6_mark_41 {x : SB} {F : (Int32 × Mm) → Prop} (X : CX x cX6_mark RX6 3) (hL : x.2.2.2.1 = 4) (Hr : RTI x cX6_mark .int F (fun q => q)) {l0 : Nat} {l1 : Int32} {l2 : Int32} {l3 : Int32} {M : Mm} (h_l0 : sh l0 = 16) : SIM x F (bX6_mark_41 l0 l1 l2 l3 M) 41 [(0, rf x.2.1 l0), (1, .int l1), (2, .int l2), (3, .int l3)] [] M := by
  unfold bX6_mark_41
  refine r_iload_n X dX6_mark_41 rfl 2 rfl ?_
  refine r_iconst (v := 2) X dX6_mark_42 (by decide) ?_
  refine r_icmp_ne 51 X dX6_mark_43 (by decide) ?_ ?_
  · refine r_iload_n X dX6_mark_46 rfl 3 rfl ?_
    refine r_iconst (v := 5) X dX6_mark_47 (by decide) ?_
    refine r_icmp_eq 57 X dX6_mark_48 (by decide) ?_ ?_
    · exact r_to [(0, rf x.2.1 l0), (1, .int l1), (2, .int l2)] [0, 1, 2] rfl (sX6_mark_57 X hL Hr h_l0)
    · exact r_to [(0, rf x.2.1 l0)] [0] rfl (sX6_mark_51 X hL Hr h_l0)
  · exact r_to [(0, rf x.2.1 l0)] [0] rfl (sX6_mark_51 X hL Hr h_l0)
set_option maxRecDepth 100000 in
noncomputable def bX6_mark_17  (M : Mm) : Option (Int32 × Mm) := some (((-1), M))
set_option maxRecDepth 100000 in
set_option maxHeartbeats 4000000 in
theorem sX6_mark_17 {x : SB} {F : (Int32 × Mm) → Prop} (X : CX x cX6_mark RX6 3) (hL : x.2.2.2.1 = 4) (Hr : RTI x cX6_mark .int F (fun q => q))  {M : Mm}  : SIM x F (bX6_mark_17  M) 17 [] [] M := by
  unfold bX6_mark_17
  refine r_iconst (v := (-1)) X dX6_mark_17 (by decide) ?_
  exact r_iret Hr rfl dX6_mark_18
set_option maxRecDepth 100000 in
noncomputable def fX6_mark (l0 : Nat) (l1 : Int32) (l2 : Int32) (M : Mm) : Option (Int32 × Mm) := cal (fX6_isPlace l0 l1 M) fun v16 M15 => if v16 = 0 then bX6_mark_17 M15 else cal (fX6_in l2 1 5 M15) fun v18 M17 => if v18 = 0 then bX6_mark_17 M17 else gfR M17 0 l0 12 fun v19 => ldI M17 v19 l1 fun v20 => if v20 = l2 then bX6_mark_57 l0 l1 l2 M17 else if l2 = 1 then if v20 = 4 then bX6_mark_57 l0 l1 l2 M17 else bX6_mark_41 l0 l1 l2 v20 M17 else bX6_mark_41 l0 l1 l2 v20 M17
set_option maxRecDepth 100000 in
set_option maxHeartbeats 4000000 in
theorem sX6_mark_0 {x : SB} {F : (Int32 × Mm) → Prop} (X : CX x cX6_mark RX6 3) (hL : x.2.2.2.1 = 4) (Hr : RTI x cX6_mark .int F (fun q => q)) {l0 : Nat} {l1 : Int32} {l2 : Int32} {M : Mm} (h_l0 : sh l0 = 16) : SIM x F (fX6_mark l0 l1 l2 M) 0 [(0, rf x.2.1 l0), (1, .int l1), (2, .int l2)] [] M := by
  unfold fX6_mark
  refine r_aload_n X dX6_mark_0 rfl 0 rfl ?_
  refine r_iload_n X dX6_mark_1 rfl 1 rfl ?_
  refine r_callVI [.int l1] X mt_X6_211 (by decide) h_l0 (by decide) (okX6_isPlace _ _ X.J h_l0) rfl (Nat.le_of_ble_eq_true rfl) dX6_mark_2 rfl (fun v16 M15 => ?_)
  refine r_if_eq 17 X dX6_mark_5 (by decide) ?_ ?_
  · exact r_to [] [] rfl (sX6_mark_17 X hL Hr)
  · refine r_iload_n X dX6_mark_8 rfl 2 rfl ?_
    refine r_iconst (v := 1) X dX6_mark_9 (by decide) ?_
    refine r_iconst (v := 5) X dX6_mark_10 (by decide) ?_
    refine r_callSI [.int l2, .int 1, .int 5] X mt_X6_92 (by decide) (okX6_in _ _ X.J) rfl (Nat.le_of_ble_eq_true rfl) dX6_mark_11 rfl (fun v18 M17 => ?_)
    refine r_if_ne 19 X dX6_mark_14 (by decide) ?_ ?_
    · exact r_to [] [] rfl (sX6_mark_17 X hL Hr)
    · refine r_aload_n X dX6_mark_19 rfl 0 rfl ?_
      refine r_getR X fl_X6_33 (by decide) h_l0 dX6_mark_20 (fun v19 h_v19 => ?_)
      refine r_iload_n X dX6_mark_23 rfl 1 rfl ?_
      refine r_iald X h_v19 dX6_mark_24 (fun v20 => ?_)
      refine r_istore_n [(3, .int v20), (0, rf x.2.1 l0), (1, .int l1), (2, .int l2)] X dX6_mark_25 rfl (nlt hL (by decide)) rfl ?_
      refine r_iload_n X dX6_mark_26 rfl 0 rfl ?_
      refine r_iload_n X dX6_mark_27 rfl 3 rfl ?_
      refine r_icmp_eq 57 X dX6_mark_28 (by decide) ?_ ?_
      · exact r_to [(0, rf x.2.1 l0), (1, .int l1), (2, .int l2)] [1, 2, 3] rfl (sX6_mark_57 X hL Hr h_l0)
      · refine r_iload_n X dX6_mark_31 rfl 3 rfl ?_
        refine r_iconst (v := 1) X dX6_mark_32 (by decide) ?_
        refine r_icmp_ne 41 X dX6_mark_33 (by decide) ?_ ?_
        · refine r_iload_n X dX6_mark_36 rfl 0 rfl ?_
          refine r_iconst (v := 4) X dX6_mark_37 (by decide) ?_
          refine r_icmp_eq 57 X dX6_mark_38 (by decide) ?_ ?_
          · exact r_to [(0, rf x.2.1 l0), (1, .int l1), (2, .int l2)] [1, 2, 3] rfl (sX6_mark_57 X hL Hr h_l0)
          · exact r_to [(0, rf x.2.1 l0), (1, .int l1), (2, .int l2), (3, .int v20)] [1, 2, 3, 0] rfl (sX6_mark_41 X hL Hr h_l0)
        · exact r_to [(0, rf x.2.1 l0), (1, .int l1), (2, .int l2), (3, .int v20)] [1, 2, 3, 0] rfl (sX6_mark_41 X hL Hr h_l0)
set_option maxRecDepth 100000 in
set_option maxHeartbeats 4000000 in
theorem okX6_mark (l : Launch) (g : GX) (hJ : IJ g) {l0 : Nat} {l1 : Int32} {l2 : Int32} {M : Mm} (h_l0 : sh l0 = 16) : CT l g yX6_mark cX6_mark 4 (some .int) 3 [rf g l0, .int l1, .int l2] M (fX6_mark l0 l1 l2 M) (fun r => some (.int r)) := by
  refine ct_I rfl hJ (Nat.le_of_ble_eq_true rfl) (fun x r hg hL hl X hf Hr => ?_)
  subst hg
  exact fun _ ls H locs hl hP hS => sX6_mark_0 X hL Hr h_l0 ⟨_, hf, rfl⟩ ls H locs hl hP hS
/-! CrumbWoodModel.mean(I)I -/
set_option maxRecDepth 100000 in
def pX6_mean (x : SB) (q : Nat × Nat × Int32 × Int64 × Int32 × Mm) : Prop := match q.1 with
  | 1 => sh q.2.1 = 16 → ∀ (ls : Array Slot) (H : Heap) (locs : List Loc), lv_has ls x.2.2.2.1 [(0, rf x.2.1 q.2.1), (1, .int q.2.2.1), (2, .long q.2.2.2.1), (4, .int q.2.2.2.2.1)] → PW x.2.1 (q.2.2.2.2.2) H → SH x H locs → SW x H locs 44 ls []
  | _ => True
set_option maxRecDepth 100000 in
noncomputable def bX6_mean_44 (l0 : Nat) (l1 : Int32) (l2 : Int64) (l4 : Int32) (M : Mm) : Option ((Nat × Nat × Int32 × Int64 × Int32 × Mm) ⊕ Int32 × Mm) := gfR M 0 l0 5 fun v1 => ldI M v1 l1 fun v2 => if v2 ≤ l4 then gfR M 0 l0 5 fun v3 => ldI M v3 l1 fun v4 => dvJ l2 ((v4 : Int32).toInt64) fun v5 => cal (fX6_tells l0 ((v5 : Int64).toInt32) 1 M) fun v7 M6 => some (.inr (v7, M6)) else cal (fX6_rowAt l0 l1 l4 M) fun v9 M8 => ltJ (l2 + ((v9 : Int32).toInt64)) fun v10 => some (.inl (1, l0, l1, v10, (l4 + 1), M8))
set_option maxRecDepth 100000 in
set_option maxHeartbeats 4000000 in
theorem sX6_mean_44 {x : SB} {F : ((Nat × Nat × Int32 × Int64 × Int32 × Mm) ⊕ Int32 × Mm) → Prop} (X : CX x cX6_mean RX6 2) (hL : x.2.2.2.1 = 5) (Hr : RTI x cX6_mean .int F Sum.inr) (HH : ∀ q, F (.inl q) → pX6_mean x q) {l0 : Nat} {l1 : Int32} {l2 : Int64} {l4 : Int32} {M : Mm} (h_l0 : sh l0 = 16) : SIM x F (bX6_mean_44 l0 l1 l2 l4 M) 44 [(0, rf x.2.1 l0), (1, .int l1), (2, .long l2), (4, .int l4)] [] M := by
  unfold bX6_mean_44
  refine r_iload X dX6_mean_44 3 rfl ?_
  refine r_aload_n X dX6_mean_46 rfl 0 rfl ?_
  refine r_getR X fl_X6_17 (by decide) h_l0 dX6_mean_47 (fun v1 h_v1 => ?_)
  refine r_iload_n X dX6_mean_50 rfl 1 rfl ?_
  refine r_iald X h_v1 dX6_mean_51 (fun v2 => ?_)
  refine r_icmp_ge 72 X dX6_mean_52 (by decide) ?_ ?_
  · refine r_aload_n X dX6_mean_72 rfl 0 rfl ?_
    refine r_lload_n X dX6_mean_73 rfl 2 rfl ?_
    refine r_aload_n X dX6_mean_74 rfl 0 rfl ?_
    refine r_getR X fl_X6_17 (by decide) h_l0 dX6_mean_75 (fun v3 h_v3 => ?_)
    refine r_iload_n X dX6_mean_78 rfl 1 rfl ?_
    refine r_iald X h_v3 dX6_mean_79 (fun v4 => ?_)
    refine r_i2l X dX6_mean_80 ?_
    refine r_ldiv X dX6_mean_81 (fun v5 => ?_)
    refine r_l2i X dX6_mean_82 ?_
    refine r_iconst (v := 1) X dX6_mean_83 (by decide) ?_
    refine r_callVI [.int ((v5 : Int64).toInt32), .int 1] X mt_X6_114 (by decide) h_l0 (by decide) (okX6_tells _ _ X.J h_l0) rfl (Nat.le_of_ble_eq_true rfl) dX6_mean_84 rfl (fun v7 M6 => ?_)
    exact r_iret Hr rfl dX6_mean_87
  · refine r_lload_n X dX6_mean_55 rfl 2 rfl ?_
    refine r_aload_n X dX6_mean_56 rfl 0 rfl ?_
    refine r_iload_n X dX6_mean_57 rfl 1 rfl ?_
    refine r_iload X dX6_mean_58 3 rfl ?_
    refine r_callVI [.int l1, .int l4] X mt_X6_110 (by decide) h_l0 (by decide) (okX6_rowAt _ _ X.J h_l0) rfl (Nat.le_of_ble_eq_true rfl) dX6_mean_60 rfl (fun v9 M8 => ?_)
    refine r_i2l X dX6_mean_63 ?_
    refine r_ladd X dX6_mean_64 ?_
    refine r_letJ (fun v10 => ?_)
    refine r_lstore_n [(2, .long v10), (0, rf x.2.1 l0), (1, .int l1), (4, .int l4)] X dX6_mean_65 rfl (nlt hL (by decide)) rfl ?_
    refine r_iinc [(4, .int (l4 + 1)), (2, .long v10), (0, rf x.2.1 l0), (1, .int l1)] X dX6_mean_66 3 rfl rfl (nlt hL (by decide)) rfl ?_
    refine r_goto 44 X dX6_mean_69 (by decide) ?_
    exact r_hdr [(0, rf x.2.1 l0), (1, .int l1), (2, .long v10), (4, .int (l4 + 1))] [2, 3, 1, 0] rfl (fun h => HH _ h h_l0)
set_option maxRecDepth 100000 in
noncomputable def bX6_mean_0 (l0 : Nat) (l1 : Int32) (M : Mm) : Option ((Nat × Nat × Int32 × Int64 × Int32 × Mm) ⊕ Int32 × Mm) := cal (fX6_isRow l1 M) fun v12 M11 => if v12 = 0 then some (.inr ((-1), M11)) else gfR M11 0 l0 5 fun v13 => ldI M11 v13 l1 fun v14 => if 0 ≤ v14 then gfR M11 0 l0 5 fun v15 => ldI M11 v15 l1 fun v16 => if v16 = 0 then cal (fX6_meets l0 4 M11) fun v18 M17 => some (.inr (v18, M17)) else some (.inl (1, l0, l1, 0, 0, M11)) else cal (fX6_meets l0 1 M11) fun v20 M19 => some (.inr (v20, M19))
set_option maxRecDepth 100000 in
set_option maxHeartbeats 4000000 in
theorem sX6_mean_0 {x : SB} {F : ((Nat × Nat × Int32 × Int64 × Int32 × Mm) ⊕ Int32 × Mm) → Prop} (X : CX x cX6_mean RX6 2) (hL : x.2.2.2.1 = 5) (Hr : RTI x cX6_mean .int F Sum.inr) (HH : ∀ q, F (.inl q) → pX6_mean x q) {l0 : Nat} {l1 : Int32} {M : Mm} (h_l0 : sh l0 = 16) : SIM x F (bX6_mean_0 l0 l1 M) 0 [(0, rf x.2.1 l0), (1, .int l1)] [] M := by
  unfold bX6_mean_0
  refine r_iload_n X dX6_mean_0 rfl 1 rfl ?_
  refine r_callSI [.int l1] X mt_X6_102 (by decide) (okX6_isRow _ _ X.J) rfl (Nat.le_of_ble_eq_true rfl) dX6_mean_1 rfl (fun v12 M11 => ?_)
  refine r_if_ne 9 X dX6_mean_4 (by decide) ?_ ?_
  · refine r_iconst (v := (-1)) X dX6_mean_7 (by decide) ?_
    exact r_iret Hr rfl dX6_mean_8
  · refine r_aload_n X dX6_mean_9 rfl 0 rfl ?_
    refine r_getR X fl_X6_17 (by decide) h_l0 dX6_mean_10 (fun v13 h_v13 => ?_)
    refine r_iload_n X dX6_mean_13 rfl 1 rfl ?_
    refine r_iald X h_v13 dX6_mean_14 (fun v14 => ?_)
    refine r_if_ge 24 X dX6_mean_15 (by decide) ?_ ?_
    · refine r_aload_n X dX6_mean_24 rfl 0 rfl ?_
      refine r_getR X fl_X6_17 (by decide) h_l0 dX6_mean_25 (fun v15 h_v15 => ?_)
      refine r_iload_n X dX6_mean_28 rfl 1 rfl ?_
      refine r_iald X h_v15 dX6_mean_29 (fun v16 => ?_)
      refine r_if_ne 39 X dX6_mean_30 (by decide) ?_ ?_
      · refine r_aload_n X dX6_mean_33 rfl 0 rfl ?_
        refine r_iconst (v := 4) X dX6_mean_34 (by decide) ?_
        refine r_callVI [.int 4] X mt_X6_106 (by decide) h_l0 (by decide) (okX6_meets _ _ X.J h_l0) rfl (Nat.le_of_ble_eq_true rfl) dX6_mean_35 rfl (fun v18 M17 => ?_)
        exact r_iret Hr rfl dX6_mean_38
      · refine r_lconst (v := 0) X dX6_mean_39 (by decide) ?_
        refine r_lstore_n [(2, .long 0), (0, rf x.2.1 l0), (1, .int l1)] X dX6_mean_40 rfl (nlt hL (by decide)) rfl ?_
        refine r_iconst (v := 0) X dX6_mean_41 (by decide) ?_
        refine r_istore [(4, .int 0), (2, .long 0), (0, rf x.2.1 l0), (1, .int l1)] X dX6_mean_42 (nlt hL (by decide)) rfl ?_
        exact r_hdr [(0, rf x.2.1 l0), (1, .int l1), (2, .long 0), (4, .int 0)] [2, 3, 1, 0] rfl (fun h => HH _ h h_l0)
    · refine r_aload_n X dX6_mean_18 rfl 0 rfl ?_
      refine r_iconst (v := 1) X dX6_mean_19 (by decide) ?_
      refine r_callVI [.int 1] X mt_X6_106 (by decide) h_l0 (by decide) (okX6_meets _ _ X.J h_l0) rfl (Nat.le_of_ble_eq_true rfl) dX6_mean_20 rfl (fun v20 M19 => ?_)
      exact r_iret Hr rfl dX6_mean_23
set_option maxRecDepth 100000 in
noncomputable def gX6_mean (q : Nat × Nat × Int32 × Int64 × Int32 × Mm) : Option ((Nat × Nat × Int32 × Int64 × Int32 × Mm) ⊕ Int32 × Mm) := match q.1 with
  | 1 => bX6_mean_44 (q.2.1) (q.2.2.1) (q.2.2.2.1) (q.2.2.2.2.1) (q.2.2.2.2.2)
  | _ => none
set_option maxRecDepth 100000 in
noncomputable def fX6_mean (l0 : Nat) (l1 : Int32) (M : Mm) : Option (Int32 × Mm) := fen gX6_mean (bX6_mean_0 l0 l1 M)
set_option maxRecDepth 100000 in
set_option maxHeartbeats 4000000 in
theorem okX6_mean (l : Launch) (g : GX) (hJ : IJ g) {l0 : Nat} {l1 : Int32} {M : Mm} (h_l0 : sh l0 = 16) : CT l g yX6_mean cX6_mean 5 (some .int) 2 [rf g l0, .int l1] M (fX6_mean l0 l1 M) (fun r => some (.int r)) := by
  refine ct_I rfl hJ (Nat.le_of_ble_eq_true rfl) (fun x r hg hL hl X hf Hr => ?_)
  subst hg
  have Hr2 : RTI x cX6_mean .int (Sum.elim (pX6_mean x) (fun q => q = r)) Sum.inr := fun v M h => Hr v M h
  have HP : ∀ q, fnl gX6_mean q = some r → pX6_mean x q := by
    intro q hq
    refine fnl_ind (pX6_mean x) (fun q hq => ?_) hq
    obtain ⟨n, l0, l1, l2, l4, M⟩ := q
    match n, hq with
    | 1, hq => exact fun h_l0 ls H locs hl hP hS => sX6_mean_44 X hL Hr2 (fun _ h => h) h_l0 hq ls H locs hl hP hS
    | 0, hq => exact trivial
    | n + 2, hq => exact trivial
  exact fun _ ls H locs hl hP hS => sX6_mean_0 X hL Hr2 (fun _ h => h) h_l0 (fen_w hf HP) ls H locs hl hP hS
/-! CrumbWoodModel.nearest()I -/
set_option maxRecDepth 100000 in
def pX6_nearest (x : SB) (q : Nat × Nat × Int32 × Int32 × Int32 × Int32 × Mm) : Prop := match q.1 with
  | 1 => sh q.2.1 = 16 → ∀ (ls : Array Slot) (H : Heap) (locs : List Loc), lv_has ls x.2.2.2.1 [(0, rf x.2.1 q.2.1), (1, .int q.2.2.1)] → PW x.2.1 (q.2.2.2.2.2.2) H → SH x H locs → SW x H locs 12 ls []
  | 2 => sh q.2.1 = 16 → ∀ (ls : Array Slot) (H : Heap) (locs : List Loc), lv_has ls x.2.2.2.1 [(0, rf x.2.1 q.2.1), (1, .int q.2.2.1), (2, .int q.2.2.2.1)] → PW x.2.1 (q.2.2.2.2.2.2) H → SH x H locs → SW x H locs 79 ls []
  | 3 => sh q.2.1 = 16 → ∀ (ls : Array Slot) (H : Heap) (locs : List Loc), lv_has ls x.2.2.2.1 [(0, rf x.2.1 q.2.1), (1, .int q.2.2.1), (2, .int q.2.2.2.1), (3, .int q.2.2.2.2.1), (4, .int q.2.2.2.2.2.1)] → PW x.2.1 (q.2.2.2.2.2.2) H → SH x H locs → SW x H locs 94 ls []
  | _ => True
set_option maxRecDepth 100000 in
noncomputable def bX6_nearest_205 (l0 : Nat) (l1 : Int32) (l2 : Int32) (l3 : Int32) (l4 : Int32) (s0 : Int32) (s1 : Int32) (s2 : Int32) (s3 : Nat) (M : Mm) : Option ((Nat × Nat × Int32 × Int32 × Int32 × Int32 × Mm) ⊕ Int32 × Mm) := stI M s3 s2 (s1 + s0) fun M1 => some (.inl (3, l0, l1, l2, l3, (l4 + 1), M1))
set_option maxRecDepth 100000 in
set_option maxHeartbeats 4000000 in
theorem sX6_nearest_205 {x : SB} {F : ((Nat × Nat × Int32 × Int32 × Int32 × Int32 × Mm) ⊕ Int32 × Mm) → Prop} (X : CX x cX6_nearest RX6 1) (hL : x.2.2.2.1 = 5) (Hr : RTI x cX6_nearest .int F Sum.inr) (HH : ∀ q, F (.inl q) → pX6_nearest x q) {l0 : Nat} {l1 : Int32} {l2 : Int32} {l3 : Int32} {l4 : Int32} {s0 : Int32} {s1 : Int32} {s2 : Int32} {s3 : Nat} {M : Mm} (h_l0 : sh l0 = 16) (h_s3 : sh s3 = 0) : SIM x F (bX6_nearest_205 l0 l1 l2 l3 l4 s0 s1 s2 s3 M) 205 [(0, rf x.2.1 l0), (1, .int l1), (2, .int l2), (3, .int l3), (4, .int l4)] [.int s0, .int s1, .int s2, rf x.2.1 s3] M := by
  unfold bX6_nearest_205
  refine r_iadd X dX6_nearest_205 ?_
  refine r_iast X h_s3 dX6_nearest_206 (fun M1 => ?_)
  refine r_iinc [(4, .int (l4 + 1)), (0, rf x.2.1 l0), (1, .int l1), (2, .int l2), (3, .int l3)] X dX6_nearest_207 4 rfl rfl (nlt hL (by decide)) rfl ?_
  refine r_goto 94 X dX6_nearest_210 (by decide) ?_
  exact r_hdr [(0, rf x.2.1 l0), (1, .int l1), (2, .int l2), (3, .int l3), (4, .int (l4 + 1))] [1, 2, 3, 4, 0] rfl (fun h => HH _ h h_l0)
set_option maxRecDepth 100000 in
noncomputable def bX6_nearest_204 (l0 : Nat) (l1 : Int32) (l2 : Int32) (l3 : Int32) (l4 : Int32) (s0 : Int32) (s1 : Int32) (s2 : Nat) (M : Mm) : Option ((Nat × Nat × Int32 × Int32 × Int32 × Int32 × Mm) ⊕ Int32 × Mm) := bX6_nearest_205 l0 l1 l2 l3 l4 0 s0 s1 s2 M
set_option maxRecDepth 100000 in
set_option maxHeartbeats 4000000 in
theorem sX6_nearest_204 {x : SB} {F : ((Nat × Nat × Int32 × Int32 × Int32 × Int32 × Mm) ⊕ Int32 × Mm) → Prop} (X : CX x cX6_nearest RX6 1) (hL : x.2.2.2.1 = 5) (Hr : RTI x cX6_nearest .int F Sum.inr) (HH : ∀ q, F (.inl q) → pX6_nearest x q) {l0 : Nat} {l1 : Int32} {l2 : Int32} {l3 : Int32} {l4 : Int32} {s0 : Int32} {s1 : Int32} {s2 : Nat} {M : Mm} (h_l0 : sh l0 = 16) (h_s2 : sh s2 = 0) : SIM x F (bX6_nearest_204 l0 l1 l2 l3 l4 s0 s1 s2 M) 204 [(0, rf x.2.1 l0), (1, .int l1), (2, .int l2), (3, .int l3), (4, .int l4)] [.int s0, .int s1, rf x.2.1 s2] M := by
  unfold bX6_nearest_204
  refine r_iconst (v := 0) X dX6_nearest_204 (by decide) ?_
  exact r_to [(0, rf x.2.1 l0), (1, .int l1), (2, .int l2), (3, .int l3), (4, .int l4)] [0, 1, 2, 3, 4] rfl (sX6_nearest_205 X hL Hr HH h_l0 h_s2)
set_option maxRecDepth 100000 in
noncomputable def bX6_nearest_155 (l0 : Nat) (l1 : Int32) (l2 : Int32) (l3 : Int32) (l4 : Int32) (M : Mm) : Option ((Nat × Nat × Int32 × Int32 × Int32 × Int32 × Mm) ⊕ Int32 × Mm) := gfR M 0 l0 35 fun v2 => ldI M v2 l4 fun v3 => gfR M 0 l0 13 fun v4 => ldI M v4 l3 fun v5 => cal (fX6_has v5 l4 M) fun v7 M6 => if v7 = 0 then bX6_nearest_204 l0 l1 l2 l3 l4 v3 l4 v2 M6 else gfR M6 0 l0 34 fun v8 => ldI M6 v8 l4 fun v9 => gfR M6 0 l0 34 fun v10 => ldI M6 v10 l3 fun v11 => if v9 = (v11 + 1) then gfR M6 0 l0 35 fun v12 => ldI M6 v12 l3 fun v13 => bX6_nearest_205 l0 l1 l2 l3 l4 v13 v3 l4 v2 M6 else bX6_nearest_204 l0 l1 l2 l3 l4 v3 l4 v2 M6
set_option maxRecDepth 100000 in
set_option maxHeartbeats 4000000 in
theorem sX6_nearest_155 {x : SB} {F : ((Nat × Nat × Int32 × Int32 × Int32 × Int32 × Mm) ⊕ Int32 × Mm) → Prop} (X : CX x cX6_nearest RX6 1) (hL : x.2.2.2.1 = 5) (Hr : RTI x cX6_nearest .int F Sum.inr) (HH : ∀ q, F (.inl q) → pX6_nearest x q) {l0 : Nat} {l1 : Int32} {l2 : Int32} {l3 : Int32} {l4 : Int32} {M : Mm} (h_l0 : sh l0 = 16) : SIM x F (bX6_nearest_155 l0 l1 l2 l3 l4 M) 155 [(0, rf x.2.1 l0), (1, .int l1), (2, .int l2), (3, .int l3), (4, .int l4)] [] M := by
  unfold bX6_nearest_155
  refine r_aload_n X dX6_nearest_155 rfl 0 rfl ?_
  refine r_getR X fl_X6_79 (by decide) h_l0 dX6_nearest_156 (fun v2 h_v2 => ?_)
  refine r_iload X dX6_nearest_159 4 rfl ?_
  refine r_dup2 X dX6_nearest_161 rfl rfl ?_
  refine r_iald X h_v2 dX6_nearest_162 (fun v3 => ?_)
  refine r_aload_n X dX6_nearest_163 rfl 0 rfl ?_
  refine r_getR X fl_X6_36 (by decide) h_l0 dX6_nearest_164 (fun v4 h_v4 => ?_)
  refine r_iload_n X dX6_nearest_167 rfl 3 rfl ?_
  refine r_iald X h_v4 dX6_nearest_168 (fun v5 => ?_)
  refine r_iload X dX6_nearest_169 4 rfl ?_
  refine r_callSI [.int v5, .int l4] X mt_X6_145 (by decide) (okX6_has _ _ X.J) rfl (Nat.le_of_ble_eq_true rfl) dX6_nearest_171 rfl (fun v7 M6 => ?_)
  refine r_if_eq 204 X dX6_nearest_174 (by decide) ?_ ?_
  · exact r_to [(0, rf x.2.1 l0), (1, .int l1), (2, .int l2), (3, .int l3), (4, .int l4)] [0, 1, 2, 3, 4] rfl (sX6_nearest_204 X hL Hr HH h_l0 h_v2)
  · refine r_aload_n X dX6_nearest_177 rfl 0 rfl ?_
    refine r_getR X fl_X6_76 (by decide) h_l0 dX6_nearest_178 (fun v8 h_v8 => ?_)
    refine r_iload X dX6_nearest_181 4 rfl ?_
    refine r_iald X h_v8 dX6_nearest_183 (fun v9 => ?_)
    refine r_aload_n X dX6_nearest_184 rfl 0 rfl ?_
    refine r_getR X fl_X6_76 (by decide) h_l0 dX6_nearest_185 (fun v10 h_v10 => ?_)
    refine r_iload_n X dX6_nearest_188 rfl 3 rfl ?_
    refine r_iald X h_v10 dX6_nearest_189 (fun v11 => ?_)
    refine r_iconst (v := 1) X dX6_nearest_190 (by decide) ?_
    refine r_iadd X dX6_nearest_191 ?_
    refine r_icmp_ne 204 X dX6_nearest_192 (by decide) ?_ ?_
    · refine r_aload_n X dX6_nearest_195 rfl 0 rfl ?_
      refine r_getR X fl_X6_79 (by decide) h_l0 dX6_nearest_196 (fun v12 h_v12 => ?_)
      refine r_iload_n X dX6_nearest_199 rfl 3 rfl ?_
      refine r_iald X h_v12 dX6_nearest_200 (fun v13 => ?_)
      refine r_goto 205 X dX6_nearest_201 (by decide) ?_
      exact r_to [(0, rf x.2.1 l0), (1, .int l1), (2, .int l2), (3, .int l3), (4, .int l4)] [0, 1, 2, 3, 4] rfl (sX6_nearest_205 X hL Hr HH h_l0 h_v2)
    · exact r_to [(0, rf x.2.1 l0), (1, .int l1), (2, .int l2), (3, .int l3), (4, .int l4)] [0, 1, 2, 3, 4] rfl (sX6_nearest_204 X hL Hr HH h_l0 h_v2)
set_option maxRecDepth 100000 in
noncomputable def bX6_nearest_94 (l0 : Nat) (l1 : Int32) (l2 : Int32) (l3 : Int32) (l4 : Int32) (M : Mm) : Option ((Nat × Nat × Int32 × Int32 × Int32 × Int32 × Mm) ⊕ Int32 × Mm) := gfI M l0 10 fun v14 => if v14 ≤ l4 then some (.inl (2, l0, l1, (l2 + 1), 0, 0, M)) else gfR M 0 l0 13 fun v15 => ldI M v15 l3 fun v16 => cal (fX6_has v16 l4 M) fun v18 M17 => if v18 = 0 then bX6_nearest_155 l0 l1 l2 l3 l4 M17 else gfR M17 0 l0 34 fun v19 => ldI M17 v19 l4 fun v20 => if v20 = (-9) then gfR M17 0 l0 34 fun v21 => gfR M17 0 l0 34 fun v22 => ldI M17 v22 l3 fun v23 => stI M17 v21 l4 (v23 + 1) fun M24 => gfR M24 0 l0 36 fun v25 => stI M24 v25 l1 l4 fun M26 => bX6_nearest_155 l0 (l1 + 1) l2 l3 l4 M26 else bX6_nearest_155 l0 l1 l2 l3 l4 M17
set_option maxRecDepth 100000 in
set_option maxHeartbeats 4000000 in
theorem sX6_nearest_94 {x : SB} {F : ((Nat × Nat × Int32 × Int32 × Int32 × Int32 × Mm) ⊕ Int32 × Mm) → Prop} (X : CX x cX6_nearest RX6 1) (hL : x.2.2.2.1 = 5) (Hr : RTI x cX6_nearest .int F Sum.inr) (HH : ∀ q, F (.inl q) → pX6_nearest x q) {l0 : Nat} {l1 : Int32} {l2 : Int32} {l3 : Int32} {l4 : Int32} {M : Mm} (h_l0 : sh l0 = 16) : SIM x F (bX6_nearest_94 l0 l1 l2 l3 l4 M) 94 [(0, rf x.2.1 l0), (1, .int l1), (2, .int l2), (3, .int l3), (4, .int l4)] [] M := by
  unfold bX6_nearest_94
  refine r_iload X dX6_nearest_94 4 rfl ?_
  refine r_aload_n X dX6_nearest_96 rfl 0 rfl ?_
  refine r_getI X fl_X6_167 (by decide) h_l0 dX6_nearest_97 (fun v14 => ?_)
  refine r_icmp_ge 213 X dX6_nearest_100 (by decide) ?_ ?_
  · refine r_iinc [(2, .int (l2 + 1)), (0, rf x.2.1 l0), (1, .int l1), (3, .int l3), (4, .int l4)] X dX6_nearest_213 2 rfl rfl (nlt hL (by decide)) rfl ?_
    refine r_goto 79 X dX6_nearest_216 (by decide) ?_
    exact r_hdr [(0, rf x.2.1 l0), (1, .int l1), (2, .int (l2 + 1))] [1, 2, 0] rfl (fun h => HH _ h h_l0)
  · refine r_aload_n X dX6_nearest_103 rfl 0 rfl ?_
    refine r_getR X fl_X6_36 (by decide) h_l0 dX6_nearest_104 (fun v15 h_v15 => ?_)
    refine r_iload_n X dX6_nearest_107 rfl 3 rfl ?_
    refine r_iald X h_v15 dX6_nearest_108 (fun v16 => ?_)
    refine r_iload X dX6_nearest_109 4 rfl ?_
    refine r_callSI [.int v16, .int l4] X mt_X6_145 (by decide) (okX6_has _ _ X.J) rfl (Nat.le_of_ble_eq_true rfl) dX6_nearest_111 rfl (fun v18 M17 => ?_)
    refine r_if_eq 155 X dX6_nearest_114 (by decide) ?_ ?_
    · exact r_to [(0, rf x.2.1 l0), (1, .int l1), (2, .int l2), (3, .int l3), (4, .int l4)] [0, 1, 2, 3, 4] rfl (sX6_nearest_155 X hL Hr HH h_l0)
    · refine r_aload_n X dX6_nearest_117 rfl 0 rfl ?_
      refine r_getR X fl_X6_76 (by decide) h_l0 dX6_nearest_118 (fun v19 h_v19 => ?_)
      refine r_iload X dX6_nearest_121 4 rfl ?_
      refine r_iald X h_v19 dX6_nearest_123 (fun v20 => ?_)
      refine r_bipush (v := (-9)) X dX6_nearest_124 (by decide) ?_
      refine r_icmp_ne 155 X dX6_nearest_126 (by decide) ?_ ?_
      · refine r_aload_n X dX6_nearest_129 rfl 0 rfl ?_
        refine r_getR X fl_X6_76 (by decide) h_l0 dX6_nearest_130 (fun v21 h_v21 => ?_)
        refine r_iload X dX6_nearest_133 4 rfl ?_
        refine r_aload_n X dX6_nearest_135 rfl 0 rfl ?_
        refine r_getR X fl_X6_76 (by decide) h_l0 dX6_nearest_136 (fun v22 h_v22 => ?_)
        refine r_iload_n X dX6_nearest_139 rfl 3 rfl ?_
        refine r_iald X h_v22 dX6_nearest_140 (fun v23 => ?_)
        refine r_iconst (v := 1) X dX6_nearest_141 (by decide) ?_
        refine r_iadd X dX6_nearest_142 ?_
        refine r_iast X h_v21 dX6_nearest_143 (fun M24 => ?_)
        refine r_aload_n X dX6_nearest_144 rfl 0 rfl ?_
        refine r_getR X fl_X6_82 (by decide) h_l0 dX6_nearest_145 (fun v25 h_v25 => ?_)
        refine r_iload_n X dX6_nearest_148 rfl 1 rfl ?_
        refine r_iload X dX6_nearest_149 4 rfl ?_
        refine r_iast X h_v25 dX6_nearest_151 (fun M26 => ?_)
        refine r_iinc [(1, .int (l1 + 1)), (0, rf x.2.1 l0), (2, .int l2), (3, .int l3), (4, .int l4)] X dX6_nearest_152 1 rfl rfl (nlt hL (by decide)) rfl ?_
        exact r_to [(0, rf x.2.1 l0), (1, .int (l1 + 1)), (2, .int l2), (3, .int l3), (4, .int l4)] [1, 0, 2, 3, 4] rfl (sX6_nearest_155 X hL Hr HH h_l0)
      · exact r_to [(0, rf x.2.1 l0), (1, .int l1), (2, .int l2), (3, .int l3), (4, .int l4)] [0, 1, 2, 3, 4] rfl (sX6_nearest_155 X hL Hr HH h_l0)
set_option maxRecDepth 100000 in
noncomputable def bX6_nearest_79 (l0 : Nat) (l1 : Int32) (l2 : Int32) (M : Mm) : Option ((Nat × Nat × Int32 × Int32 × Int32 × Int32 × Mm) ⊕ Int32 × Mm) := if l1 ≤ l2 then gfR M 0 l0 34 fun v27 => ldI M v27 0 fun v28 => if v28 = (-9) then some (.inr ((-9), M)) else gfR M 0 l0 35 fun v29 => ldI M v29 0 fun v30 => gfR M 0 l0 34 fun v31 => ldI M v31 0 fun v32 => cal (fX6_tells l0 v30 v32 M) fun v34 M33 => some (.inr (v34, M33)) else gfR M 0 l0 36 fun v35 => ldI M v35 l2 fun v36 => some (.inl (3, l0, l1, l2, v36, 0, M))
set_option maxRecDepth 100000 in
set_option maxHeartbeats 4000000 in
theorem sX6_nearest_79 {x : SB} {F : ((Nat × Nat × Int32 × Int32 × Int32 × Int32 × Mm) ⊕ Int32 × Mm) → Prop} (X : CX x cX6_nearest RX6 1) (hL : x.2.2.2.1 = 5) (Hr : RTI x cX6_nearest .int F Sum.inr) (HH : ∀ q, F (.inl q) → pX6_nearest x q) {l0 : Nat} {l1 : Int32} {l2 : Int32} {M : Mm} (h_l0 : sh l0 = 16) : SIM x F (bX6_nearest_79 l0 l1 l2 M) 79 [(0, rf x.2.1 l0), (1, .int l1), (2, .int l2)] [] M := by
  unfold bX6_nearest_79
  refine r_iload_n X dX6_nearest_79 rfl 2 rfl ?_
  refine r_iload_n X dX6_nearest_80 rfl 1 rfl ?_
  refine r_icmp_ge 219 X dX6_nearest_81 (by decide) ?_ ?_
  · refine r_aload_n X dX6_nearest_219 rfl 0 rfl ?_
    refine r_getR X fl_X6_76 (by decide) h_l0 dX6_nearest_220 (fun v27 h_v27 => ?_)
    refine r_iconst (v := 0) X dX6_nearest_223 (by decide) ?_
    refine r_iald X h_v27 dX6_nearest_224 (fun v28 => ?_)
    refine r_bipush (v := (-9)) X dX6_nearest_225 (by decide) ?_
    refine r_icmp_ne 235 X dX6_nearest_227 (by decide) ?_ ?_
    · refine r_bipush (v := (-9)) X dX6_nearest_230 (by decide) ?_
      refine r_goto 251 X dX6_nearest_232 (by decide) ?_
      exact r_iret Hr rfl dX6_nearest_251
    · refine r_aload_n X dX6_nearest_235 rfl 0 rfl ?_
      refine r_aload_n X dX6_nearest_236 rfl 0 rfl ?_
      refine r_getR X fl_X6_79 (by decide) h_l0 dX6_nearest_237 (fun v29 h_v29 => ?_)
      refine r_iconst (v := 0) X dX6_nearest_240 (by decide) ?_
      refine r_iald X h_v29 dX6_nearest_241 (fun v30 => ?_)
      refine r_aload_n X dX6_nearest_242 rfl 0 rfl ?_
      refine r_getR X fl_X6_76 (by decide) h_l0 dX6_nearest_243 (fun v31 h_v31 => ?_)
      refine r_iconst (v := 0) X dX6_nearest_246 (by decide) ?_
      refine r_iald X h_v31 dX6_nearest_247 (fun v32 => ?_)
      refine r_callVI [.int v30, .int v32] X mt_X6_114 (by decide) h_l0 (by decide) (okX6_tells _ _ X.J h_l0) rfl (Nat.le_of_ble_eq_true rfl) dX6_nearest_248 rfl (fun v34 M33 => ?_)
      exact r_iret Hr rfl dX6_nearest_251
  · refine r_aload_n X dX6_nearest_84 rfl 0 rfl ?_
    refine r_getR X fl_X6_82 (by decide) h_l0 dX6_nearest_85 (fun v35 h_v35 => ?_)
    refine r_iload_n X dX6_nearest_88 rfl 2 rfl ?_
    refine r_iald X h_v35 dX6_nearest_89 (fun v36 => ?_)
    refine r_istore_n [(3, .int v36), (0, rf x.2.1 l0), (1, .int l1), (2, .int l2)] X dX6_nearest_90 rfl (nlt hL (by decide)) rfl ?_
    refine r_iconst (v := 0) X dX6_nearest_91 (by decide) ?_
    refine r_istore [(4, .int 0), (3, .int v36), (0, rf x.2.1 l0), (1, .int l1), (2, .int l2)] X dX6_nearest_92 (nlt hL (by decide)) rfl ?_
    exact r_hdr [(0, rf x.2.1 l0), (1, .int l1), (2, .int l2), (3, .int v36), (4, .int 0)] [2, 3, 4, 1, 0] rfl (fun h => HH _ h h_l0)
set_option maxRecDepth 100000 in
noncomputable def bX6_nearest_12 (l0 : Nat) (l1 : Int32) (M : Mm) : Option ((Nat × Nat × Int32 × Int32 × Int32 × Int32 × Mm) ⊕ Int32 × Mm) := gfI M l0 10 fun v37 => if v37 ≤ l1 then gfR M 0 l0 36 fun v38 => cal (fX6_hereNow l0 M) fun v40 M39 => stI M39 v38 0 v40 fun M41 => gfR M41 0 l0 34 fun v42 => gfR M41 0 l0 36 fun v43 => ldI M41 v43 0 fun v44 => stI M41 v42 v44 0 fun M45 => gfR M45 0 l0 35 fun v46 => gfR M45 0 l0 36 fun v47 => ldI M45 v47 0 fun v48 => stI M45 v46 v48 1 fun M49 => some (.inl (2, l0, 1, 0, 0, 0, M49)) else gfR M 0 l0 34 fun v50 => stI M v50 l1 (-9) fun M51 => gfR M51 0 l0 35 fun v52 => stI M51 v52 l1 0 fun M53 => some (.inl (1, l0, (l1 + 1), 0, 0, 0, M53))
set_option maxRecDepth 100000 in
set_option maxHeartbeats 4000000 in
theorem sX6_nearest_12 {x : SB} {F : ((Nat × Nat × Int32 × Int32 × Int32 × Int32 × Mm) ⊕ Int32 × Mm) → Prop} (X : CX x cX6_nearest RX6 1) (hL : x.2.2.2.1 = 5) (Hr : RTI x cX6_nearest .int F Sum.inr) (HH : ∀ q, F (.inl q) → pX6_nearest x q) {l0 : Nat} {l1 : Int32} {M : Mm} (h_l0 : sh l0 = 16) : SIM x F (bX6_nearest_12 l0 l1 M) 12 [(0, rf x.2.1 l0), (1, .int l1)] [] M := by
  unfold bX6_nearest_12
  refine r_iload_n X dX6_nearest_12 rfl 1 rfl ?_
  refine r_aload_n X dX6_nearest_13 rfl 0 rfl ?_
  refine r_getI X fl_X6_167 (by decide) h_l0 dX6_nearest_14 (fun v37 => ?_)
  refine r_icmp_ge 41 X dX6_nearest_17 (by decide) ?_ ?_
  · refine r_aload_n X dX6_nearest_41 rfl 0 rfl ?_
    refine r_getR X fl_X6_82 (by decide) h_l0 dX6_nearest_42 (fun v38 h_v38 => ?_)
    refine r_iconst (v := 0) X dX6_nearest_45 (by decide) ?_
    refine r_aload_n X dX6_nearest_46 rfl 0 rfl ?_
    refine r_callVI [] X mt_X6_223 (by decide) h_l0 (by decide) (okX6_hereNow _ _ X.J h_l0) rfl (Nat.le_of_ble_eq_true rfl) dX6_nearest_47 rfl (fun v40 M39 => ?_)
    refine r_iast X h_v38 dX6_nearest_50 (fun M41 => ?_)
    refine r_aload_n X dX6_nearest_51 rfl 0 rfl ?_
    refine r_getR X fl_X6_76 (by decide) h_l0 dX6_nearest_52 (fun v42 h_v42 => ?_)
    refine r_aload_n X dX6_nearest_55 rfl 0 rfl ?_
    refine r_getR X fl_X6_82 (by decide) h_l0 dX6_nearest_56 (fun v43 h_v43 => ?_)
    refine r_iconst (v := 0) X dX6_nearest_59 (by decide) ?_
    refine r_iald X h_v43 dX6_nearest_60 (fun v44 => ?_)
    refine r_iconst (v := 0) X dX6_nearest_61 (by decide) ?_
    refine r_iast X h_v42 dX6_nearest_62 (fun M45 => ?_)
    refine r_aload_n X dX6_nearest_63 rfl 0 rfl ?_
    refine r_getR X fl_X6_79 (by decide) h_l0 dX6_nearest_64 (fun v46 h_v46 => ?_)
    refine r_aload_n X dX6_nearest_67 rfl 0 rfl ?_
    refine r_getR X fl_X6_82 (by decide) h_l0 dX6_nearest_68 (fun v47 h_v47 => ?_)
    refine r_iconst (v := 0) X dX6_nearest_71 (by decide) ?_
    refine r_iald X h_v47 dX6_nearest_72 (fun v48 => ?_)
    refine r_iconst (v := 1) X dX6_nearest_73 (by decide) ?_
    refine r_iast X h_v46 dX6_nearest_74 (fun M49 => ?_)
    refine r_iconst (v := 1) X dX6_nearest_75 (by decide) ?_
    refine r_istore_n [(1, .int 1), (0, rf x.2.1 l0)] X dX6_nearest_76 rfl (nlt hL (by decide)) rfl ?_
    refine r_iconst (v := 0) X dX6_nearest_77 (by decide) ?_
    refine r_istore_n [(2, .int 0), (1, .int 1), (0, rf x.2.1 l0)] X dX6_nearest_78 rfl (nlt hL (by decide)) rfl ?_
    exact r_hdr [(0, rf x.2.1 l0), (1, .int 1), (2, .int 0)] [2, 1, 0] rfl (fun h => HH _ h h_l0)
  · refine r_aload_n X dX6_nearest_20 rfl 0 rfl ?_
    refine r_getR X fl_X6_76 (by decide) h_l0 dX6_nearest_21 (fun v50 h_v50 => ?_)
    refine r_iload_n X dX6_nearest_24 rfl 1 rfl ?_
    refine r_bipush (v := (-9)) X dX6_nearest_25 (by decide) ?_
    refine r_iast X h_v50 dX6_nearest_27 (fun M51 => ?_)
    refine r_aload_n X dX6_nearest_28 rfl 0 rfl ?_
    refine r_getR X fl_X6_79 (by decide) h_l0 dX6_nearest_29 (fun v52 h_v52 => ?_)
    refine r_iload_n X dX6_nearest_32 rfl 1 rfl ?_
    refine r_iconst (v := 0) X dX6_nearest_33 (by decide) ?_
    refine r_iast X h_v52 dX6_nearest_34 (fun M53 => ?_)
    refine r_iinc [(1, .int (l1 + 1)), (0, rf x.2.1 l0)] X dX6_nearest_35 1 rfl rfl (nlt hL (by decide)) rfl ?_
    refine r_goto 12 X dX6_nearest_38 (by decide) ?_
    exact r_hdr [(0, rf x.2.1 l0), (1, .int (l1 + 1))] [1, 0] rfl (fun h => HH _ h h_l0)
set_option maxRecDepth 100000 in
noncomputable def bX6_nearest_0 (l0 : Nat) (M : Mm) : Option ((Nat × Nat × Int32 × Int32 × Int32 × Int32 × Mm) ⊕ Int32 × Mm) := gfI M l0 10 fun v54 => if v54 = 0 then some (.inr ((-4), M)) else some (.inl (1, l0, 0, 0, 0, 0, M))
set_option maxRecDepth 100000 in
set_option maxHeartbeats 4000000 in
theorem sX6_nearest_0 {x : SB} {F : ((Nat × Nat × Int32 × Int32 × Int32 × Int32 × Mm) ⊕ Int32 × Mm) → Prop} (X : CX x cX6_nearest RX6 1) (hL : x.2.2.2.1 = 5) (Hr : RTI x cX6_nearest .int F Sum.inr) (HH : ∀ q, F (.inl q) → pX6_nearest x q) {l0 : Nat} {M : Mm} (h_l0 : sh l0 = 16) : SIM x F (bX6_nearest_0 l0 M) 0 [(0, rf x.2.1 l0)] [] M := by
  unfold bX6_nearest_0
  refine r_aload_n X dX6_nearest_0 rfl 0 rfl ?_
  refine r_getI X fl_X6_167 (by decide) h_l0 dX6_nearest_1 (fun v54 => ?_)
  refine r_if_ne 10 X dX6_nearest_4 (by decide) ?_ ?_
  · refine r_bipush (v := (-4)) X dX6_nearest_7 (by decide) ?_
    exact r_iret Hr rfl dX6_nearest_9
  · refine r_iconst (v := 0) X dX6_nearest_10 (by decide) ?_
    refine r_istore_n [(1, .int 0), (0, rf x.2.1 l0)] X dX6_nearest_11 rfl (nlt hL (by decide)) rfl ?_
    exact r_hdr [(0, rf x.2.1 l0), (1, .int 0)] [1, 0] rfl (fun h => HH _ h h_l0)
set_option maxRecDepth 100000 in
noncomputable def gX6_nearest (q : Nat × Nat × Int32 × Int32 × Int32 × Int32 × Mm) : Option ((Nat × Nat × Int32 × Int32 × Int32 × Int32 × Mm) ⊕ Int32 × Mm) := match q.1 with
  | 1 => bX6_nearest_12 (q.2.1) (q.2.2.1) (q.2.2.2.2.2.2)
  | 2 => bX6_nearest_79 (q.2.1) (q.2.2.1) (q.2.2.2.1) (q.2.2.2.2.2.2)
  | 3 => bX6_nearest_94 (q.2.1) (q.2.2.1) (q.2.2.2.1) (q.2.2.2.2.1) (q.2.2.2.2.2.1) (q.2.2.2.2.2.2)
  | _ => none
set_option maxRecDepth 100000 in
noncomputable def fX6_nearest (l0 : Nat) (M : Mm) : Option (Int32 × Mm) := fen gX6_nearest (bX6_nearest_0 l0 M)
set_option maxRecDepth 100000 in
set_option maxHeartbeats 4000000 in
theorem okX6_nearest (l : Launch) (g : GX) (hJ : IJ g) {l0 : Nat} {M : Mm} (h_l0 : sh l0 = 16) : CT l g yX6_nearest cX6_nearest 5 (some .int) 1 [rf g l0] M (fX6_nearest l0 M) (fun r => some (.int r)) := by
  refine ct_I rfl hJ (Nat.le_of_ble_eq_true rfl) (fun x r hg hL hl X hf Hr => ?_)
  subst hg
  have Hr2 : RTI x cX6_nearest .int (Sum.elim (pX6_nearest x) (fun q => q = r)) Sum.inr := fun v M h => Hr v M h
  have HP : ∀ q, fnl gX6_nearest q = some r → pX6_nearest x q := by
    intro q hq
    refine fnl_ind (pX6_nearest x) (fun q hq => ?_) hq
    obtain ⟨n, l0, l1, l2, l3, l4, M⟩ := q
    match n, hq with
    | 1, hq => exact fun h_l0 ls H locs hl hP hS => sX6_nearest_12 X hL Hr2 (fun _ h => h) h_l0 hq ls H locs hl hP hS
    | 2, hq => exact fun h_l0 ls H locs hl hP hS => sX6_nearest_79 X hL Hr2 (fun _ h => h) h_l0 hq ls H locs hl hP hS
    | 3, hq => exact fun h_l0 ls H locs hl hP hS => sX6_nearest_94 X hL Hr2 (fun _ h => h) h_l0 hq ls H locs hl hP hS
    | 0, hq => exact trivial
    | n + 4, hq => exact trivial
  exact fun _ ls H locs hl hP hS => sX6_nearest_0 X hL Hr2 (fun _ h => h) h_l0 (fen_w hf HP) ls H locs hl hP hS
/-! CrumbWoodModel.odds()I -/
set_option maxRecDepth 100000 in
noncomputable def fX6_odds (l0 : Nat) (M : Mm) : Option (Int32 × Mm) := gfI M l0 10 fun v1 => if v1 = 0 then some (((-4), M)) else cal (fX6_homeWays l0 0 M) fun v3 M2 => gfI M2 l0 10 fun v4 => cal (fX6_part l0 ((v3 : Int32).toInt64) ((1 : Int64) <<< (v4.toInt64 &&& 63)) M2) fun v6 M5 => some ((v6, M5))
set_option maxRecDepth 100000 in
set_option maxHeartbeats 4000000 in
theorem sX6_odds_0 {x : SB} {F : (Int32 × Mm) → Prop} (X : CX x cX6_odds RX6 6) (hL : x.2.2.2.1 = 1) (Hr : RTI x cX6_odds .int F (fun q => q)) {l0 : Nat} {M : Mm} (h_l0 : sh l0 = 16) : SIM x F (fX6_odds l0 M) 0 [(0, rf x.2.1 l0)] [] M := by
  unfold fX6_odds
  refine r_aload_n X dX6_odds_0 rfl 0 rfl ?_
  refine r_getI X fl_X6_167 (by decide) h_l0 dX6_odds_1 (fun v1 => ?_)
  refine r_if_ne 12 X dX6_odds_4 (by decide) ?_ ?_
  · refine r_bipush (v := (-4)) X dX6_odds_7 (by decide) ?_
    refine r_goto 28 X dX6_odds_9 (by decide) ?_
    exact r_iret Hr rfl dX6_odds_28
  · refine r_aload_n X dX6_odds_12 rfl 0 rfl ?_
    refine r_aload_n X dX6_odds_13 rfl 0 rfl ?_
    refine r_iconst (v := 0) X dX6_odds_14 (by decide) ?_
    refine r_callVI [.int 0] X mt_X6_275 (by decide) h_l0 (by decide) (okX6_homeWays _ _ X.J h_l0) rfl (Nat.le_of_ble_eq_true rfl) dX6_odds_15 rfl (fun v3 M2 => ?_)
    refine r_i2l X dX6_odds_18 ?_
    refine r_lconst (v := 1) X dX6_odds_19 (by decide) ?_
    refine r_aload_n X dX6_odds_20 rfl 0 rfl ?_
    refine r_getI X fl_X6_167 (by decide) h_l0 dX6_odds_21 (fun v4 => ?_)
    refine r_lshl X dX6_odds_24 ?_
    refine r_callVI [.long ((v3 : Int32).toInt64), .long ((1 : Int64) <<< (v4.toInt64 &&& 63))] X mt_X6_278 (by decide) h_l0 (by decide) (okX6_part _ _ X.J h_l0) rfl (Nat.le_of_ble_eq_true rfl) dX6_odds_25 rfl (fun v6 M5 => ?_)
    exact r_iret Hr rfl dX6_odds_28
set_option maxRecDepth 100000 in
set_option maxHeartbeats 4000000 in
theorem okX6_odds (l : Launch) (g : GX) (hJ : IJ g) {l0 : Nat} {M : Mm} (h_l0 : sh l0 = 16) : CT l g yX6_odds cX6_odds 1 (some .int) 6 [rf g l0] M (fX6_odds l0 M) (fun r => some (.int r)) := by
  refine ct_I rfl hJ (Nat.le_of_ble_eq_true rfl) (fun x r hg hL hl X hf Hr => ?_)
  subst hg
  exact fun _ ls H locs hl hP hS => sX6_odds_0 X hL Hr h_l0 ⟨_, hf, rfl⟩ ls H locs hl hP hS
/-! CrumbWoodModel.on(I)I -/
set_option maxRecDepth 100000 in
def pX6_on (x : SB) (q : Nat × Nat × Int32 × Int32 × Mm) : Prop := match q.1 with
  | 1 => sh q.2.1 = 16 → ∀ (ls : Array Slot) (H : Heap) (locs : List Loc), lv_has ls x.2.2.2.1 [(0, rf x.2.1 q.2.1), (1, .int q.2.2.1), (2, .int q.2.2.2.1)] → PW x.2.1 (q.2.2.2.2) H → SH x H locs → SW x H locs 38 ls []
  | 2 => sh q.2.1 = 16 → ∀ (ls : Array Slot) (H : Heap) (locs : List Loc), lv_has ls x.2.2.2.1 [(0, rf x.2.1 q.2.1), (1, .int q.2.2.1), (2, .int q.2.2.2.1)] → PW x.2.1 (q.2.2.2.2) H → SH x H locs → SW x H locs 70 ls []
  | 3 => sh q.2.1 = 16 → ∀ (ls : Array Slot) (H : Heap) (locs : List Loc), lv_has ls x.2.2.2.1 [(0, rf x.2.1 q.2.1), (1, .int q.2.2.1), (2, .int q.2.2.2.1)] → PW x.2.1 (q.2.2.2.2) H → SH x H locs → SW x H locs 101 ls []
  | _ => True
set_option maxRecDepth 100000 in
noncomputable def bX6_on_101 (l0 : Nat) (l1 : Int32) (l2 : Int32) (M : Mm) : Option ((Nat × Nat × Int32 × Int32 × Mm) ⊕ Int32 × Mm) := gfI M l0 25 fun v1 => if v1 < l2 then gfI M l0 25 fun v2 => some (.inr (v2, M)) else gfR M 0 l0 26 fun v3 => gfR M 0 l0 31 fun v4 => ldI M v4 (((31 : Int32) * l1) + l2) fun v5 => stI M v3 l2 v5 fun M6 => some (.inl (3, l0, l1, (l2 + 1), M6))
set_option maxRecDepth 100000 in
set_option maxHeartbeats 4000000 in
theorem sX6_on_101 {x : SB} {F : ((Nat × Nat × Int32 × Int32 × Mm) ⊕ Int32 × Mm) → Prop} (X : CX x cX6_on RX6 1) (hL : x.2.2.2.1 = 3) (Hr : RTI x cX6_on .int F Sum.inr) (HH : ∀ q, F (.inl q) → pX6_on x q) {l0 : Nat} {l1 : Int32} {l2 : Int32} {M : Mm} (h_l0 : sh l0 = 16) : SIM x F (bX6_on_101 l0 l1 l2 M) 101 [(0, rf x.2.1 l0), (1, .int l1), (2, .int l2)] [] M := by
  unfold bX6_on_101
  refine r_iload_n X dX6_on_101 rfl 2 rfl ?_
  refine r_aload_n X dX6_on_102 rfl 0 rfl ?_
  refine r_getI X fl_X6_177 (by decide) h_l0 dX6_on_103 (fun v1 => ?_)
  refine r_icmp_gt 132 X dX6_on_106 (by decide) ?_ ?_
  · refine r_aload_n X dX6_on_132 rfl 0 rfl ?_
    refine r_getI X fl_X6_177 (by decide) h_l0 dX6_on_133 (fun v2 => ?_)
    exact r_iret Hr rfl dX6_on_136
  · refine r_aload_n X dX6_on_109 rfl 0 rfl ?_
    refine r_getR X fl_X6_54 (by decide) h_l0 dX6_on_110 (fun v3 h_v3 => ?_)
    refine r_iload_n X dX6_on_113 rfl 2 rfl ?_
    refine r_aload_n X dX6_on_114 rfl 0 rfl ?_
    refine r_getR X fl_X6_70 (by decide) h_l0 dX6_on_115 (fun v4 h_v4 => ?_)
    refine r_bipush (v := 31) X dX6_on_118 (by decide) ?_
    refine r_iload_n X dX6_on_120 rfl 1 rfl ?_
    refine r_imul X dX6_on_121 ?_
    refine r_iload_n X dX6_on_122 rfl 2 rfl ?_
    refine r_iadd X dX6_on_123 ?_
    refine r_iald X h_v4 dX6_on_124 (fun v5 => ?_)
    refine r_iast X h_v3 dX6_on_125 (fun M6 => ?_)
    refine r_iinc [(2, .int (l2 + 1)), (0, rf x.2.1 l0), (1, .int l1)] X dX6_on_126 2 rfl rfl (nlt hL (by decide)) rfl ?_
    refine r_goto 101 X dX6_on_129 (by decide) ?_
    exact r_hdr [(0, rf x.2.1 l0), (1, .int l1), (2, .int (l2 + 1))] [1, 2, 0] rfl (fun h => HH _ h h_l0)
set_option maxRecDepth 100000 in
noncomputable def bX6_on_70 (l0 : Nat) (l1 : Int32) (l2 : Int32) (M : Mm) : Option ((Nat × Nat × Int32 × Int32 × Mm) ⊕ Int32 × Mm) := if 8 ≤ l2 then some (.inl (3, l0, l1, 0, M)) else gfR M 0 l0 13 fun v7 => gfR M 0 l0 30 fun v8 => ldI M v8 (((8 : Int32) * l1) + l2) fun v9 => stI M v7 l2 v9 fun M10 => some (.inl (2, l0, l1, (l2 + 1), M10))
set_option maxRecDepth 100000 in
set_option maxHeartbeats 4000000 in
theorem sX6_on_70 {x : SB} {F : ((Nat × Nat × Int32 × Int32 × Mm) ⊕ Int32 × Mm) → Prop} (X : CX x cX6_on RX6 1) (hL : x.2.2.2.1 = 3) (Hr : RTI x cX6_on .int F Sum.inr) (HH : ∀ q, F (.inl q) → pX6_on x q) {l0 : Nat} {l1 : Int32} {l2 : Int32} {M : Mm} (h_l0 : sh l0 = 16) : SIM x F (bX6_on_70 l0 l1 l2 M) 70 [(0, rf x.2.1 l0), (1, .int l1), (2, .int l2)] [] M := by
  unfold bX6_on_70
  refine r_iload_n X dX6_on_70 rfl 2 rfl ?_
  refine r_bipush (v := 8) X dX6_on_71 (by decide) ?_
  refine r_icmp_ge 99 X dX6_on_73 (by decide) ?_ ?_
  · refine r_iconst (v := 0) X dX6_on_99 (by decide) ?_
    refine r_istore_n [(2, .int 0), (0, rf x.2.1 l0), (1, .int l1)] X dX6_on_100 rfl (nlt hL (by decide)) rfl ?_
    exact r_hdr [(0, rf x.2.1 l0), (1, .int l1), (2, .int 0)] [1, 2, 0] rfl (fun h => HH _ h h_l0)
  · refine r_aload_n X dX6_on_76 rfl 0 rfl ?_
    refine r_getR X fl_X6_36 (by decide) h_l0 dX6_on_77 (fun v7 h_v7 => ?_)
    refine r_iload_n X dX6_on_80 rfl 2 rfl ?_
    refine r_aload_n X dX6_on_81 rfl 0 rfl ?_
    refine r_getR X fl_X6_67 (by decide) h_l0 dX6_on_82 (fun v8 h_v8 => ?_)
    refine r_bipush (v := 8) X dX6_on_85 (by decide) ?_
    refine r_iload_n X dX6_on_87 rfl 1 rfl ?_
    refine r_imul X dX6_on_88 ?_
    refine r_iload_n X dX6_on_89 rfl 2 rfl ?_
    refine r_iadd X dX6_on_90 ?_
    refine r_iald X h_v8 dX6_on_91 (fun v9 => ?_)
    refine r_iast X h_v7 dX6_on_92 (fun M10 => ?_)
    refine r_iinc [(2, .int (l2 + 1)), (0, rf x.2.1 l0), (1, .int l1)] X dX6_on_93 2 rfl rfl (nlt hL (by decide)) rfl ?_
    refine r_goto 70 X dX6_on_96 (by decide) ?_
    exact r_hdr [(0, rf x.2.1 l0), (1, .int l1), (2, .int (l2 + 1))] [1, 2, 0] rfl (fun h => HH _ h h_l0)
set_option maxRecDepth 100000 in
noncomputable def bX6_on_38 (l0 : Nat) (l1 : Int32) (l2 : Int32) (M : Mm) : Option ((Nat × Nat × Int32 × Int32 × Mm) ⊕ Int32 × Mm) := if 39 ≤ l2 then some (.inl (2, l0, l1, 0, M)) else gfR M 0 l0 29 fun v11 => ldI M v11 (((39 : Int32) * l1) + l2) fun v12 => cal (fX6_set l0 0 l2 0 v12 M) fun _ M13 => some (.inl (1, l0, l1, (l2 + 1), M13))
set_option maxRecDepth 100000 in
set_option maxHeartbeats 4000000 in
theorem sX6_on_38 {x : SB} {F : ((Nat × Nat × Int32 × Int32 × Mm) ⊕ Int32 × Mm) → Prop} (X : CX x cX6_on RX6 1) (hL : x.2.2.2.1 = 3) (Hr : RTI x cX6_on .int F Sum.inr) (HH : ∀ q, F (.inl q) → pX6_on x q) {l0 : Nat} {l1 : Int32} {l2 : Int32} {M : Mm} (h_l0 : sh l0 = 16) : SIM x F (bX6_on_38 l0 l1 l2 M) 38 [(0, rf x.2.1 l0), (1, .int l1), (2, .int l2)] [] M := by
  unfold bX6_on_38
  refine r_iload_n X dX6_on_38 rfl 2 rfl ?_
  refine r_bipush (v := 39) X dX6_on_39 (by decide) ?_
  refine r_icmp_ge 68 X dX6_on_41 (by decide) ?_ ?_
  · refine r_iconst (v := 0) X dX6_on_68 (by decide) ?_
    refine r_istore_n [(2, .int 0), (0, rf x.2.1 l0), (1, .int l1)] X dX6_on_69 rfl (nlt hL (by decide)) rfl ?_
    exact r_hdr [(0, rf x.2.1 l0), (1, .int l1), (2, .int 0)] [1, 2, 0] rfl (fun h => HH _ h h_l0)
  · refine r_aload_n X dX6_on_44 rfl 0 rfl ?_
    refine r_iconst (v := 0) X dX6_on_45 (by decide) ?_
    refine r_iload_n X dX6_on_46 rfl 2 rfl ?_
    refine r_iconst (v := 0) X dX6_on_47 (by decide) ?_
    refine r_aload_n X dX6_on_48 rfl 0 rfl ?_
    refine r_getR X fl_X6_64 (by decide) h_l0 dX6_on_49 (fun v11 h_v11 => ?_)
    refine r_bipush (v := 39) X dX6_on_52 (by decide) ?_
    refine r_iload_n X dX6_on_54 rfl 1 rfl ?_
    refine r_imul X dX6_on_55 ?_
    refine r_iload_n X dX6_on_56 rfl 2 rfl ?_
    refine r_iadd X dX6_on_57 ?_
    refine r_iald X h_v11 dX6_on_58 (fun v12 => ?_)
    refine r_callVV [.int 0, .int l2, .int 0, .int v12] X mt_X6_173 (by decide) h_l0 (by decide) (okX6_set _ _ X.J h_l0) rfl (Nat.le_of_ble_eq_true rfl) dX6_on_59 rfl (fun _ M13 => ?_)
    refine r_iinc [(2, .int (l2 + 1)), (0, rf x.2.1 l0), (1, .int l1)] X dX6_on_62 2 rfl rfl (nlt hL (by decide)) rfl ?_
    refine r_goto 38 X dX6_on_65 (by decide) ?_
    exact r_hdr [(0, rf x.2.1 l0), (1, .int l1), (2, .int (l2 + 1))] [1, 2, 0] rfl (fun h => HH _ h h_l0)
set_option maxRecDepth 100000 in
noncomputable def bX6_on_0 (l0 : Nat) (l1 : Int32) (M : Mm) : Option ((Nat × Nat × Int32 × Int32 × Mm) ⊕ Int32 × Mm) := cal (fX6_in l1 0 2 M) fun v15 M14 => if v15 = 0 then some (.inr ((-1), M14)) else gfR M14 2 l0 27 fun v16 => ldI M14 v16 l1 fun v17 => if v17 = 0 then cal (fX6_meets l0 1 M14) fun v22 M21 => some (.inr (v22, M21)) else gfR M14 0 l0 28 fun v18 => ldI M14 v18 l1 fun v19 => pfI M14 l0 25 v19 fun M20 => some (.inl (1, l0, l1, 0, M20))
set_option maxRecDepth 100000 in
set_option maxHeartbeats 4000000 in
theorem sX6_on_0 {x : SB} {F : ((Nat × Nat × Int32 × Int32 × Mm) ⊕ Int32 × Mm) → Prop} (X : CX x cX6_on RX6 1) (hL : x.2.2.2.1 = 3) (Hr : RTI x cX6_on .int F Sum.inr) (HH : ∀ q, F (.inl q) → pX6_on x q) {l0 : Nat} {l1 : Int32} {M : Mm} (h_l0 : sh l0 = 16) : SIM x F (bX6_on_0 l0 l1 M) 0 [(0, rf x.2.1 l0), (1, .int l1)] [] M := by
  unfold bX6_on_0
  refine r_iload_n X dX6_on_0 rfl 1 rfl ?_
  refine r_iconst (v := 0) X dX6_on_1 (by decide) ?_
  refine r_iconst (v := 2) X dX6_on_2 (by decide) ?_
  refine r_callSI [.int l1, .int 0, .int 2] X mt_X6_92 (by decide) (okX6_in _ _ X.J) rfl (Nat.le_of_ble_eq_true rfl) dX6_on_3 rfl (fun v15 M14 => ?_)
  refine r_if_ne 11 X dX6_on_6 (by decide) ?_ ?_
  · refine r_iconst (v := (-1)) X dX6_on_9 (by decide) ?_
    exact r_iret Hr rfl dX6_on_10
  · refine r_aload_n X dX6_on_11 rfl 0 rfl ?_
    refine r_getR X fl_X6_57 (by decide) h_l0 dX6_on_12 (fun v16 h_v16 => ?_)
    refine r_iload_n X dX6_on_15 rfl 1 rfl ?_
    refine r_zald X h_v16 dX6_on_16 (fun v17 => ?_)
    refine r_if_ne 26 X dX6_on_17 (by decide) ?_ ?_
    · refine r_aload_n X dX6_on_20 rfl 0 rfl ?_
      refine r_iconst (v := 1) X dX6_on_21 (by decide) ?_
      refine r_callVI [.int 1] X mt_X6_106 (by decide) h_l0 (by decide) (okX6_meets _ _ X.J h_l0) rfl (Nat.le_of_ble_eq_true rfl) dX6_on_22 rfl (fun v22 M21 => ?_)
      exact r_iret Hr rfl dX6_on_25
    · refine r_aload_n X dX6_on_26 rfl 0 rfl ?_
      refine r_aload_n X dX6_on_27 rfl 0 rfl ?_
      refine r_getR X fl_X6_61 (by decide) h_l0 dX6_on_28 (fun v18 h_v18 => ?_)
      refine r_iload_n X dX6_on_31 rfl 1 rfl ?_
      refine r_iald X h_v18 dX6_on_32 (fun v19 => ?_)
      refine r_putI X fl_X6_177 (by decide) h_l0 (fun _ => rfl) (fun _ => rfl) dX6_on_33 (fun M20 => ?_)
      refine r_iconst (v := 0) X dX6_on_36 (by decide) ?_
      refine r_istore_n [(2, .int 0), (0, rf x.2.1 l0), (1, .int l1)] X dX6_on_37 rfl (nlt hL (by decide)) rfl ?_
      exact r_hdr [(0, rf x.2.1 l0), (1, .int l1), (2, .int 0)] [1, 2, 0] rfl (fun h => HH _ h h_l0)
set_option maxRecDepth 100000 in
noncomputable def gX6_on (q : Nat × Nat × Int32 × Int32 × Mm) : Option ((Nat × Nat × Int32 × Int32 × Mm) ⊕ Int32 × Mm) := match q.1 with
  | 1 => bX6_on_38 (q.2.1) (q.2.2.1) (q.2.2.2.1) (q.2.2.2.2)
  | 2 => bX6_on_70 (q.2.1) (q.2.2.1) (q.2.2.2.1) (q.2.2.2.2)
  | 3 => bX6_on_101 (q.2.1) (q.2.2.1) (q.2.2.2.1) (q.2.2.2.2)
  | _ => none
set_option maxRecDepth 100000 in
noncomputable def fX6_on (l0 : Nat) (l1 : Int32) (M : Mm) : Option (Int32 × Mm) := fen gX6_on (bX6_on_0 l0 l1 M)
set_option maxRecDepth 100000 in
set_option maxHeartbeats 4000000 in
theorem okX6_on (l : Launch) (g : GX) (hJ : IJ g) {l0 : Nat} {l1 : Int32} {M : Mm} (h_l0 : sh l0 = 16) : CT l g yX6_on cX6_on 3 (some .int) 1 [rf g l0, .int l1] M (fX6_on l0 l1 M) (fun r => some (.int r)) := by
  refine ct_I rfl hJ (Nat.le_of_ble_eq_true rfl) (fun x r hg hL hl X hf Hr => ?_)
  subst hg
  have Hr2 : RTI x cX6_on .int (Sum.elim (pX6_on x) (fun q => q = r)) Sum.inr := fun v M h => Hr v M h
  have HP : ∀ q, fnl gX6_on q = some r → pX6_on x q := by
    intro q hq
    refine fnl_ind (pX6_on x) (fun q hq => ?_) hq
    obtain ⟨n, l0, l1, l2, M⟩ := q
    match n, hq with
    | 1, hq => exact fun h_l0 ls H locs hl hP hS => sX6_on_38 X hL Hr2 (fun _ h => h) h_l0 hq ls H locs hl hP hS
    | 2, hq => exact fun h_l0 ls H locs hl hP hS => sX6_on_70 X hL Hr2 (fun _ h => h) h_l0 hq ls H locs hl hP hS
    | 3, hq => exact fun h_l0 ls H locs hl hP hS => sX6_on_101 X hL Hr2 (fun _ h => h) h_l0 hq ls H locs hl hP hS
    | 0, hq => exact trivial
    | n + 4, hq => exact trivial
  exact fun _ ls H locs hl hP hS => sX6_on_0 X hL Hr2 (fun _ h => h) h_l0 (fen_w hf HP) ls H locs hl hP hS

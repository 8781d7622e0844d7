/-! THE LAW from its entry to the loop's head -/
theorem kcall {p : Program} {l : Launch} {e : Env} {R : Room} {s : State} {m : MethodId} {args : Array Value} {below : List Frame} {meth : Method} {c : Code} {H : Heap} {locs : List Loc} {cells slots : Nat} {Q : State → Prop} {g : GX} {cc : ByteArray} {own : String} {nL pc : Nat} {ls : Array Slot}
    {y : MethodName} {cy : ByteArray} {idx maxL dc mc ms n ci q : Nat} {bl : List Value} {fi : (Nat → Nat) → List Value} {nc : (Nat → Nat) → va_W} {ws : va_W} {st : List Value} (As : List Value) (S : CallFix p m c cc nL s args BG own) (hM : MI own idx y cy maxL n) (hkt : KT l g y cy maxL dc mc ms As ci bl fi nc) (hV : VK g s) (hO : AOX s) (hA : ∀ q, s.heap.size ≤ q → g.2.2.2 q) (hdd : dc + 1 ≤ R.frames ∧ 39 * (dc + 1) ≤ R.locals)
    (hP : va_P g.1 vwCl ((q, .inr (ci, bl)) :: ws) H) (hD : va_D g.2.2.2 ((q, .inr (ci, bl)) :: ws)) (hS : va_S g.2.2.2 s.heap H locs) (hn : As.length = n) (hl : ls.size = nL) (hroom : (st.map fun v => v.category).sum ≤ 8) (hcs : cells + mc ≤ R.cells ∧ slots + ms ≤ R.slots) (hd : decode cc pc = .ok (.invokespecial idx, 3)) {st0 : List Value} (hst : st0 = As.reverse ++ .ref q :: st)
    (kk : ∀ (r : Nat → Nat) (H1 : Heap) (locs1 : List Loc), va_P g.1 vwCl ((q, .inr (ci, fi r)) :: (ws ++ nc r)) H1 → va_D g.2.2.2 ((q, .inr (ci, fi r)) :: (ws ++ nc r)) → va_S g.2.2.2 s.heap H1 locs1 → W p l e R s m args below meth c H1 locs1 (cells + mc) (slots + ms) Q (F0 m (pc + 3) ls st)) : W p l e R s m args below meth c H locs cells slots Q (F0 m pc ls st0) := by
  obtain ⟨hx, hb, hml, hown, hts⟩ := id S
  obtain ⟨k1, k2, k3, k5, k6, k7, k8⟩ := hM
  have hMet := hkt q ws
  have hroom2 : (rmk dc mc ms).frames + 1 ≤ R.frames ∧ 8 + (maxL + 11) + (rmk dc mc ms).locals ≤ R.locals := ⟨hdd.1, by have := hdd.2; show 8 + (maxL + 11) + 39 * dc ≤ _; omega⟩
  have hpre : PreS s H (PK g As q ci bl ws) (.ref q :: As) := ⟨pk_blind _ _ _ _ _ _, fun U hU hW => ⟨rfl, by rw [hU]; exact hP, hD, hV.warm hW, hO.warm hW, fun z hz => hA z (Nat.le_trans hS.1 (by rw [hU] at hz; exact hz))⟩⟩
  have hgo : ∀ (hr : va_Run p l e R s m args below meth c H locs cells slots mc ms (F0 m pc ls st0) st (QK g q ci fi ws nc (Value.ref q :: As).toArray) g.2.2.2), W p l e R s m args below meth c H locs cells slots Q (F0 m pc ls st0) := by
    intro hr T hT X
    obtain ⟨v, st₀, t, T', L, h0, X', hL, e1, e2, ⟨hv, ⟨r, hP1, hD1⟩, hz, hk⟩, stp⟩ := hr T hT X
    cases hv
    rw [h0] at hz hk
    obtain ⟨t2, a1, b1⟩ := kk r T'.heap (locs ++ L) (by rw [e1]; exact hP1) hD1
      ⟨Nat.le_trans hS.1 (by rw [e1]; exact hz), fun z h1 h2 => by rw [e1, hk z (Nat.lt_of_lt_of_le h1 hS.1) h2]; exact hS.2.1 z h1 h2, fun z hq => by
        rcases List.mem_append.mp hq with h | h
        · exact hS.2.2 z h
        · exact hL z h⟩ T' rfl X'
    exact ⟨t2, stp t2 a1, b1⟩
  rcases k5 with k5 | ⟨host, k5⟩
  · have cb : CallB R s args own idx y cy maxL none (wy y cy maxL none) (rmk dc mc ms) mc ms n := callB_of n hts (bg_good k1) rfl rfl rfl (hts _ k2) (hts _ k5) k6 hroom2
    exact hgo (va_runI (As := As) S hMet ⟨cb, k8, hts _ k3⟩ hpre rfl hn hl hst (lv_room hroom) hd hcs)
  · have cb : va_CN R s args own idx y host cy maxL none (wy y cy maxL none) (rmk dc mc ms) mc ms n := va_cnB n hts (bg_good k1) rfl rfl rfl (hV.2 _ k5) (hts _ k2) k6 hroom2
    exact hgo (va_runIN (As := As) S hMet ⟨cb, k8, hts _ k3⟩ hpre rfl hn hl hst (lv_room hroom) hd hcs)
theorem arr_prim {ty : FieldType} {args : Array Value} {s : State} (h : (Cond.arrayClass ty).before args s = true) : ∃ c, ArrOfT s c ty ∧ s.vm.findClass ("[" ++ ty.toString) = some c := by
  obtain ⟨c, k, comp, h1, h2, h3⟩ := Cond.arrayClass_spec h
  exact ⟨c, fun n z => ⟨fun k h => (by cases h), k, h2, comp, h3⟩, h1⟩
theorem arr_obj {C : String} {args : Array Value} {s : State} (h : (Cond.arrayOver (.object C)).before args s = true) : ∃ c, ArrOfT s c (.object C) ∧ va_RA s c (.object C) := by
  obtain ⟨comp, c, k, h1, h2, h3, h4, h5⟩ := Cond.arrayOver_spec h
  exact ⟨c, fun n z => ⟨fun k h => (by cases h), k, h3, comp, h4⟩, k, comp, h3, h4, h1, h5⟩
theorem arr_arr {args : Array Value} {s : State} (h : (Cond.arrayOver (.array .int)).before args s = true) : ∃ c, ArrOfT s c (.array .int) ∧ s.vm.findClass ("[" ++ (FieldType.array .int).toString) = some c := by
  obtain ⟨comp, c, k, h1, h2, h3, h4, h5⟩ := Jvm.Stand.arrayOver_specB h
  exact ⟨c, fun n z => ⟨fun k h => (by cases h), k, h3, comp, h4⟩, h5⟩
theorem st_LETTERS {args : Array Value} {s : State} {A : Nat → Prop} (hts : ∀ w ∈ lw_tbl, w.before args s = true) (hgv : (Jvm.Cond.and given_1 narrow_1).before args s = true) (hA : ∀ a : Nat, a < s.heap.size → ¬ A a) : ∃ t : Nat, va_Z "CrumbWood" "LETTERS" "[I" (.ref t) A s s.heap ∧ va_T .int t 6 (fun j => .int (let1 j)) A s s.heap := by
  have hs := flat_of_before _ hgv
  obtain ⟨t, ht, hT⟩ := va_Tof (tm := .static "CrumbWood" "LETTERS" "[I") (ty := .int) (N := 6) (f := fun j => .int (let1 j)) (A := A) (by decide) (hs _ (by decide +kernel)) (va_eqt (hs (.eq (.length (.static "CrumbWood" "LETTERS" "[I")) (.int 6)) (by decide +kernel))) (fun j hj => by
    match j, hj with
    | 0, _ => exact va_eqt (hs (.eq (.elem (.static "CrumbWood" "LETTERS" "[I") (.int 0)) (.int 112)) (by decide +kernel))
    | 1, _ => exact va_eqt (hs (.eq (.elem (.static "CrumbWood" "LETTERS" "[I") (.int 1)) (.int 103)) (by decide +kernel))
    | 2, _ => exact va_eqt (hs (.eq (.elem (.static "CrumbWood" "LETTERS" "[I") (.int 2)) (.int 116)) (by decide +kernel))
    | 3, _ => exact va_eqt (hs (.eq (.elem (.static "CrumbWood" "LETTERS" "[I") (.int 3)) (.int 98)) (by decide +kernel))
    | 4, _ => exact va_eqt (hs (.eq (.elem (.static "CrumbWood" "LETTERS" "[I") (.int 4)) (.int 109)) (by decide +kernel))
    | 5, _ => exact va_eqt (hs (.eq (.elem (.static "CrumbWood" "LETTERS" "[I") (.int 5)) (.int 99)) (by decide +kernel))) hA
  exact ⟨t, va_Zref (hts (.laysStatic "CrumbWood" "LETTERS" "[I") (List.mem_of_getElem? (i := 401) (by decide +kernel))) (hts (.initialized "CrumbWood") (List.mem_of_getElem? (i := 61) (by decide +kernel))) ht hA, hT⟩
theorem st_PARENTS {args : Array Value} {s : State} {A : Nat → Prop} (hts : ∀ w ∈ lw_tbl, w.before args s = true) (hgv : (Jvm.Cond.and given_1 narrow_1).before args s = true) (hA : ∀ a : Nat, a < s.heap.size → ¬ A a) : ∃ t : Nat, va_Z "CrumbWood" "PARENTS" "[I" (.ref t) A s s.heap ∧ va_T .int t 6 (fun j => .int (par1 j)) A s s.heap := by
  have hs := flat_of_before _ hgv
  obtain ⟨t, ht, hT⟩ := va_Tof (tm := .static "CrumbWood" "PARENTS" "[I") (ty := .int) (N := 6) (f := fun j => .int (par1 j)) (A := A) (by decide) (hs _ (by decide +kernel)) (va_eqt (hs (.eq (.length (.static "CrumbWood" "PARENTS" "[I")) (.int 6)) (by decide +kernel))) (fun j hj => by
    match j, hj with
    | 0, _ => exact va_eqt (hs (.eq (.elem (.static "CrumbWood" "PARENTS" "[I") (.int 0)) (.int 0)) (by decide +kernel))
    | 1, _ => exact va_eqt (hs (.eq (.elem (.static "CrumbWood" "PARENTS" "[I") (.int 1)) (.int 0)) (by decide +kernel))
    | 2, _ => exact va_eqt (hs (.eq (.elem (.static "CrumbWood" "PARENTS" "[I") (.int 2)) (.int 0)) (by decide +kernel))
    | 3, _ => exact va_eqt (hs (.eq (.elem (.static "CrumbWood" "PARENTS" "[I") (.int 3)) (.int 0)) (by decide +kernel))
    | 4, _ => exact va_eqt (hs (.eq (.elem (.static "CrumbWood" "PARENTS" "[I") (.int 4)) (.int 1)) (by decide +kernel))
    | 5, _ => exact va_eqt (hs (.eq (.elem (.static "CrumbWood" "PARENTS" "[I") (.int 5)) (.int 2)) (by decide +kernel))) hA
  exact ⟨t, va_Zref (hts (.laysStatic "CrumbWood" "PARENTS" "[I") (List.mem_of_getElem? (i := 407) (by decide +kernel))) (hts (.initialized "CrumbWood") (List.mem_of_getElem? (i := 61) (by decide +kernel))) ht hA, hT⟩
theorem mi_L_9 : MI RL 9 yX5_init cX5_init 2 0 := ⟨k_75, k_61, k_74, Or.inl k_73, ⟨by decide +kernel, by decide +kernel, by decide +kernel⟩, by decide, rfl⟩
theorem mi_L_12 : MI RL 12 yX6_init cX6_init 2 0 := ⟨k_776, k_68, k_775, Or.inl k_774, ⟨by decide +kernel, by decide +kernel, by decide +kernel⟩, by decide, rfl⟩
set_option maxHeartbeats 4000000 in
set_option maxRecDepth 100000 in
/-- the law's body, if the loop on the memory ends with 1 -/
theorem whole_open (HP : ∀ (xs : Nat → Int32) (L : Nat), L ≤ 3072 → ∃ M1, fnl (gL_law xs L) (1, 0, 93, 0, M0) = some (1, M1)) {p : Program} {e : Env} {s : State} {m : MethodId} {below : List Frame} {meth : Method} {c : Code} (l : Launch) {b L : Nat} {xs : Nat → Int32} (hL : L ≤ 3072) (C0 : lw_At p s m meth c b L xs) : W p l e room_1 s m #[Value.ref b] below meth c s.heap [] 0 0 (lw_Z below #[Value.ref b] s) (entryFrame m ([Value.ref b] : List Value).toArray 4) := by
  obtain ⟨hx, hb, hr, hml, hown, hts0, hX, hbl, hlocks, hgv⟩ := id C0
  have hts : ∀ w ∈ BG, w.before #[Value.ref b] s = true := fun w h => hts0 w (List.mem_filter.mp h).1
  have hown : s.vm.findClass RL = some m.cls := hown
  obtain ⟨c0, iS0, hKn0⟩ := u_known (C := RX0) (T := TX0) (N := 5) (n := 5) hts inX0 (hts _ k_144)
  obtain ⟨c1, iS1, hKn1⟩ := u_known (C := RX1) (T := TX1) (N := 9) (n := 9) hts inX1 (hts _ k_166)
  obtain ⟨c2, iS2, hKn2⟩ := u_known (C := RX2) (T := TX2) (N := 2) (n := 2) hts inX2 (hts _ k_218)
  obtain ⟨c3, iS3, hKn3⟩ := u_known (C := RX3) (T := TX3) (N := 3) (n := 3) hts inX3 (hts _ k_202)
  obtain ⟨c4, iS4, hKn4⟩ := u_known (C := RX4) (T := TX4) (N := 11) (n := 11) hts inX4 (hts _ k_82)
  obtain ⟨c5, iS5, hKn5⟩ := u_known (C := RX5) (T := TX5) (N := 13) (n := 13) hts inX5 (hts _ k_72)
  obtain ⟨c6, iS6, hKn6⟩ := u_known (C := RX6) (T := TX6) (N := 41) (n := 41) hts inX6 (hts _ k_773)
  obtain ⟨dC, dI, hKc⟩ : ∃ (dC : Nat → ClassId) (dI : Nat → Nat → Nat), ∀ (k : Nat) (q : vw_C), vwCl[k]? = some q → u_Kn s q.1 q.2.1 q.2.2 (dC k) (dI k) := by
    refine ⟨fun k => [c0, c1, c2, c3, c4, c5, c6].getD k c0, fun k => [iS0, iS1, iS2, iS3, iS4, iS5, iS6].getD k iS0, ?_⟩
    intro k q hq
    match k, hq with
    | 0, hq => cases hq; exact hKn0
    | 1, hq => cases hq; exact hKn1
    | 2, hq => cases hq; exact hKn2
    | 3, hq => cases hq; exact hKn3
    | 4, hq => cases hq; exact hKn4
    | 5, hq => cases hq; exact hKn5
    | 6, hq => cases hq; exact hKn6
    | k + 7, hq => simp [vwCl] at hq
  obtain ⟨a0, hA0, hB0⟩ := arr_prim (hts _ k_141)
  obtain ⟨a1, hA1, hB1⟩ := arr_prim (hts _ k_902)
  obtain ⟨a2, hA2, hB2⟩ := arr_prim (hts _ k_903)
  have hw3 := hts0 (.arrayOver (.object "CrumbWood$Strip")) (List.mem_of_getElem? (i := 80) (by decide +kernel))
  have hw4 := hts0 (.arrayOver (.object "CrumbWood$Wood")) (List.mem_of_getElem? (i := 142) (by decide +kernel))
  have hw5 := hts0 (.arrayOver (.array .int)) (List.mem_of_getElem? (i := 88) (by decide +kernel))
  obtain ⟨a3, hA3, hB3⟩ := arr_obj hw3
  obtain ⟨a4, hA4, hB4⟩ := arr_obj hw4
  obtain ⟨a5, hA5, hB5⟩ := arr_arr hw5
  obtain ⟨cA, hcA⟩ : ∃ cA : Nat → ClassId, cA = fun k => [a0, a1, a2, a3, a4, a5].getD k a0 := ⟨_, rfl⟩
  obtain ⟨A, hAe⟩ : ∃ A : Nat → Prop, A = fun q => s.heap.size ≤ q := ⟨_, rfl⟩
  have hA : ∀ q, s.heap.size ≤ q → A q := fun q h => by rw [hAe]; exact h
  have hAn : ∀ q, q < s.heap.size → ¬ A q := fun q h => by rw [hAe]; exact Nat.not_le.mpr h
  have hV : ∀ ad : Nat → Nat, VK ((dC, dI), ad, cA, A) s := by
    intro ad
    refine ⟨⟨hKc, fun k q hq => ?_⟩, fun w hw => va_Nw.of (nest_on (List.mem_filter.mp hw).2) (hts0 w (List.mem_filter.mp hw).1)⟩
    rw [hcA] at hq
    match k, hq with
    | 0, hq => cases hq; exact ⟨hA0, hB0⟩
    | 1, hq => cases hq; exact ⟨hA1, hB1⟩
    | 2, hq => cases hq; exact ⟨hA2, hB2⟩
    | 3, hq => cases hq; exact ⟨hA3, hB3⟩
    | 4, hq => cases hq; exact ⟨hA4, hB4⟩
    | 5, hq => cases hq; exact ⟨hA5, hB5⟩
    | k + 6, hq => simp [tysW] at hq
  have hO : AOX s := ⟨va_AO.of hw3, va_AO.of hw4, hw5⟩
  obtain ⟨tL, hZL, hTL⟩ := st_LETTERS (A := A) hts0 hgv hAn
  obtain ⟨tP, hZP, hTP⟩ := st_PARENTS (A := A) hts0 hgv hAn
  have hl := lv_entry ([.ref b]) (n := 4) (Nat.le_of_ble_eq_true rfl)
  rw [lg_entry_eq]
  generalize (lg_sl ([.ref b]) ++ List.replicate (4 - (lg_sl ([.ref b])).length) Slot.unset).toArray = ls at hl ⊢
  have hl : lv_has ls 4 [(0, .ref b)] := hl
  have hS : va_S A s.heap s.heap [] := va_S.rf
  have hP : va_P (dC, dI) vwCl [] s.heap := fun k q h => by simp at h
  have hD : va_D A [] := ⟨fun i j p q h => by simp at h, fun k q h => by simp at h⟩
  have hK := (hV (fun _ => 0)).1
  have hb : c.code = cL_law := hb
  refine va_new (ci := 5) (fs := [.null, .null, .null, .null, .null, .null, .null, .null, .null, .int 0, .int 0, .long 0, .long 0]) (C := RX5) (T := TX5) (N := 13) hx hb hts inX5 tyX5 tyX5_ok hown (hts _ k_71) (hts _ k_72) (hts _ k_61) hK hP hD hS hA rfl (fun j hj => by match j, hj with | 0, _ => rfl | 1, _ => rfl | 2, _ => rfl | 3, _ => rfl | 4, _ => rfl | 5, _ => rfl | 6, _ => rfl | 7, _ => rfl | 8, _ => rfl | 9, _ => rfl | 10, _ => rfl | 11, _ => rfl | 12, _ => rfl) (Nat.le_of_ble_eq_true rfl) (Nat.le_of_ble_eq_true rfl) dL_law_0 (fun q H hP hD hS => ?_)
  refine lv_dup hx hb dL_law_3 rfl ?_
  refine kcall (g := ((dC, dI), fun _ => 0, cA, A)) (ws := []) [] ⟨hx, hb, hml, hown, hts⟩ mi_L_9 (kX5_init l _) (hV _) hO hA ⟨by decide, by decide⟩ hP hD hS rfl hl.1 (Nat.le_of_ble_eq_true rfl) ⟨Nat.le_of_ble_eq_true rfl, Nat.le_of_ble_eq_true rfl⟩ dL_law_4 rfl (fun r1 H locs hP hD hS => ?_)
  refine lv_astore_n (lv' := [(1, .ref q), (0, .ref b)]) hx hb dL_law_7 rfl hl (by decide) rfl (fun ls hl => ?_)
  refine va_new (ci := 6) (fs := [.int 0, .null, .int 0, .long 0, .long 0, .null, .null, .null, .null, .null, .int 0, .int 0, .null, .null, .int 0, .int 0, .int 0, .int 0, .int 0, .null, .null, .null, .null, .int 0, .null, .int 0, .null, .null, .null, .null, .null, .null, .int 0, .null, .null, .null, .null, .int 0, .int 0, .null, .long 0]) (C := RX6) (T := TX6) (N := 41) hx hb hts inX6 tyX6 tyX6_ok hown (hts _ k_772) (hts _ k_773) (hts _ k_68) hK hP hD hS hA rfl (fun j hj => by match j, hj with | 0, _ => rfl | 1, _ => rfl | 2, _ => rfl | 3, _ => rfl | 4, _ => rfl | 5, _ => rfl | 6, _ => rfl | 7, _ => rfl | 8, _ => rfl | 9, _ => rfl | 10, _ => rfl | 11, _ => rfl | 12, _ => rfl | 13, _ => rfl | 14, _ => rfl | 15, _ => rfl | 16, _ => rfl | 17, _ => rfl | 18, _ => rfl | 19, _ => rfl | 20, _ => rfl | 21, _ => rfl | 22, _ => rfl | 23, _ => rfl | 24, _ => rfl | 25, _ => rfl | 26, _ => rfl | 27, _ => rfl | 28, _ => rfl | 29, _ => rfl | 30, _ => rfl | 31, _ => rfl | 32, _ => rfl | 33, _ => rfl | 34, _ => rfl | 35, _ => rfl | 36, _ => rfl | 37, _ => rfl | 38, _ => rfl | 39, _ => rfl | 40, _ => rfl | j + 41, hj => exact absurd hj (by omega)) (Nat.le_of_ble_eq_true rfl) (Nat.le_of_ble_eq_true rfl) dL_law_8 (fun q2 H hP hD hS => ?_)
  have hP := vP_perm (List.perm_append_singleton _ _) hP
  have hD := vD_perm (List.perm_append_singleton _ _) hD
  refine lv_dup hx hb dL_law_11 rfl ?_
  refine kcall (g := ((dC, dI), fun _ => 0, cA, A)) [] ⟨hx, hb, hml, hown, hts⟩ mi_L_12 (kX6_init l _) (hV _) hO hA ⟨by decide, by decide⟩ hP hD hS rfl hl.1 (Nat.le_of_ble_eq_true rfl) ⟨Nat.le_of_ble_eq_true rfl, Nat.le_of_ble_eq_true rfl⟩ dL_law_12 rfl (fun r2 H locs hP hD hS => ?_)
  refine lv_astore_n (lv' := [(2, .ref q2), (1, .ref q), (0, .ref b)]) hx hb dL_law_15 rfl hl (by decide) rfl (fun ls hl => ?_)
  refine lv_iconst (v := 0) hx hb dL_law_16 (by decide) ?_
  refine lv_istore_n (lv' := [(3, .int 0), (2, .ref q2), (1, .ref q), (0, .ref b)]) hx hb dL_law_17 rfl hl (by decide) rfl (fun ls hl => ?_)
  have hP : va_P (dC, dI) vwCl (FW ((dC, dI), fun _ => 0, cA, A) q q2 r1 r2) H := hP
  have hD : va_D A (FW ((dC, dI), fun _ => 0, cA, A) q q2 r1 r2) := hD
  obtain ⟨M1, hM1⟩ := HP xs L hL
  obtain ⟨ad, had⟩ : ∃ ad : Nat → Nat, ad = ad0 ((dC, dI), fun _ => 0, cA, A) q q2 r1 r2 tL tP := ⟨_, rfl⟩
  have hPW : PW ((dC, dI), ad, cA, A) M0 H := by rw [had]; exact pw0 hP
  have hIJ : IJ ((dC, dI), ad, cA, A) := by rw [had]; exact ij0 hD
  have e0 : ad 0 = q := by rw [had]; rfl
  have e1 : ad 93 = q2 := by rw [had]; rfl
  have e2 : ad (NW + 0) = tL := by rw [had]; rfl
  have e3 : ad (NW + 1) = tP := by rw [had]; rfl
  refine W.widen (k := 118) (n := 2419) (Nat.le_of_ble_eq_true rfl) (Nat.le_of_ble_eq_true rfl) ?_
  have X : CX ((p, l, e, room_1, s, m, #[Value.ref b], below, meth, c), ((dC, dI), ad, cA, A), lw_Z below #[Value.ref b] s, 4, 118, 2419) cL_law RL 10 :=
    ⟨hx, hb, hml, hown, hts, ⟨Nat.le_of_ble_eq_true rfl, Nat.le_of_ble_eq_true rfl, Nat.le_of_ble_eq_true rfl, Nat.le_of_ble_eq_true rfl⟩, hV _, ⟨⟨by show va_Z _ _ _ (.ref (ad (NW + 0))) _ _ _; rw [e2]; exact hZL, by show va_T _ (ad (NW + 0)) _ _ _ _ _; rw [e2]; exact hTL⟩, ⟨by show va_Z _ _ _ (.ref (ad (NW + 1))) _ _ _; rw [e3]; exact hZP, by show va_T _ (ad (NW + 1)) _ _ _ _ _; rw [e3]; exact hTP⟩⟩, hIJ⟩
  have HX : XS ((p, l, e, room_1, s, m, #[Value.ref b], below, meth, c), ((dC, dI), ad, cA, A), lw_Z below #[Value.ref b] s, 4, 118, 2419) b L xs := ⟨hX, hbl, hAn b hbl⟩
  refine law_go (r := (1, M1)) X rfl HX ?_ hM1 rfl rfl (lv_sub hl [3, 2, 1, 0] (by show _ = [(0, Value.ref b), (1, Value.ref (ad 0)), (2, Value.ref (ad 93)), (3, Value.int 0)]; rw [e0, e1]; rfl)) hPW hS
  intro v M2 hq hn pc ls2 H2 locs2 hd hP2 hS2
  cases hq
  refine va_forget (fun z hz => ?_) ?_
  · have := hS2.2.2 z hz
    have this : A z.base := this
    rw [hAe] at this
    exact this
  · refine W.widen (k := 600000) (n := 7302250) (Nat.le_of_ble_eq_true rfl) (Nat.le_of_ble_eq_true rfl) ?_
    exact lw_ret hx hb hr hlocks hd

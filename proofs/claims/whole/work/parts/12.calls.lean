/-! CALLS -/
theorem nfw : nativeFrameWords "java/lang/System" "arraycopy" 5 ≤ 20 := by decide +kernel
theorem pm_blind (g : GX) (As : List Value) (M : Mm) : FrameBlind (Pm g As M) := fun a U f mk h => ⟨h.1, h.2.1, VK.same (s := U) (U := U.calling f mk a) rfl h.2.2.1, h.2.2.2.to (Vm.Alike.refl U.vm) (fun _ _ _ => rfl)⟩
theorem pm_pre {g : GX} {As : List Value} {M : Mm} {s : State} {H : Heap} {locs : List Loc} (hV : VK g s) (hZ : ZK g s s.heap) (hP : PW g M H) (hS : va_S g.2.2.2 s.heap H locs) : ∀ U : State, U.heap = H → s.WarmedH U.vm → Pm g As M As.toArray U := by
  intro U hU hW
  subst hU
  exact ⟨rfl, hP, hV.warm hW, hZ.to hW.alike (fun a h1 h2 => hS.2.1 a h1 h2)⟩
theorem call_go {p : Program} {l : Launch} {e : Env} {R : Room} {s : State} {m : MethodId} {args : Array Value} {below : List Frame} {meth : Method} {c : Code} {H : Heap} {locs : List Loc} {cells slots : Nat} {Q : State → Prop} {g : GX} {rv : Option Value} {M1 : Mm} {pc : Nat} {ls : Array Slot} {st0 rest : List Value} {a : Array Value}
    (hr : va_Run p l e R s m args below meth c H locs cells slots 0 0 (F0 m pc ls st0) rest (Qm g rv M1 a) g.2.2.2) (hS : va_S g.2.2.2 s.heap H locs)
    (kk : ∀ (H1 : Heap) (locs1 : List Loc), PW g M1 H1 → va_S g.2.2.2 s.heap H1 locs1 → W p l e R s m args below meth c H1 locs1 cells slots Q (F0 m (pc + 3) ls (rv.toList ++ rest))) : W p l e R s m args below meth c H locs cells slots Q (F0 m pc ls st0) := by
  intro T hT X
  obtain ⟨v, st₀, t, T', L, h0, X', hL, e1, e2, ⟨hv, hb, hz, hk⟩, st⟩ := hr T hT X
  cases hv
  rw [h0] at hz hk
  obtain ⟨t2, a1, b1⟩ := kk T'.heap (locs ++ L) (by rw [e1]; exact hb)
    ⟨Nat.le_trans hS.1 (by rw [e1]; exact hz), fun q h1 h2 => by rw [e1, hk q (Nat.lt_of_lt_of_le h1 hS.1) h2]; exact hS.2.1 q h1 h2, fun q hq => by
      rcases List.mem_append.mp hq with h | h
      · exact hS.2.2 q h
      · exact hL q h⟩ T' rfl X'
  exact ⟨t2, st t2 a1, b1⟩
/-- a method by its link, called on an object of class ci; called without one -/
def MV (own : String) (idx ci : Nat) (y : MethodName) (cc : ByteArray) (maxL : Nat) (ret : Option FieldType) (n : Nat) : Prop := ∃ (T : u_T) (N : Nat), vwCl[ci]? = some (y.cls, T, N) ∧ Cond.code y cc maxL ret ∈ BG ∧ Cond.initialized y.cls ∈ BG ∧ Cond.instanceMethod y ∈ BG ∧ Cond.selects y.cls y y ∈ BG ∧ Cond.methodLink own idx y ∈ BG ∧ (y.cls ≠ "java/lang/invoke/MethodHandle" ∧ y.cls ≠ "java/lang/invoke/VarHandle" ∧ (parseMethodDescriptor y.desc).map (fun d => d.parameters.length) = some n) ∧ maxL ≤ 20
def MS (own : String) (idx : Nat) (y : MethodName) (cc : ByteArray) (maxL : Nat) (ret : Option FieldType) (n : Nat) : Prop := Cond.code y cc maxL ret ∈ BG ∧ Cond.initialized y.cls ∈ BG ∧ Cond.static y ∈ BG ∧ (Cond.methodLink own idx y ∈ BG ∨ ∃ host, Cond.methodLinkNest own idx y host ∈ NSW) ∧ (y.cls ≠ "java/lang/invoke/MethodHandle" ∧ y.cls ≠ "java/lang/invoke/VarHandle" ∧ (parseMethodDescriptor y.desc).map (fun d => d.parameters.length) = some n) ∧ maxL ≤ 20
section
variable {α β : Type} {x : SB} {F : α → Prop} {o : Option α} {cc : ByteArray} {own : String} {d pc : Nat} {lv : List (Nat × Value)} {st : List Value} {M : Mm}
theorem r_callV {f : Option (β × Mm)} {K : β → Mm → Option α} {mk : β → Option Value} {idx ci a dc maxL n : Nat} {y : MethodName} {cy : ByteArray} {ret : Option FieldType} (As : List Value) (X : CX x cc own d) (hM : MV own idx ci y cy maxL ret n) (hci : 10 + ci < 99) (ha : sh a = 10 + ci) (hdd : dc + 1 ≤ d) (hct : CT x.1.2.1 x.2.1 y cy maxL ret dc (rf x.2.1 a :: As) M f mk) (hn : As.length = n) (hroom : (st.map fun v => v.category).sum ≤ 8) (hd : decode cc pc = .ok (.invokevirtual idx, 3)) {st0 : List Value} (hst : st0 = As.reverse ++ rf x.2.1 a :: st)
    (kk : ∀ r M1, SIM x F (K r M1) (pc + 3) lv ((mk r).toList ++ st) M1) : SIM x F (cal f K) pc lv st0 M := by
  obtain ⟨⟨p, l, e, R, s, m, args, below, meth, c⟩, g, Q, nL, cells, slots⟩ := x
  obtain ⟨hx, hb, hml, hown, hts, hR, hV, hZ, hJ⟩ := id X
  intro ho ls H locs hl hP hS
  obtain ⟨T, N, hc, k1, k2, k3, k4, k5, k6, k7⟩ := hM
  obtain ⟨w, ho, hF⟩ := ho
  cases hf : f with
  | none => rw [hf] at ho; cases ho
  | some q =>
    rw [hf] at ho
    obtain ⟨r, M1⟩ := q
    have hMet := hct r M1 hf
    have cb : CallB R s args own idx y cy maxL ret (wy y cy maxL ret) (rmd dc) 0 0 n := callB_of n hts (bg_good k1) rfl rfl rfl (hts _ k2) (hts _ k5) k6 ⟨by have := hR.1; show dc + 1 ≤ _; omega, by have := hR.2.1; show 8 + (maxL + 11) + 39 * dc ≤ _; omega⟩
    have he := wsM_at g.2.1 g.2.2.1 M (sh_lt (by rw [ha]; exact hci))
    rw [ent_obj ha] at he
    refine call_go (rest := st) (va_runV (As := As) (b := g.2.1 a) ⟨hx, hb, hml, hown, hts⟩ hMet ⟨cb, hts _ k3, hts _ k4⟩ ⟨pm_blind _ _ _, va_recv hV.1 hP hc he, pm_pre hV hZ hP hS⟩ rfl hn hl.1 hst (lv_room hroom) hd ⟨by have := hR.2.2.1; omega, by have := hR.2.2.2; omega⟩) hS (fun H1 locs1 hP1 hS1 => kk r M1 ⟨w, ho, hF⟩ ls H1 locs1 hl hP1 hS1)
theorem r_callS {f : Option (β × Mm)} {K : β → Mm → Option α} {mk : β → Option Value} {idx dc maxL n : Nat} {y : MethodName} {cy : ByteArray} {ret : Option FieldType} (As : List Value) (X : CX x cc own d) (hM : MS own idx y cy maxL ret n) (hdd : dc + 1 ≤ d) (hct : CT x.1.2.1 x.2.1 y cy maxL ret dc As M f mk) (hn : As.length = n) (hroom : (st.map fun v => v.category).sum ≤ 8) (hd : decode cc pc = .ok (.invokestatic idx, 3)) {st0 : List Value} (hst : st0 = As.reverse ++ st)
    (kk : ∀ r M1, SIM x F (K r M1) (pc + 3) lv ((mk r).toList ++ st) M1) : SIM x F (cal f K) pc lv st0 M := by
  obtain ⟨⟨p, l, e, R, s, m, args, below, meth, c⟩, g, Q, nL, cells, slots⟩ := x
  obtain ⟨hx, hb, hml, hown, hts, hR, hV, hZ, hJ⟩ := id X
  intro ho ls H locs hl hP hS
  obtain ⟨k1, k2, k3, k5, k6, k7⟩ := hM
  obtain ⟨w, ho, hF⟩ := ho
  cases hf : f with
  | none => rw [hf] at ho; cases ho
  | some q =>
    rw [hf] at ho
    obtain ⟨r, M1⟩ := q
    have hMet := hct r M1 hf
    have hroom2 : (rmd dc).frames + 1 ≤ R.frames ∧ 8 + (maxL + 11) + (rmd dc).locals ≤ R.locals := ⟨by have := hR.1; show dc + 1 ≤ _; omega, by have := hR.2.1; show 8 + (maxL + 11) + 39 * dc ≤ _; omega⟩
    have hcs : cells + 0 ≤ R.cells ∧ slots + 0 ≤ R.slots := ⟨by have := hR.2.2.1; omega, by have := hR.2.2.2; omega⟩
    rcases k5 with k5 | ⟨host, k5⟩
    · have cb : CallB R s args own idx y cy maxL ret (wy y cy maxL ret) (rmd dc) 0 0 n := callB_of n hts (bg_good k1) rfl rfl rfl (hts _ k2) (hts _ k5) k6 hroom2
      exact call_go (rest := st) (va_runS (As := As) ⟨hx, hb, hml, hown, hts⟩ hMet ⟨cb, hts _ k3⟩ ⟨pm_blind _ _ _, pm_pre hV hZ hP hS⟩ rfl hn hl.1 hst (lv_room hroom) hd hcs) hS (fun H1 locs1 hP1 hS1 => kk r M1 ⟨w, ho, hF⟩ ls H1 locs1 hl hP1 hS1)
    · have cb : va_CN R s args own idx y host cy maxL ret (wy y cy maxL ret) (rmd dc) 0 0 n := va_cnB n hts (bg_good k1) rfl rfl rfl (hV.2 _ k5) (hts _ k2) k6 hroom2
      exact call_go (rest := st) (va_runSN (As := As) ⟨hx, hb, hml, hown, hts⟩ hMet ⟨cb, hts _ k3, trivial⟩ ⟨pm_blind _ _ _, pm_pre hV hZ hP hS⟩ rfl hn hl.1 hst (lv_room hroom) hd hcs) hS (fun H1 locs1 hP1 hS1 => kk r M1 ⟨w, ho, hF⟩ ls H1 locs1 hl hP1 hS1)
theorem r_min {idx : Nat} {x1 y : Int32} (X : CX x cc own d) (hlink : Cond.methodLink own idx Lib.Math.min.name ∈ BG) (h2 : Cond.static Lib.Math.min.name ∈ BG) (h3 : Cond.initialized "java/lang/Math" ∈ BG) (h4 : Cond.code Lib.Math.min.name Lib.Math.min.code 2 (some .int) ∈ BG) (hdd : 1 ≤ d) (hroom : (st.map fun v => v.category).sum ≤ 8) (hd : decode cc pc = .ok (.invokestatic idx, 3)) (kk : SIM x F o (pc + 3) lv (.int (if y < x1 then y else x1) :: st) M) : SIM x F o pc lv (.int y :: .int x1 :: st) M := by
  obtain ⟨⟨p, l, e, R, s, m, args, below, meth, c⟩, g, Q, nL, cells, slots⟩ := x
  obtain ⟨hx, hb, hml, hown, hts, hR, hV, hZ, hJ⟩ := id X
  intro ho ls H locs hl hP hS
  exact va_mmin hx hb (hml.trans hl.1.symm) hown (hts _ hlink) (hts _ h2) (hts _ h3) (hts _ h4) (by have := hR.1; omega) (by have := hR.2.1; omega) hR.2.2.1 hR.2.2.2 hd (kk ho ls H locs hl hP hS)
theorem r_cpy {idx a0 a : Nat} {sp dp n : Int32} {K : Mm → Option α} (X : CX x cc own d) (hlink : Cond.methodLink own idx arraycopyName ∈ BG) (h1 : Cond.native arraycopyName ∈ BG) (h2 : Cond.static arraycopyName ∈ BG) (h3 : Cond.initialized "java/lang/System" ∈ BG) (ha0 : sh a0 = 0) (ha : sh a = 0) (hdd : 1 ≤ d) (hroom : (st.map fun v => v.category).sum ≤ 8) (hd : decode cc pc = .ok (.invokestatic idx, 3)) (kk : ∀ M1, SIM x F (K M1) (pc + 3) lv st M1) : SIM x F (cpA M a0 sp a dp n K) pc lv (.int n :: .int dp :: rf x.2.1 a :: .int sp :: rf x.2.1 a0 :: st) M := by
  obtain ⟨⟨p, l, e, R, s, m, args, below, meth, c⟩, g, Q, nL, cells, slots⟩ := x
  obtain ⟨hx, hb, hml, hown, hts, hR, hV, hZ, hJ⟩ := id X
  intro ho ls H locs hl hP hS
  obtain ⟨w, ho, hF⟩ := ho
  unfold cpA at ho
  by_cases h0 : ¬ sp < 0 ∧ ¬ dp < 0 ∧ ¬ n < 0 ∧ sp.toNatClampNeg + n.toNatClampNeg ≤ ln a0 ∧ dp.toNatClampNeg + n.toNatClampNeg ≤ ln a
  · rw [if_pos h0] at ho
    have he0 := wsM_at g.2.1 g.2.2.1 M (sh_lt (by rw [ha0]; decide))
    rw [ent_arr ha0 (by decide)] at he0
    have he := wsM_at g.2.1 g.2.2.1 M (sh_lt (by rw [ha]; decide))
    rw [ent_arr ha (by decide)] at he
    have hset : (wsM g.2.1 g.2.2.1 M).set a (g.2.1 a, .inl (g.2.2.1 0, ln a, .inl (va_cpy (M.1 a0) (M.1 a) sp.toNatClampNeg dp.toNatClampNeg n.toNatClampNeg))) = wsM g.2.1 g.2.2.1 (wC M a0 a sp.toNatClampNeg dp.toNatClampNeg n.toNatClampNeg) := by
      refine wsM_set _ _ _ _ ?_ (fun b hb => ent_off (wC_ne hb) rfl rfl)
      rw [ent_arr ha (by decide), wC_eq]
    refine va_copyi (ty := .int) hx hb (hml.trans hl.1.symm) hown (hts _ hlink) (hts _ h1) (hts _ h2) (hts _ h3) hV.1 hP (wsM_D hJ M) hS a0 a 0 0 he0 he rfl rfl rfl h0.1 h0.2.1 h0.2.2.1 h0.2.2.2.1 h0.2.2.2.2 (fun _ _ => rfl) (by have := hR.1; omega) (by have := hR.2.1; have := nfw; omega) hd (fun H1 locs1 hP1 _ hS1 => ?_)
    rw [hset] at hP1
    exact kk _ ⟨w, ho, hF⟩ ls H1 locs1 hl hP1 hS1
  · rw [if_neg h0] at ho
    cases ho
end
/-! RETURNS -/
def RTI {α : Type} (x : SB) (cc : ByteArray) (rt : FieldType) (F : α → Prop) (mk : Int32 × Mm → α) : Prop := ∀ (v : Int32) (M : Mm), F (mk (v, M)) → narrow rt (.int v) = .int v → ∀ (pc : Nat) (ls : Array Slot) (H : Heap) (locs : List Loc), decode cc pc = .ok (.ireturn, 1) → PW x.2.1 M H → SH x H locs → SW x H locs pc ls [.int v]
def RTJ {α : Type} (x : SB) (cc : ByteArray) (F : α → Prop) (mk : Int64 × Mm → α) : Prop := ∀ (v : Int64) (M : Mm), F (mk (v, M)) → ∀ (pc : Nat) (ls : Array Slot) (H : Heap) (locs : List Loc), decode cc pc = .ok (.lreturn, 1) → PW x.2.1 M H → SH x H locs → SW x H locs pc ls [.long v]
def RTV {α : Type} (x : SB) (cc : ByteArray) (F : α → Prop) (mk : Unit × Mm → α) : Prop := ∀ (M : Mm), F (mk ((), M)) → ∀ (pc : Nat) (ls : Array Slot) (H : Heap) (locs : List Loc), decode cc pc = .ok (.return_, 1) → PW x.2.1 M H → SH x H locs → SW x H locs pc ls []
section
variable {α : Type} {x : SB} {F : α → Prop} {cc : ByteArray} {pc : Nat} {lv : List (Nat × Value)} {M : Mm}
theorem r_iret {rt : FieldType} {mk : Int32 × Mm → α} {v : Int32} (Hr : RTI x cc rt F mk) (hn : narrow rt (.int v) = .int v) (hd : decode cc pc = .ok (.ireturn, 1)) : SIM x F (some (mk (v, M))) pc lv [.int v] M := by
  intro ho ls H locs hl hP hS
  obtain ⟨w, ho, hF⟩ := ho
  cases ho
  exact Hr v M hF hn pc ls H locs hd hP hS
theorem narrow_z {v : Int32} (h : v = 0 ∨ v = 1) : narrow .boolean (.int v) = .int v := by
  rcases h with rfl | rfl <;> rfl
theorem r_zret {mk : Int32 × Mm → α} {v : Int32} (Hr : RTI x cc .boolean F mk) (hd : decode cc pc = .ok (.ireturn, 1)) : SIM x F (rz v (some (mk (v, M)))) pc lv [.int v] M := by
  intro ho ls H locs hl hP hS
  obtain ⟨w, ho, hF⟩ := ho
  unfold rz at ho
  by_cases h0 : v = 0 ∨ v = 1
  · rw [if_pos h0] at ho
    cases ho
    exact Hr v M hF (narrow_z h0) pc ls H locs hd hP hS
  · rw [if_neg h0] at ho
    cases ho
theorem r_lret {mk : Int64 × Mm → α} {v : Int64} (Hr : RTJ x cc F mk) (hd : decode cc pc = .ok (.lreturn, 1)) : SIM x F (some (mk (v, M))) pc lv [.long v] M := by
  intro ho ls H locs hl hP hS
  obtain ⟨w, ho, hF⟩ := ho
  cases ho
  exact Hr v M hF pc ls H locs hd hP hS
theorem r_vret {mk : Unit × Mm → α} (Hr : RTV x cc F mk) (hd : decode cc pc = .ok (.return_, 1)) : SIM x F (some (mk ((), M))) pc lv [] M := by
  intro ho ls H locs hl hP hS
  obtain ⟨w, ho, hF⟩ := ho
  cases ho
  exact Hr M hF pc ls H locs hd hP hS
end
/-! A CONTRACT out of the walk of a body -/
section
variable {l : Launch} {g : GX} {y : MethodName} {cc : ByteArray} {maxL d : Nat} {As : List Value} {M : Mm}
theorem ct_go {α : Type} {ret : Option FieldType} {f : Option (α × Mm)} {mk : α → Option Value} (hy : plainName y.cls = true) (hJ : IJ g) (hlen : (lg_sl As).length ≤ maxL)
    (body : ∀ (x : SB) (r : α) (M1 : Mm), x.2.1 = g → x.2.2.2.1 = maxL → x.1.2.1 = l → CX x cc y.cls d → f = some (r, M1) → x.2.2.1 = MQ x.1.2.2.2.2.2.2.2.1 (Qm g (mk r) M1) x.1.2.2.2.2.2.2.1 x.1.2.2.2.2.1 0 0 g.2.2.2 → x.2.2.2.2.1 = 0 → x.2.2.2.2.2 = 0 → x.1.2.2.2.2.2.2.2.2.1.sig.returnType = ret → x.1.2.2.2.2.2.2.2.2.1.locks = false → x.1.2.2.2.2.2.2.2.2.2.code = cc → x.1.1.tables.exec = Jvm.exec → ∀ (ls : Array Slot), lv_has ls maxL (lv_args 0 As) → PW g M x.1.2.2.2.2.1.heap → SW x x.1.2.2.2.2.1.heap [] 0 ls []) : CT l g y cc maxL ret d As M f mk := by
  intro r M1 hf
  refine Met.ofW (cc := cc) (maxL := maxL) (ret := ret) hy rfl ?_
  intro p e s m args below meth c s₁ B hml hv
  obtain ⟨rfl, hP, hV, hZ⟩ := hv
  have hts := atoms_spec (ws := wy y cc maxL ret) B.pre
  rw [lg_entry_eq]
  exact body ((p, l, e, rmd d, s, m, As.toArray, below, meth, c), g, MQ below (Qm g (mk r) M1) As.toArray s 0 0 g.2.2.2, maxL, 0, 0) r M1 rfl rfl rfl
    ⟨B.exec, B.bytes, hml, findClass_of_methodNamed B.named, fun w h => hts w (List.mem_cons_of_mem _ h), ⟨Nat.le_refl _, Nat.le_refl _, Nat.le_refl _, Nat.le_refl _⟩, hV, hZ, hJ⟩ hf rfl rfl rfl B.returns B.notSynchronized B.bytes B.exec _ (lv_entry As hlen) hP
theorem ct_I {rt : FieldType} {f : Option (Int32 × Mm)} (hy : plainName y.cls = true) (hJ : IJ g) (hlen : (lg_sl As).length ≤ maxL)
    (body : ∀ (x : SB) (r : Int32 × Mm), x.2.1 = g → x.2.2.2.1 = maxL → x.1.2.1 = l → CX x cc y.cls d → f = some r → RTI x cc rt (fun q : Int32 × Mm => q = r) (fun q => q) → SIM x (fun _ : Unit => True) (some ()) 0 (lv_args 0 As) [] M) : CT l g y cc maxL (some rt) d As M f (fun r => some (.int r)) := by
  refine ct_go hy hJ hlen ?_
  intro x r M1 hg hL hl X hf hQ hc hs hr hlk hcode hexec ls hls hP
  obtain ⟨⟨p, l, e, R, s, m, args, below, meth, c⟩, g, Q, nL, cells, slots⟩ := x
  subst hg; subst hL; subst hl
  refine body _ (r, M1) rfl rfl rfl X hf ?_ ⟨(), rfl, trivial⟩ ls _ [] hls hP va_S.rf
  intro v M2 hq hn pc ls2 H locs hd hP2 hS2
  cases hq
  have hQ : Q = MQ below (Qm g (some (.int r)) M1) args s 0 0 g.2.2.2 := hQ
  have hc : cells = 0 := hc
  have hs : slots = 0 := hs
  subst hQ; subst hc; subst hs
  exact W.zret (Qc := Qm g (some (.int r)) M1) hexec hcode hr hn (fun t ht hW => ⟨rfl, by rw [ht]; exact hP2, va_S.F hS2 ht⟩) hS2.2.2 hd hlk
theorem ct_J {f : Option (Int64 × Mm)} (hy : plainName y.cls = true) (hJ : IJ g) (hlen : (lg_sl As).length ≤ maxL)
    (body : ∀ (x : SB) (r : Int64 × Mm), x.2.1 = g → x.2.2.2.1 = maxL → x.1.2.1 = l → CX x cc y.cls d → f = some r → RTJ x cc (fun q : Int64 × Mm => q = r) (fun q => q) → SIM x (fun _ : Unit => True) (some ()) 0 (lv_args 0 As) [] M) : CT l g y cc maxL (some .long) d As M f (fun r => some (.long r)) := by
  refine ct_go hy hJ hlen ?_
  intro x r M1 hg hL hl X hf hQ hc hs hr hlk hcode hexec ls hls hP
  obtain ⟨⟨p, l, e, R, s, m, args, below, meth, c⟩, g, Q, nL, cells, slots⟩ := x
  subst hg; subst hL; subst hl
  refine body _ (r, M1) rfl rfl rfl X hf ?_ ⟨(), rfl, trivial⟩ ls _ [] hls hP va_S.rf
  intro v M2 hq pc ls2 H locs hd hP2 hS2
  cases hq
  have hQ : Q = MQ below (Qm g (some (.long r)) M1) args s 0 0 g.2.2.2 := hQ
  have hc : cells = 0 := hc
  have hs : slots = 0 := hs
  subst hQ; subst hc; subst hs
  exact W.lret (Qc := Qm g (some (.long r)) M1) hexec hcode hr (fun t ht hW => ⟨rfl, by rw [ht]; exact hP2, va_S.F hS2 ht⟩) hS2.2.2 hd hlk
theorem ct_V {f : Option (Unit × Mm)} (hy : plainName y.cls = true) (hJ : IJ g) (hlen : (lg_sl As).length ≤ maxL)
    (body : ∀ (x : SB) (r : Unit × Mm), x.2.1 = g → x.2.2.2.1 = maxL → x.1.2.1 = l → CX x cc y.cls d → f = some r → RTV x cc (fun q : Unit × Mm => q = r) (fun q => q) → SIM x (fun _ : Unit => True) (some ()) 0 (lv_args 0 As) [] M) : CT l g y cc maxL none d As M f (fun _ => none) := by
  refine ct_go hy hJ hlen ?_
  intro x r M1 hg hL hl X hf hQ hc hs hr hlk hcode hexec ls hls hP
  obtain ⟨⟨p, l, e, R, s, m, args, below, meth, c⟩, g, Q, nL, cells, slots⟩ := x
  subst hg; subst hL; subst hl
  refine body _ (r, M1) rfl rfl rfl X hf ?_ ⟨(), rfl, trivial⟩ ls _ [] hls hP va_S.rf
  intro M2 hq pc ls2 H locs hd hP2 hS2
  cases hq
  have hQ : Q = MQ below (Qm g none M1) args s 0 0 g.2.2.2 := hQ
  have hc : cells = 0 := hc
  have hs : slots = 0 := hs
  subst hQ; subst hc; subst hs
  exact W.vret (Qc := Qm g none M1) hexec hcode hr (fun t ht hW => ⟨rfl, by rw [ht]; exact hP2, va_S.F hS2 ht⟩) hS2.2.2 hd hlk
end

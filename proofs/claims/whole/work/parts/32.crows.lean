/-! CONSTRUCTORS: a world that grows. The own object first, then what was there, then what is new -/
theorem vP_mem {D : va_G} {cl : List vw_C} {l l2 : va_W} {H : Heap} (h : ∀ q, q ∈ l2 → q ∈ l) (hP : va_P D cl l H) : va_P D cl l2 H := by
  intro k q hk
  obtain ⟨j, hj⟩ := List.getElem?_of_mem (h q (List.mem_of_getElem? hk))
  exact hP j q hj
theorem vD_iff {A : Nat → Prop} {l : va_W} : va_D A l ↔ (l.map Prod.fst).Nodup ∧ ∀ q ∈ l, A q.1 := by
  constructor
  · intro h
    refine ⟨?_, fun q hq => ?_⟩
    · rw [List.nodup_iff_pairwise_ne, List.pairwise_iff_getElem]
      intro i j hi hj hij e
      simp only [List.length_map] at hi hj
      simp only [List.getElem_map] at e
      have := h.1 i j l[i] l[j] (List.getElem?_eq_getElem hi) (List.getElem?_eq_getElem hj) e
      omega
    · obtain ⟨j, hj⟩ := List.getElem?_of_mem hq
      exact h.2 j q hj
  · intro h
    refine ⟨fun i j p q hp hq e => ?_, fun k q hk => h.2 q (List.mem_of_getElem? hk)⟩
    obtain ⟨hi, rfl⟩ := List.getElem?_eq_some_iff.mp hp
    obtain ⟨hj, rfl⟩ := List.getElem?_eq_some_iff.mp hq
    have hn := h.1
    rw [List.nodup_iff_pairwise_ne, List.pairwise_iff_getElem] at hn
    rcases Nat.lt_trichotomy i j with hlt | heq | hgt
    · exact (hn i j (by simpa using hi) (by simpa using hj) hlt (by simp only [List.getElem_map]; exact e)).elim
    · exact heq
    · exact (hn j i (by simpa using hj) (by simpa using hi) hgt (by simp only [List.getElem_map]; exact e.symm)).elim
theorem vD_perm {A : Nat → Prop} {l l2 : va_W} (h : l.Perm l2) (hD : va_D A l) : va_D A l2 := by
  rw [vD_iff] at hD ⊢
  exact ⟨(h.map Prod.fst).nodup_iff.mp hD.1, fun q hq => hD.2 q (h.mem_iff.mpr hq)⟩
theorem vP_perm {D : va_G} {cl : List vw_C} {l l2 : va_W} {H : Heap} (h : l.Perm l2) (hP : va_P D cl l H) : va_P D cl l2 H := vP_mem (fun q hq => h.mem_iff.mpr hq) hP
theorem pr_in (x : Nat × va_E) (ws C0 : va_W) (q : Nat × va_E) : (x :: (ws ++ (C0 ++ [q]))).Perm (q :: (x :: (ws ++ C0))) := by
  have h : x :: (ws ++ (C0 ++ [q])) = (x :: (ws ++ C0)) ++ [q] := by simp
  rw [h]
  exact List.perm_append_singleton _ _
theorem pr_out (x : Nat × va_E) (ws C0 N : va_W) (q : Nat × va_E) : (q :: ((x :: (ws ++ C0)) ++ N)).Perm (x :: (ws ++ (C0 ++ (q :: N)))) := by
  have h : x :: (ws ++ (C0 ++ (q :: N))) = (x :: (ws ++ C0)) ++ q :: N := by simp
  rw [h]
  exact List.perm_middle.symm
theorem va_AOA.warm {ty : FieldType} {s U : State} (hW : s.WarmedH U.vm) (h : va_AOA ty s) : va_AOA ty U := Jvm.Stand.arrayOver_alikeB hW.alike h
def AOX (U : State) : Prop := va_AO "CrumbWood$Strip" U ∧ va_AO "CrumbWood$Wood" U ∧ va_AOA .int U
abbrev CB : Type := (Nat × Nat × va_W)
/-- what holds all through a constructor's walk -/
def C0 (x : SB) (cc : ByteArray) (own : String) (d : Nat) : Prop := match x with
  | ((p, l, e, R, s, m, args, below, meth, c), g, Q, nL, cells, slots) => p.tables.exec = Jvm.exec ∧ c.code = cc ∧ c.maxLocals = nL ∧ s.vm.findClass own = some m.cls ∧ (∀ w ∈ BG, w.before args s = true) ∧ (d ≤ R.frames ∧ 39 * d ≤ R.locals ∧ cells = R.cells ∧ slots = R.slots) ∧ VK g s ∧ AOX s ∧ (∀ q, s.heap.size ≤ q → g.2.2.2 q) ∧ meth.name = "<init>"
def CW (x : SB) (b : CB) (o : List Value) (C : va_W) (cells slots pc : Nat) (lv : List (Nat × Value)) (st : List Value) : Prop := match x with
  | ((p, l, e, R, s, m, args, below, meth, c), g, Q, nL, _, _) => ∀ (ls : Array Slot) (H : Heap) (locs : List Loc), lv_has ls nL lv → va_P g.1 vwCl ((b.1, .inr (b.2.1, o)) :: (b.2.2 ++ C)) H → va_D g.2.2.2 ((b.1, .inr (b.2.1, o)) :: (b.2.2 ++ C)) → va_S g.2.2.2 s.heap H locs → W p l e R s m args below meth c H locs cells slots Q (F0 m pc ls st)
def rmk (d mc ms : Nat) : Room := { frames := d, cells := mc, slots := ms, locals := 39 * d }
def PK (g : GX) (As : List Value) (h0 ci : Nat) (bl : List Value) (ws : va_W) : Array Value → State → Prop := va_Pc (.ref h0 :: As) (fun U => va_P g.1 vwCl ((h0, .inr (ci, bl)) :: ws) U.heap ∧ va_D g.2.2.2 ((h0, .inr (ci, bl)) :: ws) ∧ VK g U ∧ AOX U ∧ ∀ q, U.heap.size ≤ q → g.2.2.2 q)
def QK (g : GX) (h0 ci : Nat) (fi : (Nat → Nat) → List Value) (ws : va_W) (nc : (Nat → Nat) → va_W) : Array Value → State → Outcome → State → Prop := fun _ st oc t => oc = .returned none ∧ (∃ r : Nat → Nat, va_P g.1 vwCl ((h0, .inr (ci, fi r)) :: (ws ++ nc r)) t.heap ∧ va_D g.2.2.2 ((h0, .inr (ci, fi r)) :: (ws ++ nc r))) ∧ va_F g.2.2.2 st t
/-- a constructor's contract -/
def KT (l : Launch) (g : GX) (y : MethodName) (cc : ByteArray) (maxL d mc ms : Nat) (As : List Value) (ci : Nat) (bl : List Value) (fi : (Nat → Nat) → List Value) (nc : (Nat → Nat) → va_W) : Prop := ∀ (h0 : Nat) (ws : va_W), Met l y (wy y cc maxL none) (rmk d mc ms) (PK g As h0 ci bl ws) (QK g h0 ci fi ws nc) mc ms g.2.2.2
def FO (own : String) (idx ci k srt : Nat) (tk : FieldType) (fin : Bool) : Prop := ∃ (C : String) (T : u_T) (N : Nat) (ty : Nat → FieldType), vwCl[ci]? = some (C, T, N) ∧ (∀ w ∈ u_ws C T N, w ∈ BG) ∧ (∀ k, k < N → parseFieldDescriptor (T k).2.2.1 = some (ty k)) ∧ (∀ a, a < N → ∀ b, b < N → a ≠ b → (T a).2.1 ≠ (T b).2.1) ∧ k < N ∧ (flds ci)[k]? = some (k, srt) ∧ parseFieldDescriptor (T k).2.2.1 = some tk ∧ (T k).2.2.2 = fin ∧ (T k).1 = own ∧ Cond.fieldLink own idx (T k).1 (T k).2.1 (T k).2.2.1 ∈ BG
def MI (own : String) (idx : Nat) (y : MethodName) (cc : ByteArray) (maxL n : Nat) : Prop := Cond.code y cc maxL none ∈ BG ∧ Cond.initialized y.cls ∈ BG ∧ Cond.instanceMethod y ∈ BG ∧ (Cond.methodLink own idx y ∈ BG ∨ ∃ host, Cond.methodLinkNest own idx y host ∈ NSW) ∧ (y.cls ≠ "java/lang/invoke/MethodHandle" ∧ y.cls ≠ "java/lang/invoke/VarHandle" ∧ (parseMethodDescriptor y.desc).map (fun d => d.parameters.length) = some n) ∧ maxL ≤ 20 ∧ y.name = "<init>"
theorem pk_blind (g : GX) (As : List Value) (h0 ci : Nat) (bl : List Value) (ws : va_W) : FrameBlind (PK g As h0 ci bl ws) := fun a U f mk h => ⟨h.1, h.2.1, h.2.2.1, VK.same (s := U) (U := U.calling f mk a) rfl h.2.2.2.1, h.2.2.2.2.1, h.2.2.2.2.2⟩
section
variable {x : SB} {b : CB} {o : List Value} {C : va_W} {cells slots d pc : Nat} {cc : ByteArray} {own : String} {lv : List (Nat × Value)} {st : List Value}
theorem AOX.warm {s U : State} (hW : s.WarmedH U.vm) (h : AOX s) : AOX U := ⟨va_AO.moved hW.alike h.1, va_AO.moved hW.alike h.2.1, va_AOA.warm hW h.2.2⟩
theorem c_iconst {n : Int} {v : Int32} (X : C0 x cc own d) (hd : decode cc pc = .ok (.iconst n, 1)) (hv : Int32.ofInt n = v) (kk : CW x b o C cells slots (pc + 1) lv (.int v :: st)) : CW x b o C cells slots pc lv (st) := by
  obtain ⟨⟨p, l, e, R, s, m, args, below, meth, c⟩, g, Q, nL, rc, rs⟩ := x
  obtain ⟨hx, hb, hml, hown, hts, hR, hV, hO, hA, hin⟩ := id X
  intro ls H locs hl hP hD hS
  exact lv_iconst hx hb hd hv (kk ls H locs hl hP hD hS)
theorem c_bipush {n : Int} {v : Int32} (X : C0 x cc own d) (hd : decode cc pc = .ok (.bipush n, 2)) (hv : (Int8.ofInt n).toInt32 = v) (kk : CW x b o C cells slots (pc + 2) lv (.int v :: st)) : CW x b o C cells slots pc lv (st) := by
  obtain ⟨⟨p, l, e, R, s, m, args, below, meth, c⟩, g, Q, nL, rc, rs⟩ := x
  obtain ⟨hx, hb, hml, hown, hts, hR, hV, hO, hA, hin⟩ := id X
  intro ls H locs hl hP hD hS
  exact lv_bipush hx hb hd hv (kk ls H locs hl hP hD hS)
theorem c_sipush {n : Int} {v : Int32} (X : C0 x cc own d) (hd : decode cc pc = .ok (.sipush n, 3)) (hv : (Int16.ofInt n).toInt32 = v) (kk : CW x b o C cells slots (pc + 3) lv (.int v :: st)) : CW x b o C cells slots pc lv (st) := by
  obtain ⟨⟨p, l, e, R, s, m, args, below, meth, c⟩, g, Q, nL, rc, rs⟩ := x
  obtain ⟨hx, hb, hml, hown, hts, hR, hV, hO, hA, hin⟩ := id X
  intro ls H locs hl hP hD hS
  exact lv_sipush hx hb hd hv (kk ls H locs hl hP hD hS)
theorem c_lconst {n : Fin 2} {v : Int64} (X : C0 x cc own d) (hd : decode cc pc = .ok (.lconst n, 1)) (hv : Int64.ofNat (n : Nat) = v) (kk : CW x b o C cells slots (pc + 1) lv (.long v :: st)) : CW x b o C cells slots pc lv (st) := by
  obtain ⟨⟨p, l, e, R, s, m, args, below, meth, c⟩, g, Q, nL, rc, rs⟩ := x
  obtain ⟨hx, hb, hml, hown, hts, hR, hV, hO, hA, hin⟩ := id X
  intro ls H locs hl hP hD hS
  exact lv_lconst hx hb hd hv (kk ls H locs hl hP hD hS)
theorem c_iload_n {k : Fin 4} {i : Nat} {v : Int32} (X : C0 x cc own d) (hd : decode cc pc = .ok (.iload_n k, 1)) (hi : (k : Nat) = i) (j : Nat) (hj : lv[j]? = some (i, .int v)) (kk : CW x b o C cells slots (pc + 1) lv (.int v :: st)) : CW x b o C cells slots pc lv (st) := by
  obtain ⟨⟨p, l, e, R, s, m, args, below, meth, c⟩, g, Q, nL, rc, rs⟩ := x
  obtain ⟨hx, hb, hml, hown, hts, hR, hV, hO, hA, hin⟩ := id X
  intro ls H locs hl hP hD hS
  exact lv_iload_n hx hb hd hi (lv_at hl j hj) (kk ls H locs hl hP hD hS)
theorem c_aload_n {k : Fin 4} {i : Nat} {v : Nat} (X : C0 x cc own d) (hd : decode cc pc = .ok (.aload_n k, 1)) (hi : (k : Nat) = i) (j : Nat) (hj : lv[j]? = some (i, .ref v)) (kk : CW x b o C cells slots (pc + 1) lv (.ref v :: st)) : CW x b o C cells slots pc lv (st) := by
  obtain ⟨⟨p, l, e, R, s, m, args, below, meth, c⟩, g, Q, nL, rc, rs⟩ := x
  obtain ⟨hx, hb, hml, hown, hts, hR, hV, hO, hA, hin⟩ := id X
  intro ls H locs hl hP hD hS
  exact lv_aload_n hx hb hd hi (lv_at hl j hj) (kk ls H locs hl hP hD hS)
theorem c_istore_n {k : Fin 4} {i : Nat} {v : Int32} (lv2 : List (Nat × Value)) (X : C0 x cc own d) (hd : decode cc pc = .ok (.istore_n k, 1)) (hi : (k : Nat) = i) (hn : i < x.2.2.2.1) (h2 : (i, Value.int v) :: lv.filter (fun q => !(q.1 == i) && !(q.1 + 1 == i && q.2.category == 2)) = lv2) (kk : CW x b o C cells slots (pc + 1) lv2 st) : CW x b o C cells slots pc lv (.int v :: st) := by
  obtain ⟨⟨p, l, e, R, s, m, args, below, meth, c⟩, g, Q, nL, rc, rs⟩ := x
  obtain ⟨hx, hb, hml, hown, hts, hR, hV, hO, hA, hin⟩ := id X
  intro ls H locs hl hP hD hS
  exact lv_istore_n hx hb hd hi hl hn h2 (fun ls hl => kk ls H locs hl hP hD hS)
theorem c_iinc {i : Nat} {n : Int} {y v : Int32} (lv2 : List (Nat × Value)) (X : C0 x cc own d) (hd : decode cc pc = .ok (.iinc i n, 3)) (j : Nat) (hj : lv[j]? = some (i, .int y)) (hv : y + Int32.ofInt n = v) (hn : i < x.2.2.2.1) (h2 : (i, Value.int v) :: lv.filter (fun q => !(q.1 == i) && !(q.1 + 1 == i && q.2.category == 2)) = lv2) (kk : CW x b o C cells slots (pc + 3) lv2 st) : CW x b o C cells slots pc lv (st) := by
  obtain ⟨⟨p, l, e, R, s, m, args, below, meth, c⟩, g, Q, nL, rc, rs⟩ := x
  obtain ⟨hx, hb, hml, hown, hts, hR, hV, hO, hA, hin⟩ := id X
  intro ls H locs hl hP hD hS
  exact lv_iinc hx hb hd hl hj hv hn h2 (fun ls hl => kk ls H locs hl hP hD hS)
theorem c_dup {v : Value} (X : C0 x cc own d) (hd : decode cc pc = .ok (.dup, 1)) (hc : v.category = 1) (kk : CW x b o C cells slots (pc + 1) lv (v :: v :: st)) : CW x b o C cells slots pc lv (v :: st) := by
  obtain ⟨⟨p, l, e, R, s, m, args, below, meth, c⟩, g, Q, nL, rc, rs⟩ := x
  obtain ⟨hx, hb, hml, hown, hts, hR, hV, hO, hA, hin⟩ := id X
  intro ls H locs hl hP hD hS
  exact lv_dup hx hb hd hc (kk ls H locs hl hP hD hS)
theorem c_goto {off : Int} (tgt : Nat) (X : C0 x cc own d) (hd : decode cc pc = .ok (.goto off, 3)) (ht : (pc : Int) + off = (tgt : Int)) (kk : CW x b o C cells slots tgt lv st) : CW x b o C cells slots pc lv (st) := by
  obtain ⟨⟨p, l, e, R, s, m, args, below, meth, c⟩, g, Q, nL, rc, rs⟩ := x
  obtain ⟨hx, hb, hml, hown, hts, hR, hV, hO, hA, hin⟩ := id X
  intro ls H locs hl hP hD hS
  exact lv_goto hx hb hd ht (kk ls H locs hl hP hD hS)
theorem c_ge_t {x1 y : Int32} {off : Int} (tgt : Nat) (X : C0 x cc own d) (hd : decode cc pc = .ok (.if_icmp .ge off, 3)) (ht : (pc : Int) + off = (tgt : Int)) (hc : y ≤ x1) (kk : CW x b o C cells slots tgt lv st) : CW x b o C cells slots pc lv (.int y :: .int x1 :: st) := by
  obtain ⟨⟨p, l, e, R, s, m, args, below, meth, c⟩, g, Q, nL, rc, rs⟩ := x
  obtain ⟨hx, hb, hml, hown, hts, hR, hV, hO, hA, hin⟩ := id X
  intro ls H locs hl hP hD hS
  exact lv_icmp_ge hx hb hd ht (fun _ => (kk ls H locs hl hP hD hS)) (fun h => absurd hc h)
theorem c_ge_f {x1 y : Int32} {off : Int} (tgt : Nat) (X : C0 x cc own d) (hd : decode cc pc = .ok (.if_icmp .ge off, 3)) (ht : (pc : Int) + off = (tgt : Int)) (hc : ¬ y ≤ x1) (kk : CW x b o C cells slots (pc + 3) lv st) : CW x b o C cells slots pc lv (.int y :: .int x1 :: st) := by
  obtain ⟨⟨p, l, e, R, s, m, args, below, meth, c⟩, g, Q, nL, rc, rs⟩ := x
  obtain ⟨hx, hb, hml, hown, hts, hR, hV, hO, hA, hin⟩ := id X
  intro ls H locs hl hP hD hS
  exact lv_icmp_ge hx hb hd ht (fun h => absurd h hc) (fun _ => (kk ls H locs hl hP hD hS))
theorem c_objInit {idx a : Nat} (X : C0 x cc own d) (hlink : Cond.methodLink own idx Lib.objectInit ∈ BG) (h1 : Cond.instanceMethod Lib.objectInit ∈ BG) (h2 : Cond.code Lib.objectInit ⟨#[0xb1]⟩ 1 none ∈ BG) (hdd : 1 ≤ d) (hroom : (st.map fun v => v.category).sum ≤ 8) (hd : decode cc pc = .ok (.invokespecial idx, 3)) (kk : CW x b o C cells slots (pc + 3) lv (st)) : CW x b o C cells slots pc lv (.ref a :: st) := by
  obtain ⟨⟨p, l, e, R, s, m, args, below, meth, c⟩, g, Q, nL, rc, rs⟩ := x
  obtain ⟨hx, hb, hml, hown, hts, hR, hV, hO, hA, hin⟩ := id X
  intro ls H locs hl hP hD hS
  exact W.objInit hx hb hown (hts _ hlink) (hts _ h1) (hts _ h2) rfl (hl.1.trans hml.symm) rfl hd (by have := hR.1; omega) (by have := hR.2.1; show 2 * 0 + (st.map fun v => v.category).sum + 12 ≤ _; omega) (kk ls H locs hl hP hD hS)
theorem c_max {idx : Nat} {x1 y : Int32} (X : C0 x cc own d) (hlink : Cond.methodLink own idx Lib.Math.max.name ∈ BG) (h2 : Cond.static Lib.Math.max.name ∈ BG) (h3 : Cond.initialized "java/lang/Math" ∈ BG) (h4 : Cond.code Lib.Math.max.name Lib.Math.max.code 2 (some .int) ∈ BG) (hdd : 1 ≤ d) (hroom : (st.map fun v => v.category).sum ≤ 8) (hc : cells ≤ x.2.2.2.2.1) (hs : slots ≤ x.2.2.2.2.2) (hd : decode cc pc = .ok (.invokestatic idx, 3)) (kk : CW x b o C cells slots (pc + 3) lv (.int (if x1 < y then y else x1) :: st)) : CW x b o C cells slots pc lv (.int y :: .int x1 :: st) := by
  obtain ⟨⟨p, l, e, R, s, m, args, below, meth, c⟩, g, Q, nL, rc, rs⟩ := x
  obtain ⟨hx, hb, hml, hown, hts, hR, hV, hO, hA, hin⟩ := id X
  intro ls H locs hl hP hD hS
  exact va_mmax hx hb (hml.trans hl.1.symm) hown (hts _ hlink) (hts _ h2) (hts _ h3) (hts _ h4) (by have := hR.1; omega) (by have := hR.2.1; omega) (by rw [← hR.2.2.1]; exact hc) (by rw [← hR.2.2.2]; exact hs) hd (kk ls H locs hl hP hD hS)
theorem c_put {idx k srt : Nat} {tk : FieldType} {fin : Bool} {v : Value} (o2 : List Value) (X : C0 x cc own d) (hL : FO own idx b.2.1 k srt tk fin) (hn : narrow tk v = v) (hfit : fits tk v = true) (hlen : k < o.length) (ho2 : o.set k v = o2) (hd : decode cc pc = .ok (.putfield idx, 3)) (kk : CW x b o2 C cells slots (pc + 3) lv st) : CW x b o C cells slots pc lv (v :: .ref b.1 :: st) := by
  obtain ⟨⟨p, l, e, R, s, m, args, below, meth, c⟩, g, Q, nL, rc, rs⟩ := x
  obtain ⟨hx, hb, hml, hown, hts, hR, hV, hO, hA, hin⟩ := id X
  intro ls H locs hl hP hD hS
  obtain ⟨C1, T, N, ty, hc, hin2, hty, hnm, hk, hf, htk, hfin, hdecl, hlink⟩ := hL
  subst ho2
  cases fin with
  | false => exact va_put hx hb hts hin2 ty hty hnm hown hV.1 hP hD hS 0 rfl hc k hk (hts _ hlink) (fun _ h => h) hfin htk hn hfit hlen hd (fun H1 locs1 hP1 hD1 hS1 => kk ls H1 locs1 hl hP1 hD1 hS1)
  | true => exact va_putF hx hb hts hin2 ty hty hnm hown hV.1 hP hD hS 0 rfl hc k hk (hts _ hlink) (fun _ h => h) hfin hin hdecl htk hn hfit hlen hd (fun H1 locs1 hP1 hD1 hS1 => kk ls H1 locs1 hl hP1 hD1 hS1)
theorem c_get {idx k srt a : Nat} {tk : FieldType} {fin : Bool} (X : C0 x cc own d) (hL : FO own idx b.2.1 k srt tk fin) (hv : o[k]? = some (.ref a)) (hd : decode cc pc = .ok (.getfield idx, 3)) (kk : CW x b o C cells slots (pc + 3) lv (.ref a :: st)) : CW x b o C cells slots pc lv (.ref b.1 :: st) := by
  obtain ⟨⟨p, l, e, R, s, m, args, below, meth, c⟩, g, Q, nL, rc, rs⟩ := x
  obtain ⟨hx, hb, hml, hown, hts, hR, hV, hO, hA, hin⟩ := id X
  intro ls H locs hl hP hD hS
  obtain ⟨C1, T, N, ty, hc, hin2, hty, hnm, hk, hf, htk, hfin, hdecl, hlink⟩ := hL
  exact va_get hx hb hts hin2 hown hV.1 hP 0 rfl hc k hk (hts _ hlink) (fun _ h => h) hv hd (kk ls H locs hl hP hD hS)
theorem c_new {idx ci N : Nat} {T : u_T} {K : String} (ty : Nat → FieldType) (fs : List Value) (X : C0 x cc own d) (hc : vwCl[ci]? = some (K, T, N)) (hin2 : ∀ w ∈ u_ws K T N, w ∈ BG) (hty : ∀ k, k < N → parseFieldDescriptor (T k).2.2.1 = some (ty k)) (h1 : Cond.classLink own idx K ∈ BG) (h2 : Cond.instantiable K N ∈ BG) (h3 : Cond.initialized K ∈ BG) (hfs : ∀ j, j < N → defaultValue (ty j) = vp_V fs j) (hce : cells + 1 ≤ x.2.2.2.2.1) (hsl : slots + N ≤ x.2.2.2.2.2) (hd : decode cc pc = .ok (.new idx, 3)) (kk : ∀ q, CW x b o (C ++ [(q, .inr (ci, fs))]) (cells + 1) (slots + N) (pc + 3) lv (.ref q :: st)) : CW x b o C cells slots pc lv (st) := by
  obtain ⟨⟨p, l, e, R, s, m, args, below, meth, c⟩, g, Q, nL, rc, rs⟩ := x
  obtain ⟨hx, hb, hml, hown, hts, hR, hV, hO, hA, hin⟩ := id X
  intro ls H locs hl hP hD hS
  refine va_new hx hb hts hin2 ty hty hown (hts _ h1) (hts _ h2) (hts _ h3) hV.1 hP hD hS hA hc hfs (by rw [← hR.2.2.1]; exact hce) (by rw [← hR.2.2.2]; exact hsl) hd (fun q H1 hP1 hD1 hS1 => ?_)
  rw [List.cons_append, List.append_assoc] at hP1 hD1
  exact kk q ls H1 locs hl hP1 hD1 hS1
theorem c_newaI {n : Int32} (N : Nat) (X : C0 x cc own d) (harr : Cond.arrayClass .int ∈ BG) (hn : ¬ n < 0) (hN : n.toNatClampNeg = N) (hbt : N * componentBytes .int ≤ 536870912) (hce : cells + 1 ≤ x.2.2.2.2.1) (hsl : slots + N ≤ x.2.2.2.2.2) (hd : decode cc pc = .ok (.newarray .int, 2)) (kk : ∀ q, CW x b o (C ++ [(q, .inl (x.2.1.2.2.1 0, N, .inl (fun _ => 0)))]) (cells + 1) (slots + N) (pc + 2) lv (.ref q :: st)) : CW x b o C cells slots pc lv (.int n :: st) := by
  obtain ⟨⟨p, l, e, R, s, m, args, below, meth, c⟩, g, Q, nL, rc, rs⟩ := x
  obtain ⟨hx, hb, hml, hown, hts, hR, hV, hO, hA, hin⟩ := id X
  intro ls H locs hl hP hD hS
  refine va_newa (atype := .int) (ty := .int) (a0 := (N, .inl (fun _ => 0))) hx hb (hts _ harr) rfl hV.1 hP hD hS hA (fun _ => rfl) hn hN hbt (by rw [← hR.2.2.1]; exact hce) (by rw [← hR.2.2.2]; exact hsl) hd (fun q cA H1 hK1 hP1 hD1 hS1 => ?_)
  have e : cA = g.2.2.1 0 := by
    have h1 := (hK1.2 6 (cA, .int) rfl).2
    have h2 := (hV.1.2 0 _ rfl).2
    exact Option.some.inj (h1.symm.trans h2)
  subst e
  rw [List.cons_append, List.append_assoc] at hP1 hD1
  exact kk q ls H1 locs hl hP1 hD1 hS1
theorem c_newaB {n : Int32} (N : Nat) (X : C0 x cc own d) (harr : Cond.arrayClass .byte ∈ BG) (hn : ¬ n < 0) (hN : n.toNatClampNeg = N) (hbt : N * componentBytes .byte ≤ 536870912) (hce : cells + 1 ≤ x.2.2.2.2.1) (hsl : slots + N ≤ x.2.2.2.2.2) (hd : decode cc pc = .ok (.newarray .byte, 2)) (kk : ∀ q, CW x b o (C ++ [(q, .inl (x.2.1.2.2.1 1, N, .inl (fun _ => 0)))]) (cells + 1) (slots + N) (pc + 2) lv (.ref q :: st)) : CW x b o C cells slots pc lv (.int n :: st) := by
  obtain ⟨⟨p, l, e, R, s, m, args, below, meth, c⟩, g, Q, nL, rc, rs⟩ := x
  obtain ⟨hx, hb, hml, hown, hts, hR, hV, hO, hA, hin⟩ := id X
  intro ls H locs hl hP hD hS
  refine va_newa (atype := .byte) (ty := .byte) (a0 := (N, .inl (fun _ => 0))) hx hb (hts _ harr) rfl hV.1 hP hD hS hA (fun _ => rfl) hn hN hbt (by rw [← hR.2.2.1]; exact hce) (by rw [← hR.2.2.2]; exact hsl) hd (fun q cA H1 hK1 hP1 hD1 hS1 => ?_)
  have e : cA = g.2.2.1 1 := by
    have h1 := (hK1.2 6 (cA, .byte) rfl).2
    have h2 := (hV.1.2 1 _ rfl).2
    exact Option.some.inj (h1.symm.trans h2)
  subst e
  rw [List.cons_append, List.append_assoc] at hP1 hD1
  exact kk q ls H1 locs hl hP1 hD1 hS1
theorem c_newaZ {n : Int32} (N : Nat) (X : C0 x cc own d) (harr : Cond.arrayClass .boolean ∈ BG) (hn : ¬ n < 0) (hN : n.toNatClampNeg = N) (hbt : N * componentBytes .boolean ≤ 536870912) (hce : cells + 1 ≤ x.2.2.2.2.1) (hsl : slots + N ≤ x.2.2.2.2.2) (hd : decode cc pc = .ok (.newarray .boolean, 2)) (kk : ∀ q, CW x b o (C ++ [(q, .inl (x.2.1.2.2.1 2, N, .inl (fun _ => 0)))]) (cells + 1) (slots + N) (pc + 2) lv (.ref q :: st)) : CW x b o C cells slots pc lv (.int n :: st) := by
  obtain ⟨⟨p, l, e, R, s, m, args, below, meth, c⟩, g, Q, nL, rc, rs⟩ := x
  obtain ⟨hx, hb, hml, hown, hts, hR, hV, hO, hA, hin⟩ := id X
  intro ls H locs hl hP hD hS
  refine va_newa (atype := .boolean) (ty := .boolean) (a0 := (N, .inl (fun _ => 0))) hx hb (hts _ harr) rfl hV.1 hP hD hS hA (fun _ => rfl) hn hN hbt (by rw [← hR.2.2.1]; exact hce) (by rw [← hR.2.2.2]; exact hsl) hd (fun q cA H1 hK1 hP1 hD1 hS1 => ?_)
  have e : cA = g.2.2.1 2 := by
    have h1 := (hK1.2 6 (cA, .boolean) rfl).2
    have h2 := (hV.1.2 2 _ rfl).2
    exact Option.some.inj (h1.symm.trans h2)
  subst e
  rw [List.cons_append, List.append_assoc] at hP1 hD1
  exact kk q ls H1 locs hl hP1 hD1 hS1
theorem c_newqS {idx : Nat} {n : Int32} (N : Nat) (X : C0 x cc own d) (h1 : Cond.classLink own idx "CrumbWood$Strip" ∈ BG) (hn : ¬ n < 0) (hN : n.toNatClampNeg = N) (hbt : N * 4 ≤ 536870912) (hce : cells + 1 ≤ x.2.2.2.2.1) (hsl : slots + N ≤ x.2.2.2.2.2) (hd : decode cc pc = .ok (.anewarray idx, 3)) (kk : ∀ q, CW x b o (C ++ [(q, .inl (x.2.1.2.2.1 3, N, .inr (.inr (.inr (.inr (fun _ => none))))))]) (cells + 1) (slots + N) (pc + 3) lv (.ref q :: st)) : CW x b o C cells slots pc lv (.int n :: st) := by
  obtain ⟨⟨p, l, e, R, s, m, args, below, meth, c⟩, g, Q, nL, rc, rs⟩ := x
  obtain ⟨hx, hb, hml, hown, hts, hR, hV, hO, hA, hin⟩ := id X
  intro ls H locs hl hP hD hS
  refine va_newq hx hb hown (hts _ h1) hO.1 hV.1 hP hD hS hA hn hN hbt (by rw [← hR.2.2.1]; exact hce) (by rw [← hR.2.2.2]; exact hsl) hd (fun q cA H1 hK1 hP1 hD1 hS1 => ?_)
  have e : cA = g.2.2.1 3 := by
    obtain ⟨_, _, _, _, _, h1⟩ := (hK1.2 6 (cA, .object "CrumbWood$Strip") rfl).2
    obtain ⟨_, _, _, _, _, h2⟩ := (hV.1.2 3 _ rfl).2
    exact Option.some.inj (h1.symm.trans h2)
  subst e
  rw [List.cons_append, List.append_assoc] at hP1 hD1
  exact kk q ls H1 locs hl hP1 hD1 hS1
theorem c_newqW {idx : Nat} {n : Int32} (N : Nat) (X : C0 x cc own d) (h1 : Cond.classLink own idx "CrumbWood$Wood" ∈ BG) (hn : ¬ n < 0) (hN : n.toNatClampNeg = N) (hbt : N * 4 ≤ 536870912) (hce : cells + 1 ≤ x.2.2.2.2.1) (hsl : slots + N ≤ x.2.2.2.2.2) (hd : decode cc pc = .ok (.anewarray idx, 3)) (kk : ∀ q, CW x b o (C ++ [(q, .inl (x.2.1.2.2.1 4, N, .inr (.inr (.inr (.inr (fun _ => none))))))]) (cells + 1) (slots + N) (pc + 3) lv (.ref q :: st)) : CW x b o C cells slots pc lv (.int n :: st) := by
  obtain ⟨⟨p, l, e, R, s, m, args, below, meth, c⟩, g, Q, nL, rc, rs⟩ := x
  obtain ⟨hx, hb, hml, hown, hts, hR, hV, hO, hA, hin⟩ := id X
  intro ls H locs hl hP hD hS
  refine va_newq hx hb hown (hts _ h1) hO.2.1 hV.1 hP hD hS hA hn hN hbt (by rw [← hR.2.2.1]; exact hce) (by rw [← hR.2.2.2]; exact hsl) hd (fun q cA H1 hK1 hP1 hD1 hS1 => ?_)
  have e : cA = g.2.2.1 4 := by
    obtain ⟨_, _, _, _, _, h1⟩ := (hK1.2 6 (cA, .object "CrumbWood$Wood") rfl).2
    obtain ⟨_, _, _, _, _, h2⟩ := (hV.1.2 4 _ rfl).2
    exact Option.some.inj (h1.symm.trans h2)
  subst e
  rw [List.cons_append, List.append_assoc] at hP1 hD1
  exact kk q ls H1 locs hl hP1 hD1 hS1
theorem c_multi {idx : Nat} {n k : Int32} (K : Nat) (X : C0 x cc own d) (hcl : Cond.classLink own idx ("[" ++ (FieldType.array .int).toString) ∈ BG) (harr : Cond.arrayClass .int ∈ BG) (hn : ¬ n < 0) (hk : ¬ k < 0) (hN : n.toNatClampNeg = 3) (hK0 : k.toNatClampNeg = K) (hb2 : K * componentBytes .int ≤ 536870912) (hb3 : K ≤ 536870912) (hce : cells + (1 + 3) ≤ x.2.2.2.2.1) (hsl : slots + (3 + 3 * K) ≤ x.2.2.2.2.2) (hd : decode cc pc = .ok (.multianewarray idx 2, 4)) (kk : ∀ (q : Nat) (r : Nat → Nat), CW x b o (C ++ ((q, .inl (x.2.1.2.2.1 5, 3, .inr (.inr (.inr (.inr (va_up (va_up (va_up (fun _ => none) 0 (some (r 0))) 1 (some (r 1))) 2 (some (r 2)))))))) :: [(r 0, .inl (x.2.1.2.2.1 0, K, .inl (fun _ => 0))), (r 1, .inl (x.2.1.2.2.1 0, K, .inl (fun _ => 0))), (r 2, .inl (x.2.1.2.2.1 0, K, .inl (fun _ => 0)))])) (cells + 1 + 3) (slots + 3 + 3 * K) (pc + 4) lv (.ref q :: st)) : CW x b o C cells slots pc lv (.int k :: .int n :: st) := by
  obtain ⟨⟨p, l, e, R, s, m, args, below, meth, c⟩, g, Q, nL, rc, rs⟩ := x
  obtain ⟨hx, hb, hml, hown, hts, hR, hV, hO, hA, hin⟩ := id X
  intro ls H locs hl hP hD hS
  have hcy : s.vm.findClass (FieldType.array .int).toString = some (g.2.2.1 0) := (hV.1.2 0 _ rfl).2
  refine va_mna (X := (b.1, .inr (b.2.1, o)) :: (b.2.2 ++ C)) (L := []) (f := fun _ => .inr (0, [])) (ty := .int) (z := (K, .inl (fun _ => 0))) hx hb hown (hts _ hcl) hO.2.2 (hts _ harr) hcy hV.1 (by simpa [va_pl] using hP) (by simpa [va_pl] using hD) hS hA hn hk hN hK0 (by decide) hb2 hb3 rfl rfl (by rw [← hR.2.2.1]; exact hce) (by rw [← hR.2.2.2]; exact hsl) (fun cz => ?_) hd (fun q r cA H1 hr _ hK1 hP1 hD1 hS1 => ?_)
  · show ({ cls := cz, slots := Array.replicate K (.int 0), vm := .none } : Cell) = arrV cz K (fun _ => .int 0)
    rw [arrV_new]
  have e : cA = g.2.2.1 5 := by
    have h1 := (hK1.2 6 (cA, .array .int) rfl).2
    have h2 := (hV.1.2 5 _ rfl).2
    exact Option.some.inj (h1.symm.trans h2)
  subst e
  have hl2 : va_pl ([] ++ (List.range 3).map r) (vr_up (fun _ => (.inr (0, []) : va_E)) ((List.range 3).map r) (.inl (g.2.2.1 0, K, .inl (fun _ => 0)))) = (List.range 3).map (fun i => (r i, .inl (g.2.2.1 0, K, .inl (fun _ => 0)))) := by
    unfold va_pl
    rw [List.nil_append, List.map_map]
    refine List.map_congr_left (fun i hi => ?_)
    show (r i, vr_up _ _ _ (r i)) = _
    rw [vr_up_in (List.mem_map.mpr ⟨i, hi, rfl⟩)]
  rw [hl2] at hP1 hD1
  have hl3 : ∀ (y z : Nat × va_E) (rs : va_W), ((y :: (b.2.2 ++ C)) ++ [z]) ++ rs = y :: (b.2.2 ++ (C ++ (z :: rs))) := fun y z rs => by simp
  rw [hl3] at hP1 hD1
  have hf3 : (fun i => if i < 3 then some (r i) else none) = va_up (va_up (va_up (fun _ => none) 0 (some (r 0))) 1 (some (r 1))) 2 (some (r 2)) := by
    funext i
    by_cases h0 : i = 0
    · subst h0; simp [va_up]
    · by_cases h1 : i = 1
      · subst h1; simp [va_up]
      · by_cases h2 : i = 2
        · subst h2; simp [va_up]
        · simp [va_up, h0, h1, h2, show ¬ i < 3 by omega]
  rw [hf3] at hP1 hD1
  exact kk q r ls H1 locs hl hP1 hD1 hS1
theorem cw_at {y : Nat × va_E} {ws C : va_W} {j : Nat} {z : Nat × va_E} (h : C[j]? = some z) : (y :: (ws ++ C))[1 + ws.length + j]? = some z := by
  rw [Nat.add_assoc, Nat.add_comm 1, List.getElem?_cons_succ, List.getElem?_append_right (by omega), Nat.add_sub_cancel_left]
  exact h
theorem cw_set {y : Nat × va_E} {ws C : va_W} {j : Nat} {z : Nat × va_E} : (y :: (ws ++ C)).set (1 + ws.length + j) z = y :: (ws ++ C.set j z) := by
  rw [Nat.add_assoc, Nat.add_comm 1, List.set_cons_succ, List.set_append_right _ _ (by omega), Nat.add_sub_cancel_left]
theorem c_aastS {a v n j j2 : Nat} {i : Int32} {vs : List Value} {f : Nat → Option Nat} (C2 : va_W) (X : C0 x cc own d) (ha : C[j]? = some (a, .inl (x.2.1.2.2.1 3, n, .inr (.inr (.inr (.inr f)))))) (hv : C[j2]? = some (v, .inr (2, vs))) (hin2 : vp_in i n) (hC2 : C.set j (a, .inl (x.2.1.2.2.1 3, n, .inr (.inr (.inr (.inr (va_up f i.toNatClampNeg (some v))))))) = C2) (hd : decode cc pc = .ok (.aastore, 1)) (kk : CW x b o C2 cells slots (pc + 1) lv st) : CW x b o C cells slots pc lv (.ref v :: .int i :: .ref a :: st) := by
  obtain ⟨⟨p, l, e, R, s, m, args, below, meth, c⟩, g, Q, nL, rc, rs⟩ := x
  obtain ⟨hx, hb, hml, hown, hts, hR, hV, hO, hA, hin⟩ := id X
  intro ls H locs hl hP hD hS
  subst hC2
  refine va_astq hx hb hV.1 hP hD hS (1 + b.2.2.length + j) 3 (1 + b.2.2.length + j2) 2 (cw_at ha) rfl (cw_at hv) rfl hin2 hd (fun H1 locs1 hP1 hD1 hS1 => ?_)
  rw [cw_set] at hP1 hD1
  exact kk ls H1 locs1 hl hP1 hD1 hS1
theorem c_aastW {a v n j j2 : Nat} {i : Int32} {vs : List Value} {f : Nat → Option Nat} (C2 : va_W) (X : C0 x cc own d) (ha : C[j]? = some (a, .inl (x.2.1.2.2.1 4, n, .inr (.inr (.inr (.inr f)))))) (hv : C[j2]? = some (v, .inr (4, vs))) (hin2 : vp_in i n) (hC2 : C.set j (a, .inl (x.2.1.2.2.1 4, n, .inr (.inr (.inr (.inr (va_up f i.toNatClampNeg (some v))))))) = C2) (hd : decode cc pc = .ok (.aastore, 1)) (kk : CW x b o C2 cells slots (pc + 1) lv st) : CW x b o C cells slots pc lv (.ref v :: .int i :: .ref a :: st) := by
  obtain ⟨⟨p, l, e, R, s, m, args, below, meth, c⟩, g, Q, nL, rc, rs⟩ := x
  obtain ⟨hx, hb, hml, hown, hts, hR, hV, hO, hA, hin⟩ := id X
  intro ls H locs hl hP hD hS
  subst hC2
  refine va_astq hx hb hV.1 hP hD hS (1 + b.2.2.length + j) 4 (1 + b.2.2.length + j2) 4 (cw_at ha) rfl (cw_at hv) rfl hin2 hd (fun H1 locs1 hP1 hD1 hS1 => ?_)
  rw [cw_set] at hP1 hD1
  exact kk ls H1 locs1 hl hP1 hD1 hS1
theorem c_iast {a n j : Nat} {i v : Int32} {f : Nat → Int32} (C2 : va_W) (X : C0 x cc own d) (ha : C[j]? = some (a, .inl (x.2.1.2.2.1 0, n, .inl f))) (hin2 : vp_in i n) (hC2 : C.set j (a, .inl (x.2.1.2.2.1 0, n, .inl (upd f i.toNatClampNeg v))) = C2) (hd : decode cc pc = .ok (.iastore, 1)) (kk : CW x b o C2 cells slots (pc + 1) lv st) : CW x b o C cells slots pc lv (.int v :: .int i :: .ref a :: st) := by
  obtain ⟨⟨p, l, e, R, s, m, args, below, meth, c⟩, g, Q, nL, rc, rs⟩ := x
  obtain ⟨hx, hb, hml, hown, hts, hR, hV, hO, hA, hin⟩ := id X
  intro ls H locs hl hP hD hS
  subst hC2
  refine va_iast hx hb hV.1 hP hD hS (1 + b.2.2.length + j) 0 (cw_at ha) rfl hin2 hd (fun H1 locs1 hP1 hD1 hS1 => ?_)
  rw [cw_set] at hP1 hD1
  exact kk ls H1 locs1 hl hP1 hD1 hS1
theorem c_call {y : MethodName} {cy : ByteArray} {idx maxL dc mc ms n ci q : Nat} {bl : List Value} {fi : (Nat → Nat) → List Value} {nc : (Nat → Nat) → va_W} {C1 : va_W} (As : List Value) (X : C0 x cc own d) (hM : MI own idx y cy maxL n) (hkt : KT x.1.2.1 x.2.1 y cy maxL dc mc ms As ci bl fi nc) (hdd : dc + 1 ≤ d) (hn : As.length = n) (hroom : (st.map fun v => v.category).sum ≤ 8) (hce : cells + mc ≤ x.2.2.2.2.1) (hsl : slots + ms ≤ x.2.2.2.2.2) (hd : decode cc pc = .ok (.invokespecial idx, 3)) {st0 : List Value} (hst : st0 = As.reverse ++ .ref q :: st) (kk : ∀ r, CW x b o (C1 ++ ((q, .inr (ci, fi r)) :: nc r)) (cells + mc) (slots + ms) (pc + 3) lv st) : CW x b o (C1 ++ [(q, .inr (ci, bl))]) cells slots pc lv st0 := by
  obtain ⟨⟨p, l, e, R, s, m, args, below, meth, c⟩, g, Q, nL, rc, rs⟩ := x
  obtain ⟨hx, hb, hml, hown, hts, hR, hV, hO, hA, hin⟩ := id X
  intro ls H locs hl hP hD hS
  obtain ⟨k1, k2, k3, k5, k6, k7, k8⟩ := hM
  have hMet := hkt q ((b.1, .inr (b.2.1, o)) :: (b.2.2 ++ C1))
  have hP0 := vP_perm (pr_in _ _ _ _) hP
  have hD0 := vD_perm (pr_in _ _ _ _) hD
  have hroom2 : (rmk dc mc ms).frames + 1 ≤ R.frames ∧ 8 + (maxL + 11) + (rmk dc mc ms).locals ≤ R.locals := ⟨by have := hR.1; show dc + 1 ≤ _; omega, by have := hR.2.1; show 8 + (maxL + 11) + 39 * dc ≤ _; omega⟩
  have hcs : cells + mc ≤ R.cells ∧ slots + ms ≤ R.slots := ⟨by rw [← hR.2.2.1]; exact hce, by rw [← hR.2.2.2]; exact hsl⟩
  have hpre : PreS s H (PK g As q ci bl ((b.1, .inr (b.2.1, o)) :: (b.2.2 ++ C1))) (.ref q :: As) := ⟨pk_blind _ _ _ _ _ _, fun U hU hW => ⟨rfl, by rw [hU]; exact hP0, hD0, hV.warm hW, hO.warm hW, fun z hz => hA z (Nat.le_trans hS.1 (by rw [hU] at hz; exact hz))⟩⟩
  have hgo : ∀ (hr : va_Run p l e R s m args below meth c H locs cells slots mc ms (F0 m pc ls st0) st (QK g q ci fi ((b.1, .inr (b.2.1, o)) :: (b.2.2 ++ C1)) nc (Value.ref q :: As).toArray) g.2.2.2), W p l e R s m args below meth c H locs cells slots Q (F0 m pc ls st0) := by
    intro hr T hT X
    obtain ⟨v, st₀, t, T', L, h0, X', hL, e1, e2, ⟨hv, ⟨r, hP1, hD1⟩, hz, hk⟩, stp⟩ := hr T hT X
    cases hv
    rw [h0] at hz hk
    obtain ⟨t2, a1, b1⟩ := kk r ls T'.heap (locs ++ L) hl (by rw [e1]; exact vP_perm (pr_out _ _ _ _ _) hP1) (vD_perm (pr_out _ _ _ _ _) hD1)
      ⟨Nat.le_trans hS.1 (by rw [e1]; exact hz), fun z h1 h2 => by rw [e1, hk z (Nat.lt_of_lt_of_le h1 hS.1) h2]; exact hS.2.1 z h1 h2, fun z hq => by
        rcases List.mem_append.mp hq with h | h
        · exact hS.2.2 z h
        · exact hL z h⟩ T' rfl X'
    exact ⟨t2, stp t2 a1, b1⟩
  rcases k5 with k5 | ⟨host, k5⟩
  · have cb : CallB R s args own idx y cy maxL none (wy y cy maxL none) (rmk dc mc ms) mc ms n := callB_of n hts (bg_good k1) rfl rfl rfl (hts _ k2) (hts _ k5) k6 hroom2
    exact hgo (va_runI (As := As) ⟨hx, hb, hml, hown, hts⟩ hMet ⟨cb, k8, hts _ k3⟩ hpre rfl hn hl.1 hst (lv_room hroom) hd hcs)
  · have cb : va_CN R s args own idx y host cy maxL none (wy y cy maxL none) (rmk dc mc ms) mc ms n := va_cnB n hts (bg_good k1) rfl rfl rfl (hV.2 _ k5) (hts _ k2) k6 hroom2
    exact hgo (va_runIN (As := As) ⟨hx, hb, hml, hown, hts⟩ hMet ⟨cb, k8, hts _ k3⟩ hpre rfl hn hl.1 hst (lv_room hroom) hd hcs)
end
/-- a constructor's contract out of its walk -/
theorem kt_of {l : Launch} {g : GX} {y : MethodName} {cc : ByteArray} {maxL d mc ms ci : Nat} {As bl : List Value} {fi : (Nat → Nat) → List Value} {nc : (Nat → Nat) → va_W} (hy : plainName y.cls = true) (hnm : y.name = "<init>") (hlen : ∀ h0, (lg_sl (.ref h0 :: As)).length ≤ maxL)
    (body : ∀ (x : SB) (b : CB), b.2.1 = ci → x.2.1 = g → x.2.2.2.1 = maxL → x.1.2.1 = l → x.2.2.2.2.1 = mc → x.2.2.2.2.2 = ms → C0 x cc y.cls d → (∀ (r : Nat → Nat) (pc : Nat) (lv : List (Nat × Value)), decode cc pc = .ok (.return_, 1) → CW x b (fi r) (nc r) mc ms pc lv []) → CW x b bl [] 0 0 0 (lv_args 0 (.ref b.1 :: As)) []) : KT l g y cc maxL d mc ms As ci bl fi nc := by
  intro h0 ws
  refine Met.ofW (cc := cc) (maxL := maxL) (ret := none) hy rfl ?_
  intro p e s m args below meth c s₁ B hml hv
  obtain ⟨rfl, hP, hD, hV, hO, hA⟩ := hv
  have hts := atoms_spec (ws := wy y cc maxL none) B.pre
  have hin : meth.name = "<init>" := (name_of_methodNamed B.named B.method).1.trans hnm
  have hlocks := B.notSynchronized
  rw [lg_entry_eq]
  refine body ((p, l, e, rmk d mc ms, s, m, (Value.ref h0 :: As).toArray, below, meth, c), g, MQ below (QK g h0 ci fi ws nc) (Value.ref h0 :: As).toArray s mc ms g.2.2.2, maxL, mc, ms) (h0, ci, ws) rfl rfl rfl rfl rfl rfl
    ⟨B.exec, B.bytes, hml, findClass_of_methodNamed B.named, fun w h => hts w (List.mem_cons_of_mem _ h), ⟨Nat.le_refl _, Nat.le_refl _, rfl, rfl⟩, hV, hO, hA, hin⟩ ?_ _ _ [] (lv_entry _ (hlen h0)) (by simpa using hP) (by simpa using hD) va_S.rf
  intro r pc lv hd ls H locs hl hP2 hD2 hS2
  exact W.vret (Qc := QK g h0 ci fi ws nc) B.exec B.bytes B.returns (fun t ht hW => ⟨rfl, ⟨r, by rw [ht]; exact hP2, hD2⟩, va_S.F hS2 ht⟩) hS2.2.2 hd hlocks

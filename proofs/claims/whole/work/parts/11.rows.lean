theorem nest_on {w : Cond} (h : isNest w = true) : w.onTables = true := by
  cases w <;> first | (simp [isNest] at h; done) | rfl
section
variable {α : Type} {x : SB} {F : α → Prop} {o : Option α} {cc : ByteArray} {own : String} {d pc : Nat} {lv : List (Nat × Value)} {st : List Value} {M : Mm}
theorem r_iconst {n : Int} {v : Int32} (X : CX x cc own d) (hd : decode cc pc = .ok (.iconst n, 1)) (hv : Int32.ofInt n = v) (kk : SIM x F o (pc + 1) lv (.int v :: st) M) : SIM x F o pc lv (st) M := by
  obtain ⟨⟨p, l, e, R, s, m, args, below, meth, c⟩, g, Q, nL, cells, slots⟩ := x
  obtain ⟨hx, hb, hml, hown, hts, hR, hV, hZ, hJ⟩ := id X
  intro ho ls H locs hl hP hS
  exact lv_iconst hx hb hd hv (kk ho ls H locs hl hP hS)
theorem r_bipush {n : Int} {v : Int32} (X : CX x cc own d) (hd : decode cc pc = .ok (.bipush n, 2)) (hv : (Int8.ofInt n).toInt32 = v) (kk : SIM x F o (pc + 2) lv (.int v :: st) M) : SIM x F o pc lv (st) M := by
  obtain ⟨⟨p, l, e, R, s, m, args, below, meth, c⟩, g, Q, nL, cells, slots⟩ := x
  obtain ⟨hx, hb, hml, hown, hts, hR, hV, hZ, hJ⟩ := id X
  intro ho ls H locs hl hP hS
  exact lv_bipush hx hb hd hv (kk ho ls H locs hl hP hS)
theorem r_sipush {n : Int} {v : Int32} (X : CX x cc own d) (hd : decode cc pc = .ok (.sipush n, 3)) (hv : (Int16.ofInt n).toInt32 = v) (kk : SIM x F o (pc + 3) lv (.int v :: st) M) : SIM x F o pc lv (st) M := by
  obtain ⟨⟨p, l, e, R, s, m, args, below, meth, c⟩, g, Q, nL, cells, slots⟩ := x
  obtain ⟨hx, hb, hml, hown, hts, hR, hV, hZ, hJ⟩ := id X
  intro ho ls H locs hl hP hS
  exact lv_sipush hx hb hd hv (kk ho ls H locs hl hP hS)
theorem r_lconst {n : Fin 2} {v : Int64} (X : CX x cc own d) (hd : decode cc pc = .ok (.lconst n, 1)) (hv : Int64.ofNat (n : Nat) = v) (kk : SIM x F o (pc + 1) lv (.long v :: st) M) : SIM x F o pc lv (st) M := by
  obtain ⟨⟨p, l, e, R, s, m, args, below, meth, c⟩, g, Q, nL, cells, slots⟩ := x
  obtain ⟨hx, hb, hml, hown, hts, hR, hV, hZ, hJ⟩ := id X
  intro ho ls H locs hl hP hS
  exact lv_lconst hx hb hd hv (kk ho ls H locs hl hP hS)
theorem r_ldcw {i : Nat} {v : Int32} (X : CX x cc own d) (hd : decode cc pc = .ok (.ldc_w i, 3)) (hc : Cond.constant own i v ∈ BG) (kk : SIM x F o (pc + 3) lv (.int v :: st) M) : SIM x F o pc lv (st) M := by
  obtain ⟨⟨p, l, e, R, s, m, args, below, meth, c⟩, g, Q, nL, cells, slots⟩ := x
  obtain ⟨hx, hb, hml, hown, hts, hR, hV, hZ, hJ⟩ := id X
  intro ho ls H locs hl hP hS
  exact lv_ldcw hx hb hown (hts _ hc) hd (kk ho ls H locs hl hP hS)
theorem r_ldc2 {i : Nat} {v : Int64} (X : CX x cc own d) (hd : decode cc pc = .ok (.ldc2_w i, 3)) (hc : Cond.constantLong own i v ∈ BG) (kk : SIM x F o (pc + 3) lv (.long v :: st) M) : SIM x F o pc lv (st) M := by
  obtain ⟨⟨p, l, e, R, s, m, args, below, meth, c⟩, g, Q, nL, cells, slots⟩ := x
  obtain ⟨hx, hb, hml, hown, hts, hR, hV, hZ, hJ⟩ := id X
  intro ho ls H locs hl hP hS
  exact lv_ldc2 hx hb hown (hts _ hc) hd (kk ho ls H locs hl hP hS)
theorem r_iload_n {k : Fin 4} {i : Nat} {v : Int32} (X : CX x cc own d) (hd : decode cc pc = .ok (.iload_n k, 1)) (hi : (k : Nat) = i) (j : Nat) (hj : lv[j]? = some (i, .int v)) (kk : SIM x F o (pc + 1) lv (.int v :: st) M) : SIM x F o pc lv (st) M := by
  obtain ⟨⟨p, l, e, R, s, m, args, below, meth, c⟩, g, Q, nL, cells, slots⟩ := x
  obtain ⟨hx, hb, hml, hown, hts, hR, hV, hZ, hJ⟩ := id X
  intro ho ls H locs hl hP hS
  exact lv_iload_n hx hb hd hi (lv_at hl j hj) (kk ho ls H locs hl hP hS)
theorem r_iload {i : Nat} {v : Int32} (X : CX x cc own d) (hd : decode cc pc = .ok (.iload i, 2)) (j : Nat) (hj : lv[j]? = some (i, .int v)) (kk : SIM x F o (pc + 2) lv (.int v :: st) M) : SIM x F o pc lv (st) M := by
  obtain ⟨⟨p, l, e, R, s, m, args, below, meth, c⟩, g, Q, nL, cells, slots⟩ := x
  obtain ⟨hx, hb, hml, hown, hts, hR, hV, hZ, hJ⟩ := id X
  intro ho ls H locs hl hP hS
  exact lv_iload hx hb hd (lv_at hl j hj) (kk ho ls H locs hl hP hS)
theorem r_lload_n {k : Fin 4} {i : Nat} {v : Int64} (X : CX x cc own d) (hd : decode cc pc = .ok (.lload_n k, 1)) (hi : (k : Nat) = i) (j : Nat) (hj : lv[j]? = some (i, .long v)) (kk : SIM x F o (pc + 1) lv (.long v :: st) M) : SIM x F o pc lv (st) M := by
  obtain ⟨⟨p, l, e, R, s, m, args, below, meth, c⟩, g, Q, nL, cells, slots⟩ := x
  obtain ⟨hx, hb, hml, hown, hts, hR, hV, hZ, hJ⟩ := id X
  intro ho ls H locs hl hP hS
  exact lv_lload_n hx hb hd hi (lv_at hl j hj) (kk ho ls H locs hl hP hS)
theorem r_lload {i : Nat} {v : Int64} (X : CX x cc own d) (hd : decode cc pc = .ok (.lload i, 2)) (j : Nat) (hj : lv[j]? = some (i, .long v)) (kk : SIM x F o (pc + 2) lv (.long v :: st) M) : SIM x F o pc lv (st) M := by
  obtain ⟨⟨p, l, e, R, s, m, args, below, meth, c⟩, g, Q, nL, cells, slots⟩ := x
  obtain ⟨hx, hb, hml, hown, hts, hR, hV, hZ, hJ⟩ := id X
  intro ho ls H locs hl hP hS
  exact lv_lload hx hb hd (lv_at hl j hj) (kk ho ls H locs hl hP hS)
theorem r_aload_n {k : Fin 4} {i : Nat} {v : Nat} (X : CX x cc own d) (hd : decode cc pc = .ok (.aload_n k, 1)) (hi : (k : Nat) = i) (j : Nat) (hj : lv[j]? = some (i, .ref v)) (kk : SIM x F o (pc + 1) lv (.ref v :: st) M) : SIM x F o pc lv (st) M := by
  obtain ⟨⟨p, l, e, R, s, m, args, below, meth, c⟩, g, Q, nL, cells, slots⟩ := x
  obtain ⟨hx, hb, hml, hown, hts, hR, hV, hZ, hJ⟩ := id X
  intro ho ls H locs hl hP hS
  exact lv_aload_n hx hb hd hi (lv_at hl j hj) (kk ho ls H locs hl hP hS)
theorem r_aload {i : Nat} {v : Nat} (X : CX x cc own d) (hd : decode cc pc = .ok (.aload i, 2)) (j : Nat) (hj : lv[j]? = some (i, .ref v)) (kk : SIM x F o (pc + 2) lv (.ref v :: st) M) : SIM x F o pc lv (st) M := by
  obtain ⟨⟨p, l, e, R, s, m, args, below, meth, c⟩, g, Q, nL, cells, slots⟩ := x
  obtain ⟨hx, hb, hml, hown, hts, hR, hV, hZ, hJ⟩ := id X
  intro ho ls H locs hl hP hS
  exact lv_aload hx hb hd (lv_at hl j hj) (kk ho ls H locs hl hP hS)
theorem r_istore_n {k : Fin 4} {i : Nat} {v : Int32} (lv2 : List (Nat × Value)) (X : CX x cc own d) (hd : decode cc pc = .ok (.istore_n k, 1)) (hi : (k : Nat) = i) (hn : i < x.2.2.2.1) (h2 : (i, Value.int v) :: lv.filter (fun q => !(q.1 == i) && !(q.1 + 1 == i && q.2.category == 2)) = lv2) (kk : SIM x F o (pc + 1) lv2 st M) : SIM x F o pc lv (.int v :: st) M := by
  obtain ⟨⟨p, l, e, R, s, m, args, below, meth, c⟩, g, Q, nL, cells, slots⟩ := x
  obtain ⟨hx, hb, hml, hown, hts, hR, hV, hZ, hJ⟩ := id X
  intro ho ls H locs hl hP hS
  exact lv_istore_n hx hb hd hi hl hn h2 (fun ls hl => kk ho ls H locs hl hP hS)
theorem r_istore {i : Nat} {v : Int32} (lv2 : List (Nat × Value)) (X : CX x cc own d) (hd : decode cc pc = .ok (.istore i, 2)) (hn : i < x.2.2.2.1) (h2 : (i, Value.int v) :: lv.filter (fun q => !(q.1 == i) && !(q.1 + 1 == i && q.2.category == 2)) = lv2) (kk : SIM x F o (pc + 2) lv2 st M) : SIM x F o pc lv (.int v :: st) M := by
  obtain ⟨⟨p, l, e, R, s, m, args, below, meth, c⟩, g, Q, nL, cells, slots⟩ := x
  obtain ⟨hx, hb, hml, hown, hts, hR, hV, hZ, hJ⟩ := id X
  intro ho ls H locs hl hP hS
  exact lv_istore hx hb hd hl hn h2 (fun ls hl => kk ho ls H locs hl hP hS)
theorem r_lstore_n {k : Fin 4} {i : Nat} {v : Int64} (lv2 : List (Nat × Value)) (X : CX x cc own d) (hd : decode cc pc = .ok (.lstore_n k, 1)) (hi : (k : Nat) = i) (hn : i + 1 < x.2.2.2.1) (h2 : (i, Value.long v) :: lv.filter (fun q => !(q.1 == i) && (!(q.1 == i + 1) && !(q.1 + 1 == i && q.2.category == 2))) = lv2) (kk : SIM x F o (pc + 1) lv2 st M) : SIM x F o pc lv (.long v :: st) M := by
  obtain ⟨⟨p, l, e, R, s, m, args, below, meth, c⟩, g, Q, nL, cells, slots⟩ := x
  obtain ⟨hx, hb, hml, hown, hts, hR, hV, hZ, hJ⟩ := id X
  intro ho ls H locs hl hP hS
  exact lv_lstore_n hx hb hd hi hl hn h2 (fun ls hl => kk ho ls H locs hl hP hS)
theorem r_lstore {i : Nat} {v : Int64} (lv2 : List (Nat × Value)) (X : CX x cc own d) (hd : decode cc pc = .ok (.lstore i, 2)) (hn : i + 1 < x.2.2.2.1) (h2 : (i, Value.long v) :: lv.filter (fun q => !(q.1 == i) && (!(q.1 == i + 1) && !(q.1 + 1 == i && q.2.category == 2))) = lv2) (kk : SIM x F o (pc + 2) lv2 st M) : SIM x F o pc lv (.long v :: st) M := by
  obtain ⟨⟨p, l, e, R, s, m, args, below, meth, c⟩, g, Q, nL, cells, slots⟩ := x
  obtain ⟨hx, hb, hml, hown, hts, hR, hV, hZ, hJ⟩ := id X
  intro ho ls H locs hl hP hS
  exact lv_lstore hx hb hd hl hn h2 (fun ls hl => kk ho ls H locs hl hP hS)
theorem r_astore_n {k : Fin 4} {i : Nat} {v : Nat} (lv2 : List (Nat × Value)) (X : CX x cc own d) (hd : decode cc pc = .ok (.astore_n k, 1)) (hi : (k : Nat) = i) (hn : i < x.2.2.2.1) (h2 : (i, Value.ref v) :: lv.filter (fun q => !(q.1 == i) && !(q.1 + 1 == i && q.2.category == 2)) = lv2) (kk : SIM x F o (pc + 1) lv2 st M) : SIM x F o pc lv (.ref v :: st) M := by
  obtain ⟨⟨p, l, e, R, s, m, args, below, meth, c⟩, g, Q, nL, cells, slots⟩ := x
  obtain ⟨hx, hb, hml, hown, hts, hR, hV, hZ, hJ⟩ := id X
  intro ho ls H locs hl hP hS
  exact lv_astore_n hx hb hd hi hl hn h2 (fun ls hl => kk ho ls H locs hl hP hS)
theorem r_astore {i : Nat} {v : Nat} (lv2 : List (Nat × Value)) (X : CX x cc own d) (hd : decode cc pc = .ok (.astore i, 2)) (hn : i < x.2.2.2.1) (h2 : (i, Value.ref v) :: lv.filter (fun q => !(q.1 == i) && !(q.1 + 1 == i && q.2.category == 2)) = lv2) (kk : SIM x F o (pc + 2) lv2 st M) : SIM x F o pc lv (.ref v :: st) M := by
  obtain ⟨⟨p, l, e, R, s, m, args, below, meth, c⟩, g, Q, nL, cells, slots⟩ := x
  obtain ⟨hx, hb, hml, hown, hts, hR, hV, hZ, hJ⟩ := id X
  intro ho ls H locs hl hP hS
  exact lv_astore hx hb hd hl hn h2 (fun ls hl => kk ho ls H locs hl hP hS)
theorem r_iinc {i : Nat} {n : Int} {y v : Int32} (lv2 : List (Nat × Value)) (X : CX x cc own d) (hd : decode cc pc = .ok (.iinc i n, 3)) (j : Nat) (hj : lv[j]? = some (i, .int y)) (hv : y + Int32.ofInt n = v) (hn : i < x.2.2.2.1) (h2 : (i, Value.int v) :: lv.filter (fun q => !(q.1 == i) && !(q.1 + 1 == i && q.2.category == 2)) = lv2) (kk : SIM x F o (pc + 3) lv2 st M) : SIM x F o pc lv (st) M := by
  obtain ⟨⟨p, l, e, R, s, m, args, below, meth, c⟩, g, Q, nL, cells, slots⟩ := x
  obtain ⟨hx, hb, hml, hown, hts, hR, hV, hZ, hJ⟩ := id X
  intro ho ls H locs hl hP hS
  exact lv_iinc hx hb hd hl hj hv hn h2 (fun ls hl => kk ho ls H locs hl hP hS)
theorem r_iadd {x1 y : Int32} (X : CX x cc own d) (hd : decode cc pc = .ok (.iadd, 1)) (kk : SIM x F o (pc + 1) lv (.int (x1 + y) :: st) M) : SIM x F o pc lv (.int y :: .int x1 :: st) M := by
  obtain ⟨⟨p, l, e, R, s, m, args, below, meth, c⟩, g, Q, nL, cells, slots⟩ := x
  obtain ⟨hx, hb, hml, hown, hts, hR, hV, hZ, hJ⟩ := id X
  intro ho ls H locs hl hP hS
  exact lv_iadd hx hb hd (kk ho ls H locs hl hP hS)
theorem r_isub {x1 y : Int32} (X : CX x cc own d) (hd : decode cc pc = .ok (.isub, 1)) (kk : SIM x F o (pc + 1) lv (.int (x1 - y) :: st) M) : SIM x F o pc lv (.int y :: .int x1 :: st) M := by
  obtain ⟨⟨p, l, e, R, s, m, args, below, meth, c⟩, g, Q, nL, cells, slots⟩ := x
  obtain ⟨hx, hb, hml, hown, hts, hR, hV, hZ, hJ⟩ := id X
  intro ho ls H locs hl hP hS
  exact lv_isub hx hb hd (kk ho ls H locs hl hP hS)
theorem r_imul {x1 y : Int32} (X : CX x cc own d) (hd : decode cc pc = .ok (.imul, 1)) (kk : SIM x F o (pc + 1) lv (.int (x1 * y) :: st) M) : SIM x F o pc lv (.int y :: .int x1 :: st) M := by
  obtain ⟨⟨p, l, e, R, s, m, args, below, meth, c⟩, g, Q, nL, cells, slots⟩ := x
  obtain ⟨hx, hb, hml, hown, hts, hR, hV, hZ, hJ⟩ := id X
  intro ho ls H locs hl hP hS
  exact lv_imul hx hb hd (kk ho ls H locs hl hP hS)
theorem r_iand {x1 y : Int32} (X : CX x cc own d) (hd : decode cc pc = .ok (.iand, 1)) (kk : SIM x F o (pc + 1) lv (.int (x1 &&& y) :: st) M) : SIM x F o pc lv (.int y :: .int x1 :: st) M := by
  obtain ⟨⟨p, l, e, R, s, m, args, below, meth, c⟩, g, Q, nL, cells, slots⟩ := x
  obtain ⟨hx, hb, hml, hown, hts, hR, hV, hZ, hJ⟩ := id X
  intro ho ls H locs hl hP hS
  exact lv_iand hx hb hd (kk ho ls H locs hl hP hS)
theorem r_ior {x1 y : Int32} (X : CX x cc own d) (hd : decode cc pc = .ok (.ior, 1)) (kk : SIM x F o (pc + 1) lv (.int (x1 ||| y) :: st) M) : SIM x F o pc lv (.int y :: .int x1 :: st) M := by
  obtain ⟨⟨p, l, e, R, s, m, args, below, meth, c⟩, g, Q, nL, cells, slots⟩ := x
  obtain ⟨hx, hb, hml, hown, hts, hR, hV, hZ, hJ⟩ := id X
  intro ho ls H locs hl hP hS
  exact lv_ior hx hb hd (kk ho ls H locs hl hP hS)
theorem r_ixor {x1 y : Int32} (X : CX x cc own d) (hd : decode cc pc = .ok (.ixor, 1)) (kk : SIM x F o (pc + 1) lv (.int (x1 ^^^ y) :: st) M) : SIM x F o pc lv (.int y :: .int x1 :: st) M := by
  obtain ⟨⟨p, l, e, R, s, m, args, below, meth, c⟩, g, Q, nL, cells, slots⟩ := x
  obtain ⟨hx, hb, hml, hown, hts, hR, hV, hZ, hJ⟩ := id X
  intro ho ls H locs hl hP hS
  exact lv_ixor hx hb hd (kk ho ls H locs hl hP hS)
theorem r_ishl {x1 y : Int32} (X : CX x cc own d) (hd : decode cc pc = .ok (.ishl, 1)) (kk : SIM x F o (pc + 1) lv (.int (x1 <<< (y &&& 31)) :: st) M) : SIM x F o pc lv (.int y :: .int x1 :: st) M := by
  obtain ⟨⟨p, l, e, R, s, m, args, below, meth, c⟩, g, Q, nL, cells, slots⟩ := x
  obtain ⟨hx, hb, hml, hown, hts, hR, hV, hZ, hJ⟩ := id X
  intro ho ls H locs hl hP hS
  exact lv_ishl hx hb hd (kk ho ls H locs hl hP hS)
theorem r_ishr {x1 y : Int32} (X : CX x cc own d) (hd : decode cc pc = .ok (.ishr, 1)) (kk : SIM x F o (pc + 1) lv (.int (x1 >>> (y &&& 31)) :: st) M) : SIM x F o pc lv (.int y :: .int x1 :: st) M := by
  obtain ⟨⟨p, l, e, R, s, m, args, below, meth, c⟩, g, Q, nL, cells, slots⟩ := x
  obtain ⟨hx, hb, hml, hown, hts, hR, hV, hZ, hJ⟩ := id X
  intro ho ls H locs hl hP hS
  exact lv_ishr hx hb hd (kk ho ls H locs hl hP hS)
theorem r_iushr {x1 y : Int32} (X : CX x cc own d) (hd : decode cc pc = .ok (.iushr, 1)) (kk : SIM x F o (pc + 1) lv (.int (x1.toUInt32 >>> (y.toUInt32 &&& Int32.toUInt32 31)).toInt32 :: st) M) : SIM x F o pc lv (.int y :: .int x1 :: st) M := by
  obtain ⟨⟨p, l, e, R, s, m, args, below, meth, c⟩, g, Q, nL, cells, slots⟩ := x
  obtain ⟨hx, hb, hml, hown, hts, hR, hV, hZ, hJ⟩ := id X
  intro ho ls H locs hl hP hS
  exact lv_iushr hx hb hd rfl (kk ho ls H locs hl hP hS)
theorem r_ineg {y : Int32} (X : CX x cc own d) (hd : decode cc pc = .ok (.ineg, 1)) (kk : SIM x F o (pc + 1) lv (.int (-y) :: st) M) : SIM x F o pc lv (.int y :: st) M := by
  obtain ⟨⟨p, l, e, R, s, m, args, below, meth, c⟩, g, Q, nL, cells, slots⟩ := x
  obtain ⟨hx, hb, hml, hown, hts, hR, hV, hZ, hJ⟩ := id X
  intro ho ls H locs hl hP hS
  exact lv_ineg hx hb hd (kk ho ls H locs hl hP hS)
theorem r_i2l {y : Int32} (X : CX x cc own d) (hd : decode cc pc = .ok (.i2l, 1)) (kk : SIM x F o (pc + 1) lv (.long y.toInt64 :: st) M) : SIM x F o pc lv (.int y :: st) M := by
  obtain ⟨⟨p, l, e, R, s, m, args, below, meth, c⟩, g, Q, nL, cells, slots⟩ := x
  obtain ⟨hx, hb, hml, hown, hts, hR, hV, hZ, hJ⟩ := id X
  intro ho ls H locs hl hP hS
  exact lv_i2l hx hb hd rfl (kk ho ls H locs hl hP hS)
theorem r_l2i {y : Int64} (X : CX x cc own d) (hd : decode cc pc = .ok (.l2i, 1)) (kk : SIM x F o (pc + 1) lv (.int y.toInt32 :: st) M) : SIM x F o pc lv (.long y :: st) M := by
  obtain ⟨⟨p, l, e, R, s, m, args, below, meth, c⟩, g, Q, nL, cells, slots⟩ := x
  obtain ⟨hx, hb, hml, hown, hts, hR, hV, hZ, hJ⟩ := id X
  intro ho ls H locs hl hP hS
  exact lv_l2i hx hb hd rfl (kk ho ls H locs hl hP hS)
theorem r_i2b {y : Int32} (X : CX x cc own d) (hd : decode cc pc = .ok (.i2b, 1)) (kk : SIM x F o (pc + 1) lv (.int y.toInt8.toInt32 :: st) M) : SIM x F o pc lv (.int y :: st) M := by
  obtain ⟨⟨p, l, e, R, s, m, args, below, meth, c⟩, g, Q, nL, cells, slots⟩ := x
  obtain ⟨hx, hb, hml, hown, hts, hR, hV, hZ, hJ⟩ := id X
  intro ho ls H locs hl hP hS
  exact lv_i2b hx hb hd rfl (kk ho ls H locs hl hP hS)
theorem r_ladd {x1 y : Int64} (X : CX x cc own d) (hd : decode cc pc = .ok (.ladd, 1)) (kk : SIM x F o (pc + 1) lv (.long (x1 + y) :: st) M) : SIM x F o pc lv (.long y :: .long x1 :: st) M := by
  obtain ⟨⟨p, l, e, R, s, m, args, below, meth, c⟩, g, Q, nL, cells, slots⟩ := x
  obtain ⟨hx, hb, hml, hown, hts, hR, hV, hZ, hJ⟩ := id X
  intro ho ls H locs hl hP hS
  exact lv_ladd hx hb hd (kk ho ls H locs hl hP hS)
theorem r_lmul {x1 y : Int64} (X : CX x cc own d) (hd : decode cc pc = .ok (.lmul, 1)) (kk : SIM x F o (pc + 1) lv (.long (x1 * y) :: st) M) : SIM x F o pc lv (.long y :: .long x1 :: st) M := by
  obtain ⟨⟨p, l, e, R, s, m, args, below, meth, c⟩, g, Q, nL, cells, slots⟩ := x
  obtain ⟨hx, hb, hml, hown, hts, hR, hV, hZ, hJ⟩ := id X
  intro ho ls H locs hl hP hS
  exact lv_lmul hx hb hd (kk ho ls H locs hl hP hS)
theorem r_lshl {x1 : Int64} {y : Int32} (X : CX x cc own d) (hd : decode cc pc = .ok (.lshl, 1)) (kk : SIM x F o (pc + 1) lv (.long (x1 <<< (y.toInt64 &&& 63)) :: st) M) : SIM x F o pc lv (.int y :: .long x1 :: st) M := by
  obtain ⟨⟨p, l, e, R, s, m, args, below, meth, c⟩, g, Q, nL, cells, slots⟩ := x
  obtain ⟨hx, hb, hml, hown, hts, hR, hV, hZ, hJ⟩ := id X
  intro ho ls H locs hl hP hS
  exact lv_lshl hx hb hd rfl (kk ho ls H locs hl hP hS)
theorem r_lcmp {x1 y : Int64} (X : CX x cc own d) (hd : decode cc pc = .ok (.lcmp, 1)) (kk : SIM x F o (pc + 1) lv (.int (lg_cmp x1 y) :: st) M) : SIM x F o pc lv (.long y :: .long x1 :: st) M := by
  obtain ⟨⟨p, l, e, R, s, m, args, below, meth, c⟩, g, Q, nL, cells, slots⟩ := x
  obtain ⟨hx, hb, hml, hown, hts, hR, hV, hZ, hJ⟩ := id X
  intro ho ls H locs hl hP hS
  exact W.lcmp hx hb hd (kk ho ls H locs hl hP hS)
theorem r_idiv {x1 y : Int32} {K : Int32 → Option α} (X : CX x cc own d) (hd : decode cc pc = .ok (.idiv, 1)) (kk : ∀ v, SIM x F (K v) (pc + 1) lv (.int v :: st) M) : SIM x F (dvI x1 y K) pc lv (.int y :: .int x1 :: st) M := by
  obtain ⟨⟨p, l, e, R, s, m, args, below, meth, c⟩, g, Q, nL, cells, slots⟩ := x
  obtain ⟨hx, hb, hml, hown, hts, hR, hV, hZ, hJ⟩ := id X
  intro ho ls H locs hl hP hS
  obtain ⟨w, ho, hF⟩ := ho
  unfold dvI at ho
  by_cases h0 : ¬ y = 0
  · rw [if_pos h0] at ho
    exact lv_idiv hx hb hd h0 (kk _ ⟨w, ho, hF⟩ ls H locs hl hP hS)
  · rw [if_neg h0] at ho
    cases ho
theorem r_ldiv {x1 y : Int64} {K : Int64 → Option α} (X : CX x cc own d) (hd : decode cc pc = .ok (.ldiv, 1)) (kk : ∀ v, SIM x F (K v) (pc + 1) lv (.long v :: st) M) : SIM x F (dvJ x1 y K) pc lv (.long y :: .long x1 :: st) M := by
  obtain ⟨⟨p, l, e, R, s, m, args, below, meth, c⟩, g, Q, nL, cells, slots⟩ := x
  obtain ⟨hx, hb, hml, hown, hts, hR, hV, hZ, hJ⟩ := id X
  intro ho ls H locs hl hP hS
  obtain ⟨w, ho, hF⟩ := ho
  unfold dvJ at ho
  by_cases h0 : ¬ y = 0
  · rw [if_pos h0] at ho
    exact lv_ldiv hx hb hd h0 (kk _ ⟨w, ho, hF⟩ ls H locs hl hP hS)
  · rw [if_neg h0] at ho
    cases ho
theorem r_lrem {x1 y : Int64} {K : Int64 → Option α} (X : CX x cc own d) (hd : decode cc pc = .ok (.lrem, 1)) (kk : ∀ v, SIM x F (K v) (pc + 1) lv (.long v :: st) M) : SIM x F (rmJ x1 y K) pc lv (.long y :: .long x1 :: st) M := by
  obtain ⟨⟨p, l, e, R, s, m, args, below, meth, c⟩, g, Q, nL, cells, slots⟩ := x
  obtain ⟨hx, hb, hml, hown, hts, hR, hV, hZ, hJ⟩ := id X
  intro ho ls H locs hl hP hS
  obtain ⟨w, ho, hF⟩ := ho
  unfold rmJ at ho
  by_cases h0 : ¬ y = 0
  · rw [if_pos h0] at ho
    exact lv_lrem hx hb hd h0 (kk _ ⟨w, ho, hF⟩ ls H locs hl hP hS)
  · rw [if_neg h0] at ho
    cases ho
theorem r_dup {v : Value} (X : CX x cc own d) (hd : decode cc pc = .ok (.dup, 1)) (hc : v.category = 1) (kk : SIM x F o (pc + 1) lv (v :: v :: st) M) : SIM x F o pc lv (v :: st) M := by
  obtain ⟨⟨p, l, e, R, s, m, args, below, meth, c⟩, g, Q, nL, cells, slots⟩ := x
  obtain ⟨hx, hb, hml, hown, hts, hR, hV, hZ, hJ⟩ := id X
  intro ho ls H locs hl hP hS
  exact lv_dup hx hb hd hc (kk ho ls H locs hl hP hS)
theorem r_pop {v : Value} (X : CX x cc own d) (hd : decode cc pc = .ok (.pop, 1)) (hc : v.category = 1) (kk : SIM x F o (pc + 1) lv (st) M) : SIM x F o pc lv (v :: st) M := by
  obtain ⟨⟨p, l, e, R, s, m, args, below, meth, c⟩, g, Q, nL, cells, slots⟩ := x
  obtain ⟨hx, hb, hml, hown, hts, hR, hV, hZ, hJ⟩ := id X
  intro ho ls H locs hl hP hS
  exact lv_pop hx hb hd hc (kk ho ls H locs hl hP hS)
theorem r_dup2 {v w : Value} (X : CX x cc own d) (hd : decode cc pc = .ok (.dup2, 1)) (hc : v.category = 1) (hc2 : w.category = 1) (kk : SIM x F o (pc + 1) lv (v :: w :: v :: w :: st) M) : SIM x F o pc lv (v :: w :: st) M := by
  obtain ⟨⟨p, l, e, R, s, m, args, below, meth, c⟩, g, Q, nL, cells, slots⟩ := x
  obtain ⟨hx, hb, hml, hown, hts, hR, hV, hZ, hJ⟩ := id X
  intro ho ls H locs hl hP hS
  exact lv_dup2_11 hx hb hd hc hc2 (kk ho ls H locs hl hP hS)
theorem r_icmp_eq {x1 y : Int32} {off : Int} {o1 o2 : Option α} (tgt : Nat) (X : CX x cc own d) (hd : decode cc pc = .ok (.if_icmp .eq off, 3)) (ht : (pc : Int) + off = (tgt : Int)) (kt : SIM x F o1 tgt lv st M) (kf : SIM x F o2 (pc + 3) lv st M) : SIM x F (if x1 = y then o1 else o2) pc lv (.int y :: .int x1 :: st) M := by
  obtain ⟨⟨p, l, e, R, s, m, args, below, meth, c⟩, g, Q, nL, cells, slots⟩ := x
  obtain ⟨hx, hb, hml, hown, hts, hR, hV, hZ, hJ⟩ := id X
  intro ho ls H locs hl hP hS
  obtain ⟨w, ho, hF⟩ := ho
  refine lv_icmp_eq hx hb hd ht (fun h => ?_) (fun h => ?_)
  · rw [if_pos h] at ho
    exact kt ⟨w, ho, hF⟩ ls H locs hl hP hS
  · rw [if_neg h] at ho
    exact kf ⟨w, ho, hF⟩ ls H locs hl hP hS
theorem r_if_eq {x1 : Int32} {off : Int} {o1 o2 : Option α} (tgt : Nat) (X : CX x cc own d) (hd : decode cc pc = .ok (.ifCond .eq off, 3)) (ht : (pc : Int) + off = (tgt : Int)) (kt : SIM x F o1 tgt lv st M) (kf : SIM x F o2 (pc + 3) lv st M) : SIM x F (if x1 = 0 then o1 else o2) pc lv (.int x1 :: st) M := by
  obtain ⟨⟨p, l, e, R, s, m, args, below, meth, c⟩, g, Q, nL, cells, slots⟩ := x
  obtain ⟨hx, hb, hml, hown, hts, hR, hV, hZ, hJ⟩ := id X
  intro ho ls H locs hl hP hS
  obtain ⟨w, ho, hF⟩ := ho
  refine lv_if_eq hx hb hd ht (fun h => ?_) (fun h => ?_)
  · rw [if_pos h] at ho
    exact kt ⟨w, ho, hF⟩ ls H locs hl hP hS
  · rw [if_neg h] at ho
    exact kf ⟨w, ho, hF⟩ ls H locs hl hP hS
theorem r_icmp_ne {x1 y : Int32} {off : Int} {o1 o2 : Option α} (tgt : Nat) (X : CX x cc own d) (hd : decode cc pc = .ok (.if_icmp .ne off, 3)) (ht : (pc : Int) + off = (tgt : Int)) (kf : SIM x F o1 (pc + 3) lv st M) (kt : SIM x F o2 tgt lv st M) : SIM x F (if x1 = y then o1 else o2) pc lv (.int y :: .int x1 :: st) M := by
  obtain ⟨⟨p, l, e, R, s, m, args, below, meth, c⟩, g, Q, nL, cells, slots⟩ := x
  obtain ⟨hx, hb, hml, hown, hts, hR, hV, hZ, hJ⟩ := id X
  intro ho ls H locs hl hP hS
  obtain ⟨w, ho, hF⟩ := ho
  refine lv_icmp_ne hx hb hd ht (fun h => ?_) (fun h => ?_)
  · rw [if_neg h] at ho
    exact kt ⟨w, ho, hF⟩ ls H locs hl hP hS
  · rw [if_pos h] at ho
    exact kf ⟨w, ho, hF⟩ ls H locs hl hP hS
theorem r_if_ne {x1 : Int32} {off : Int} {o1 o2 : Option α} (tgt : Nat) (X : CX x cc own d) (hd : decode cc pc = .ok (.ifCond .ne off, 3)) (ht : (pc : Int) + off = (tgt : Int)) (kf : SIM x F o1 (pc + 3) lv st M) (kt : SIM x F o2 tgt lv st M) : SIM x F (if x1 = 0 then o1 else o2) pc lv (.int x1 :: st) M := by
  obtain ⟨⟨p, l, e, R, s, m, args, below, meth, c⟩, g, Q, nL, cells, slots⟩ := x
  obtain ⟨hx, hb, hml, hown, hts, hR, hV, hZ, hJ⟩ := id X
  intro ho ls H locs hl hP hS
  obtain ⟨w, ho, hF⟩ := ho
  refine lv_if_ne hx hb hd ht (fun h => ?_) (fun h => ?_)
  · rw [if_neg h] at ho
    exact kt ⟨w, ho, hF⟩ ls H locs hl hP hS
  · rw [if_pos h] at ho
    exact kf ⟨w, ho, hF⟩ ls H locs hl hP hS
theorem r_icmp_lt {x1 y : Int32} {off : Int} {o1 o2 : Option α} (tgt : Nat) (X : CX x cc own d) (hd : decode cc pc = .ok (.if_icmp .lt off, 3)) (ht : (pc : Int) + off = (tgt : Int)) (kt : SIM x F o1 tgt lv st M) (kf : SIM x F o2 (pc + 3) lv st M) : SIM x F (if x1 < y then o1 else o2) pc lv (.int y :: .int x1 :: st) M := by
  obtain ⟨⟨p, l, e, R, s, m, args, below, meth, c⟩, g, Q, nL, cells, slots⟩ := x
  obtain ⟨hx, hb, hml, hown, hts, hR, hV, hZ, hJ⟩ := id X
  intro ho ls H locs hl hP hS
  obtain ⟨w, ho, hF⟩ := ho
  refine lv_icmp_lt hx hb hd ht (fun h => ?_) (fun h => ?_)
  · rw [if_pos h] at ho
    exact kt ⟨w, ho, hF⟩ ls H locs hl hP hS
  · rw [if_neg h] at ho
    exact kf ⟨w, ho, hF⟩ ls H locs hl hP hS
theorem r_if_lt {x1 : Int32} {off : Int} {o1 o2 : Option α} (tgt : Nat) (X : CX x cc own d) (hd : decode cc pc = .ok (.ifCond .lt off, 3)) (ht : (pc : Int) + off = (tgt : Int)) (kt : SIM x F o1 tgt lv st M) (kf : SIM x F o2 (pc + 3) lv st M) : SIM x F (if x1 < 0 then o1 else o2) pc lv (.int x1 :: st) M := by
  obtain ⟨⟨p, l, e, R, s, m, args, below, meth, c⟩, g, Q, nL, cells, slots⟩ := x
  obtain ⟨hx, hb, hml, hown, hts, hR, hV, hZ, hJ⟩ := id X
  intro ho ls H locs hl hP hS
  obtain ⟨w, ho, hF⟩ := ho
  refine lv_if_lt hx hb hd ht (fun h => ?_) (fun h => ?_)
  · rw [if_pos h] at ho
    exact kt ⟨w, ho, hF⟩ ls H locs hl hP hS
  · rw [if_neg h] at ho
    exact kf ⟨w, ho, hF⟩ ls H locs hl hP hS
theorem r_icmp_ge {x1 y : Int32} {off : Int} {o1 o2 : Option α} (tgt : Nat) (X : CX x cc own d) (hd : decode cc pc = .ok (.if_icmp .ge off, 3)) (ht : (pc : Int) + off = (tgt : Int)) (kt : SIM x F o1 tgt lv st M) (kf : SIM x F o2 (pc + 3) lv st M) : SIM x F (if y ≤ x1 then o1 else o2) pc lv (.int y :: .int x1 :: st) M := by
  obtain ⟨⟨p, l, e, R, s, m, args, below, meth, c⟩, g, Q, nL, cells, slots⟩ := x
  obtain ⟨hx, hb, hml, hown, hts, hR, hV, hZ, hJ⟩ := id X
  intro ho ls H locs hl hP hS
  obtain ⟨w, ho, hF⟩ := ho
  refine lv_icmp_ge hx hb hd ht (fun h => ?_) (fun h => ?_)
  · rw [if_pos h] at ho
    exact kt ⟨w, ho, hF⟩ ls H locs hl hP hS
  · rw [if_neg h] at ho
    exact kf ⟨w, ho, hF⟩ ls H locs hl hP hS
theorem r_if_ge {x1 : Int32} {off : Int} {o1 o2 : Option α} (tgt : Nat) (X : CX x cc own d) (hd : decode cc pc = .ok (.ifCond .ge off, 3)) (ht : (pc : Int) + off = (tgt : Int)) (kt : SIM x F o1 tgt lv st M) (kf : SIM x F o2 (pc + 3) lv st M) : SIM x F (if 0 ≤ x1 then o1 else o2) pc lv (.int x1 :: st) M := by
  obtain ⟨⟨p, l, e, R, s, m, args, below, meth, c⟩, g, Q, nL, cells, slots⟩ := x
  obtain ⟨hx, hb, hml, hown, hts, hR, hV, hZ, hJ⟩ := id X
  intro ho ls H locs hl hP hS
  obtain ⟨w, ho, hF⟩ := ho
  refine lv_if_ge hx hb hd ht (fun h => ?_) (fun h => ?_)
  · rw [if_pos h] at ho
    exact kt ⟨w, ho, hF⟩ ls H locs hl hP hS
  · rw [if_neg h] at ho
    exact kf ⟨w, ho, hF⟩ ls H locs hl hP hS
theorem r_icmp_gt {x1 y : Int32} {off : Int} {o1 o2 : Option α} (tgt : Nat) (X : CX x cc own d) (hd : decode cc pc = .ok (.if_icmp .gt off, 3)) (ht : (pc : Int) + off = (tgt : Int)) (kt : SIM x F o1 tgt lv st M) (kf : SIM x F o2 (pc + 3) lv st M) : SIM x F (if y < x1 then o1 else o2) pc lv (.int y :: .int x1 :: st) M := by
  obtain ⟨⟨p, l, e, R, s, m, args, below, meth, c⟩, g, Q, nL, cells, slots⟩ := x
  obtain ⟨hx, hb, hml, hown, hts, hR, hV, hZ, hJ⟩ := id X
  intro ho ls H locs hl hP hS
  obtain ⟨w, ho, hF⟩ := ho
  refine lv_icmp_gt hx hb hd ht (fun h => ?_) (fun h => ?_)
  · rw [if_pos h] at ho
    exact kt ⟨w, ho, hF⟩ ls H locs hl hP hS
  · rw [if_neg h] at ho
    exact kf ⟨w, ho, hF⟩ ls H locs hl hP hS
theorem r_if_gt {x1 : Int32} {off : Int} {o1 o2 : Option α} (tgt : Nat) (X : CX x cc own d) (hd : decode cc pc = .ok (.ifCond .gt off, 3)) (ht : (pc : Int) + off = (tgt : Int)) (kt : SIM x F o1 tgt lv st M) (kf : SIM x F o2 (pc + 3) lv st M) : SIM x F (if 0 < x1 then o1 else o2) pc lv (.int x1 :: st) M := by
  obtain ⟨⟨p, l, e, R, s, m, args, below, meth, c⟩, g, Q, nL, cells, slots⟩ := x
  obtain ⟨hx, hb, hml, hown, hts, hR, hV, hZ, hJ⟩ := id X
  intro ho ls H locs hl hP hS
  obtain ⟨w, ho, hF⟩ := ho
  refine lv_if_gt hx hb hd ht (fun h => ?_) (fun h => ?_)
  · rw [if_pos h] at ho
    exact kt ⟨w, ho, hF⟩ ls H locs hl hP hS
  · rw [if_neg h] at ho
    exact kf ⟨w, ho, hF⟩ ls H locs hl hP hS
theorem r_icmp_le {x1 y : Int32} {off : Int} {o1 o2 : Option α} (tgt : Nat) (X : CX x cc own d) (hd : decode cc pc = .ok (.if_icmp .le off, 3)) (ht : (pc : Int) + off = (tgt : Int)) (kt : SIM x F o1 tgt lv st M) (kf : SIM x F o2 (pc + 3) lv st M) : SIM x F (if x1 ≤ y then o1 else o2) pc lv (.int y :: .int x1 :: st) M := by
  obtain ⟨⟨p, l, e, R, s, m, args, below, meth, c⟩, g, Q, nL, cells, slots⟩ := x
  obtain ⟨hx, hb, hml, hown, hts, hR, hV, hZ, hJ⟩ := id X
  intro ho ls H locs hl hP hS
  obtain ⟨w, ho, hF⟩ := ho
  refine lv_icmp_le hx hb hd ht (fun h => ?_) (fun h => ?_)
  · rw [if_pos h] at ho
    exact kt ⟨w, ho, hF⟩ ls H locs hl hP hS
  · rw [if_neg h] at ho
    exact kf ⟨w, ho, hF⟩ ls H locs hl hP hS
theorem r_if_le {x1 : Int32} {off : Int} {o1 o2 : Option α} (tgt : Nat) (X : CX x cc own d) (hd : decode cc pc = .ok (.ifCond .le off, 3)) (ht : (pc : Int) + off = (tgt : Int)) (kt : SIM x F o1 tgt lv st M) (kf : SIM x F o2 (pc + 3) lv st M) : SIM x F (if x1 ≤ 0 then o1 else o2) pc lv (.int x1 :: st) M := by
  obtain ⟨⟨p, l, e, R, s, m, args, below, meth, c⟩, g, Q, nL, cells, slots⟩ := x
  obtain ⟨hx, hb, hml, hown, hts, hR, hV, hZ, hJ⟩ := id X
  intro ho ls H locs hl hP hS
  obtain ⟨w, ho, hF⟩ := ho
  refine lv_if_le hx hb hd ht (fun h => ?_) (fun h => ?_)
  · rw [if_pos h] at ho
    exact kt ⟨w, ho, hF⟩ ls H locs hl hP hS
  · rw [if_neg h] at ho
    exact kf ⟨w, ho, hF⟩ ls H locs hl hP hS
theorem r_goto {off : Int} (tgt : Nat) (X : CX x cc own d) (hd : decode cc pc = .ok (.goto off, 3)) (ht : (pc : Int) + off = (tgt : Int)) (kk : SIM x F o tgt lv st M) : SIM x F o pc lv (st) M := by
  obtain ⟨⟨p, l, e, R, s, m, args, below, meth, c⟩, g, Q, nL, cells, slots⟩ := x
  obtain ⟨hx, hb, hml, hown, hts, hR, hV, hZ, hJ⟩ := id X
  intro ho ls H locs hl hP hS
  exact lv_goto hx hb hd ht (kk ho ls H locs hl hP hS)
theorem r_to (lv2 : List (Nat × Value)) (ks : List Nat) (h : lv_pick lv ks = lv2) (kk : SIM x F o pc lv2 st M) : SIM x F o pc lv st M := fun ho ls H locs hl hP hS => kk ho ls H locs (lv_sub hl ks h) hP hS
end
/-- a field by its link: class, place, sort, type, final or not -/
def FL (own : String) (idx ci k srt : Nat) (tk : FieldType) (fin : Bool) : Prop := ∃ (C : String) (T : u_T) (N : Nat) (ty : Nat → FieldType), vwCl[ci]? = some (C, T, N) ∧ (∀ w ∈ u_ws C T N, w ∈ BG) ∧ (∀ k, k < N → parseFieldDescriptor (T k).2.2.1 = some (ty k)) ∧ (∀ a, a < N → ∀ b, b < N → a ≠ b → (T a).2.1 ≠ (T b).2.1) ∧ k < N ∧ (flds ci)[k]? = some (k, srt) ∧ parseFieldDescriptor (T k).2.2.1 = some tk ∧ (T k).2.2.2 = fin ∧ (Cond.fieldLink own idx (T k).1 (T k).2.1 (T k).2.2.1 ∈ BG ∨ ∃ host, Cond.fieldLinkNest own idx (T k).1 (T k).2.1 (T k).2.2.1 host ∈ NSW)
theorem fl_all : fldT.all (fun l => l.zipIdx.all (fun q => q.1.1 == q.2)) = true := by decide +kernel
theorem fl_idx {ci j : Nat} {q : Nat × Nat} (h : (flds ci)[j]? = some q) : q.1 = j := by
  unfold flds at h
  rw [List.getD_eq_getElem?_getD] at h
  cases hc : fldT[ci]? with
  | none => rw [hc] at h; simp at h
  | some l =>
    rw [hc] at h
    have h1 := List.all_eq_true.mp fl_all l (List.mem_of_getElem? hc)
    have h2 : (q, j) ∈ l.zipIdx := by
      rw [List.mem_zipIdx_iff_getElem?]
      exact h
    have h3 := List.all_eq_true.mp h1 _ h2
    simpa using h3
theorem fl_get {ad : Nat → Nat} {M : Mm} {a ci k srt : Nat} (h : (flds ci)[k]? = some (k, srt)) : ((flds ci).map (fv ad M a))[k]? = some (fv ad M a (k, srt)) := by
  rw [List.getElem?_map, h]
  rfl
theorem fl_len {ad : Nat → Nat} {M : Mm} {a ci k srt : Nat} (h : (flds ci)[k]? = some (k, srt)) : k < ((flds ci).map (fv ad M a)).length := by
  rw [List.length_map]
  exact (List.getElem?_eq_some_iff.mp h).1
theorem fl_set {ad : Nat → Nat} {M M1 : Mm} {a ci k srt : Nat} {v : Value} (h : (flds ci)[k]? = some (k, srt)) (hk : fv ad M1 a (k, srt) = v) (ho : ∀ j t, j ≠ k → fv ad M1 a (j, t) = fv ad M a (j, t)) : ((flds ci).map (fv ad M a)).set k v = (flds ci).map (fv ad M1 a) := by
  apply List.ext_getElem?
  intro j
  rw [List.getElem?_set, List.getElem?_map, List.getElem?_map]
  by_cases hj : k = j
  · subst hj
    rw [if_pos rfl, if_pos (fl_len h), h]
    exact congrArg some hk.symm
  · rw [if_neg hj]
    cases hq : (flds ci)[j]? with
    | none => rfl
    | some q =>
      obtain ⟨j2, t⟩ := q
      have := fl_idx hq
      subst this
      exact congrArg some (ho j2 t (fun e => hj e.symm)).symm
section
variable {α : Type} {x : SB} {F : α → Prop} {o : Option α} {cc : ByteArray} {own : String} {d pc : Nat} {lv : List (Nat × Value)} {st : List Value} {M : Mm}
theorem r_getI {idx ci k a : Nat} {tk : FieldType} {fin : Bool} {K : Int32 → Option α} (X : CX x cc own d) (hL : FL own idx ci k 0 tk fin) (hci : 10 + ci < 99) (ha : sh a = 10 + ci) (hd : decode cc pc = .ok (.getfield idx, 3)) (kk : ∀ v, SIM x F (K v) (pc + 3) lv (.int v :: st) M) : SIM x F (gfI M a k K) pc lv (rf x.2.1 a :: st) M := by
  obtain ⟨⟨p, l, e, R, s, m, args, below, meth, c⟩, g, Q, nL, cells, slots⟩ := x
  obtain ⟨hx, hb, hml, hown, hts, hR, hV, hZ, hJ⟩ := id X
  intro ho ls H locs hl hP hS
  obtain ⟨w, ho, hF⟩ := ho
  obtain ⟨C, T, N, ty, hc, hin, hty, hnm, hk, hf, htk, hfin, hlink⟩ := hL
  have he := wsM_at g.2.1 g.2.2.1 M (sh_lt (by rw [ha]; exact hci))
  rw [ent_obj ha] at he
  rcases hlink with hlink | ⟨host, hlink⟩
  · exact va_get hx hb hts hin hown hV.1 hP a he hc k hk (hts _ hlink) (fun _ h => h) (fl_get hf) hd (kk _ ⟨w, ho, hF⟩ ls H locs hl hP hS)
  · exact va_getN (host := host) hx hb hts hin hown hV.1 hP a he hc k hk (va_Nw.use (nest_on (List.mem_filter.mp hlink).2) (hV.2 _ hlink)) (fun _ h => h) (fl_get hf) hd (kk _ ⟨w, ho, hF⟩ ls H locs hl hP hS)
theorem r_getJ {idx ci k a : Nat} {tk : FieldType} {fin : Bool} {K : Int64 → Option α} (X : CX x cc own d) (hL : FL own idx ci k 1 tk fin) (hci : 10 + ci < 99) (ha : sh a = 10 + ci) (hd : decode cc pc = .ok (.getfield idx, 3)) (kk : ∀ v, SIM x F (K v) (pc + 3) lv (.long v :: st) M) : SIM x F (gfJ M a k K) pc lv (rf x.2.1 a :: st) M := by
  obtain ⟨⟨p, l, e, R, s, m, args, below, meth, c⟩, g, Q, nL, cells, slots⟩ := x
  obtain ⟨hx, hb, hml, hown, hts, hR, hV, hZ, hJ⟩ := id X
  intro ho ls H locs hl hP hS
  obtain ⟨w, ho, hF⟩ := ho
  obtain ⟨C, T, N, ty, hc, hin, hty, hnm, hk, hf, htk, hfin, hlink⟩ := hL
  have he := wsM_at g.2.1 g.2.2.1 M (sh_lt (by rw [ha]; exact hci))
  rw [ent_obj ha] at he
  rcases hlink with hlink | ⟨host, hlink⟩
  · exact va_get hx hb hts hin hown hV.1 hP a he hc k hk (hts _ hlink) (fun _ h => h) (fl_get hf) hd (kk _ ⟨w, ho, hF⟩ ls H locs hl hP hS)
  · exact va_getN (host := host) hx hb hts hin hown hV.1 hP a he hc k hk (va_Nw.use (nest_on (List.mem_filter.mp hlink).2) (hV.2 _ hlink)) (fun _ h => h) (fl_get hf) hd (kk _ ⟨w, ho, hF⟩ ls H locs hl hP hS)
theorem r_getR {idx ci k a : Nat} {tk : FieldType} {fin : Bool} {K : Nat → Option α} {k2 : Nat} (X : CX x cc own d) (hL : FL own idx ci k 2 tk fin) (hci : 10 + ci < 99) (ha : sh a = 10 + ci) (hd : decode cc pc = .ok (.getfield idx, 3)) (kk : ∀ v, sh v = k2 → SIM x F (K v) (pc + 3) lv (rf x.2.1 v :: st) M) : SIM x F (gfR M k2 a k K) pc lv (rf x.2.1 a :: st) M := by
  obtain ⟨⟨p, l, e, R, s, m, args, below, meth, c⟩, g, Q, nL, cells, slots⟩ := x
  obtain ⟨hx, hb, hml, hown, hts, hR, hV, hZ, hJ⟩ := id X
  intro ho ls H locs hl hP hS
  obtain ⟨w, ho, hF⟩ := ho
  unfold gfR at ho
  have hsh : sh (M.2.2 a k) = k2 := by
    by_cases h0 : sh (M.2.2 a k) = k2
    · exact h0
    · rw [if_neg h0] at ho
      cases ho
  rw [if_pos hsh] at ho
  obtain ⟨C, T, N, ty, hc, hin, hty, hnm, hk, hf, htk, hfin, hlink⟩ := hL
  have he := wsM_at g.2.1 g.2.2.1 M (sh_lt (by rw [ha]; exact hci))
  rw [ent_obj ha] at he
  rcases hlink with hlink | ⟨host, hlink⟩
  · exact va_get hx hb hts hin hown hV.1 hP a he hc k hk (hts _ hlink) (fun _ h => h) (fl_get hf) hd (kk _ hsh ⟨w, ho, hF⟩ ls H locs hl hP hS)
  · exact va_getN (host := host) hx hb hts hin hown hV.1 hP a he hc k hk (va_Nw.use (nest_on (List.mem_filter.mp hlink).2) (hV.2 _ hlink)) (fun _ h => h) (fl_get hf) hd (kk _ hsh ⟨w, ho, hF⟩ ls H locs hl hP hS)
theorem r_putI {idx ci k a : Nat} {tk : FieldType} {v : Int32} {K : Mm → Option α} (X : CX x cc own d) (hL : FL own idx ci k 0 tk false) (hci : 10 + ci < 99) (ha : sh a = 10 + ci) (hn : ∀ b : Nat, narrow tk (.int v) = .int v) (hfit : ∀ b : Nat, fits tk (.int v) = true) (hd : decode cc pc = .ok (.putfield idx, 3)) (kk : ∀ M1, SIM x F (K M1) (pc + 3) lv st M1) : SIM x F (pfI M a k v K) pc lv (.int v :: rf x.2.1 a :: st) M := by
  obtain ⟨⟨p, l, e, R, s, m, args, below, meth, c⟩, g, Q, nL, cells, slots⟩ := x
  obtain ⟨hx, hb, hml, hown, hts, hR, hV, hZ, hJ⟩ := id X
  intro ho ls H locs hl hP hS
  obtain ⟨C, T, N, ty, hc, hin, hty, hnm, hk, hf, htk, hfin, hlink⟩ := hL
  have he := wsM_at g.2.1 g.2.2.1 M (sh_lt (by rw [ha]; exact hci))
  rw [ent_obj ha] at he
  have hset : (wsM g.2.1 g.2.2.1 M).set a (g.2.1 a, .inr (ci, ((flds ci).map (fv g.2.1 M a)).set k (.int v))) = wsM g.2.1 g.2.2.1 (wI M a k v) := by
    refine wsM_set _ _ _ _ ?_ (fun b hb => ent_off ?_ ?_ ?_)
    · rw [ent_obj ha, fl_set (M1 := wI M a k v) hf (by simp [fv, wI]) (fun j t hj => by unfold fv; simp [wI, hj])]
    · exact wI_ne hb
    · rfl
    · rfl
  rcases hlink with hlink | ⟨host, hlink⟩
  · refine va_put hx hb hts hin ty hty hnm hown hV.1 hP (wsM_D hJ M) hS a he hc k hk (hts _ hlink) (fun _ h => h) hfin htk (hn 0) (hfit 0) (fl_len hf) hd (fun H1 locs1 hP1 _ hS1 => ?_)
    rw [hset] at hP1
    exact kk _ ho ls H1 locs1 hl hP1 hS1
  · refine va_putN (host := host) hx hb hts hin ty hty hnm hown hV.1 hP (wsM_D hJ M) hS a he hc k hk (va_Nw.use (nest_on (List.mem_filter.mp hlink).2) (hV.2 _ hlink)) (fun _ h => h) hfin htk (hn 0) (hfit 0) (fl_len hf) hd (fun H1 locs1 hP1 _ hS1 => ?_)
    rw [hset] at hP1
    exact kk _ ho ls H1 locs1 hl hP1 hS1
theorem r_putJ {idx ci k a : Nat} {tk : FieldType} {v : Int64} {K : Mm → Option α} (X : CX x cc own d) (hL : FL own idx ci k 1 tk false) (hci : 10 + ci < 99) (ha : sh a = 10 + ci) (hn : ∀ b : Nat, narrow tk (.long v) = .long v) (hfit : ∀ b : Nat, fits tk (.long v) = true) (hd : decode cc pc = .ok (.putfield idx, 3)) (kk : ∀ M1, SIM x F (K M1) (pc + 3) lv st M1) : SIM x F (pfJ M a k v K) pc lv (.long v :: rf x.2.1 a :: st) M := by
  obtain ⟨⟨p, l, e, R, s, m, args, below, meth, c⟩, g, Q, nL, cells, slots⟩ := x
  obtain ⟨hx, hb, hml, hown, hts, hR, hV, hZ, hJ⟩ := id X
  intro ho ls H locs hl hP hS
  obtain ⟨C, T, N, ty, hc, hin, hty, hnm, hk, hf, htk, hfin, hlink⟩ := hL
  have he := wsM_at g.2.1 g.2.2.1 M (sh_lt (by rw [ha]; exact hci))
  rw [ent_obj ha] at he
  have hset : (wsM g.2.1 g.2.2.1 M).set a (g.2.1 a, .inr (ci, ((flds ci).map (fv g.2.1 M a)).set k (.long v))) = wsM g.2.1 g.2.2.1 (wJ M a k v) := by
    refine wsM_set _ _ _ _ ?_ (fun b hb => ent_off ?_ ?_ ?_)
    · rw [ent_obj ha, fl_set (M1 := wJ M a k v) hf (by simp [fv, wJ]) (fun j t hj => by unfold fv; simp [wJ, hj])]
    · rfl
    · exact wJ_ne hb
    · rfl
  rcases hlink with hlink | ⟨host, hlink⟩
  · refine va_put hx hb hts hin ty hty hnm hown hV.1 hP (wsM_D hJ M) hS a he hc k hk (hts _ hlink) (fun _ h => h) hfin htk (hn 0) (hfit 0) (fl_len hf) hd (fun H1 locs1 hP1 _ hS1 => ?_)
    rw [hset] at hP1
    exact kk _ ho ls H1 locs1 hl hP1 hS1
  · refine va_putN (host := host) hx hb hts hin ty hty hnm hown hV.1 hP (wsM_D hJ M) hS a he hc k hk (va_Nw.use (nest_on (List.mem_filter.mp hlink).2) (hV.2 _ hlink)) (fun _ h => h) hfin htk (hn 0) (hfit 0) (fl_len hf) hd (fun H1 locs1 hP1 _ hS1 => ?_)
    rw [hset] at hP1
    exact kk _ ho ls H1 locs1 hl hP1 hS1
theorem r_putR {idx ci k a : Nat} {tk : FieldType} {v : Nat} {K : Mm → Option α} (X : CX x cc own d) (hL : FL own idx ci k 2 tk false) (hci : 10 + ci < 99) (ha : sh a = 10 + ci) (hn : ∀ b : Nat, narrow tk (.ref b) = .ref b) (hfit : ∀ b : Nat, fits tk (.ref b) = true) (hd : decode cc pc = .ok (.putfield idx, 3)) (kk : ∀ M1, SIM x F (K M1) (pc + 3) lv st M1) : SIM x F (pfR M a k v K) pc lv (rf x.2.1 v :: rf x.2.1 a :: st) M := by
  obtain ⟨⟨p, l, e, R, s, m, args, below, meth, c⟩, g, Q, nL, cells, slots⟩ := x
  obtain ⟨hx, hb, hml, hown, hts, hR, hV, hZ, hJ⟩ := id X
  intro ho ls H locs hl hP hS
  obtain ⟨C, T, N, ty, hc, hin, hty, hnm, hk, hf, htk, hfin, hlink⟩ := hL
  have he := wsM_at g.2.1 g.2.2.1 M (sh_lt (by rw [ha]; exact hci))
  rw [ent_obj ha] at he
  have hset : (wsM g.2.1 g.2.2.1 M).set a (g.2.1 a, .inr (ci, ((flds ci).map (fv g.2.1 M a)).set k (rf g v))) = wsM g.2.1 g.2.2.1 (wR M a k v) := by
    refine wsM_set _ _ _ _ ?_ (fun b hb => ent_off ?_ ?_ ?_)
    · rw [ent_obj ha, fl_set (M1 := wR M a k v) hf (by simp [fv, wR]) (fun j t hj => by unfold fv; simp [wR, hj])]
    · rfl
    · rfl
    · exact wR_ne hb
  rcases hlink with hlink | ⟨host, hlink⟩
  · refine va_put hx hb hts hin ty hty hnm hown hV.1 hP (wsM_D hJ M) hS a he hc k hk (hts _ hlink) (fun _ h => h) hfin htk (hn (g.2.1 v)) (hfit (g.2.1 v)) (fl_len hf) hd (fun H1 locs1 hP1 _ hS1 => ?_)
    rw [hset] at hP1
    exact kk _ ho ls H1 locs1 hl hP1 hS1
  · refine va_putN (host := host) hx hb hts hin ty hty hnm hown hV.1 hP (wsM_D hJ M) hS a he hc k hk (va_Nw.use (nest_on (List.mem_filter.mp hlink).2) (hV.2 _ hlink)) (fun _ h => h) hfin htk (hn (g.2.1 v)) (hfit (g.2.1 v)) (fl_len hf) hd (fun H1 locs1 hP1 _ hS1 => ?_)
    rw [hset] at hP1
    exact kk _ ho ls H1 locs1 hl hP1 hS1
theorem r_iald {a : Nat} {i : Int32} {K : Int32 → Option α} (X : CX x cc own d) (ha : sh a = 0) (hd : decode cc pc = .ok (.iaload, 1)) (kk : ∀ v, SIM x F (K v) (pc + 1) lv (.int v :: st) M) : SIM x F (ldI M a i K) pc lv (.int i :: rf x.2.1 a :: st) M := by
  obtain ⟨⟨p, l, e, R, s, m, args, below, meth, c⟩, g, Q, nL, cells, slots⟩ := x
  obtain ⟨hx, hb, hml, hown, hts, hR, hV, hZ, hJ⟩ := id X
  intro ho ls H locs hl hP hS
  obtain ⟨w, ho, hF⟩ := ho
  unfold ldI at ho
  by_cases h0 : ¬ (i < 0 ∨ ln a ≤ i.toNatClampNeg)
  · rw [if_pos h0] at ho
    have he := wsM_at g.2.1 g.2.2.1 M (sh_lt (by rw [ha]; decide))
    rw [ent_arr ha (by decide)] at he
    exact va_iald hx hb hV.1 hP a 0 he rfl h0 hd (kk _ ⟨w, ho, hF⟩ ls H locs hl hP hS)
  · rw [if_neg h0] at ho
    cases ho
theorem r_bald {a : Nat} {i : Int32} {K : Int32 → Option α} (X : CX x cc own d) (ha : sh a = 1) (hd : decode cc pc = .ok (.baload, 1)) (kk : ∀ v, SIM x F (K v) (pc + 1) lv (.int v :: st) M) : SIM x F (ldI M a i K) pc lv (.int i :: rf x.2.1 a :: st) M := by
  obtain ⟨⟨p, l, e, R, s, m, args, below, meth, c⟩, g, Q, nL, cells, slots⟩ := x
  obtain ⟨hx, hb, hml, hown, hts, hR, hV, hZ, hJ⟩ := id X
  intro ho ls H locs hl hP hS
  obtain ⟨w, ho, hF⟩ := ho
  unfold ldI at ho
  by_cases h0 : ¬ (i < 0 ∨ ln a ≤ i.toNatClampNeg)
  · rw [if_pos h0] at ho
    have he := wsM_at g.2.1 g.2.2.1 M (sh_lt (by rw [ha]; decide))
    rw [ent_arr ha (by decide)] at he
    exact va_bald hx hb hV.1 hP a 1 he rfl h0 hd (kk _ ⟨w, ho, hF⟩ ls H locs hl hP hS)
  · rw [if_neg h0] at ho
    cases ho
theorem r_zald {a : Nat} {i : Int32} {K : Int32 → Option α} (X : CX x cc own d) (ha : sh a = 2) (hd : decode cc pc = .ok (.baload, 1)) (kk : ∀ v, SIM x F (K v) (pc + 1) lv (.int v :: st) M) : SIM x F (ldI M a i K) pc lv (.int i :: rf x.2.1 a :: st) M := by
  obtain ⟨⟨p, l, e, R, s, m, args, below, meth, c⟩, g, Q, nL, cells, slots⟩ := x
  obtain ⟨hx, hb, hml, hown, hts, hR, hV, hZ, hJ⟩ := id X
  intro ho ls H locs hl hP hS
  obtain ⟨w, ho, hF⟩ := ho
  unfold ldI at ho
  by_cases h0 : ¬ (i < 0 ∨ ln a ≤ i.toNatClampNeg)
  · rw [if_pos h0] at ho
    have he := wsM_at g.2.1 g.2.2.1 M (sh_lt (by rw [ha]; decide))
    rw [ent_arr ha (by decide)] at he
    exact va_zald hx hb hV.1 hP a 2 he rfl h0 hd (kk _ ⟨w, ho, hF⟩ ls H locs hl hP hS)
  · rw [if_neg h0] at ho
    cases ho
theorem r_iast {a : Nat} {i v : Int32} {K : Mm → Option α} (X : CX x cc own d) (ha : sh a = 0) (hd : decode cc pc = .ok (.iastore, 1)) (kk : ∀ M1, SIM x F (K M1) (pc + 1) lv st M1) : SIM x F (stI M a i v K) pc lv (.int v :: .int i :: rf x.2.1 a :: st) M := by
  obtain ⟨⟨p, l, e, R, s, m, args, below, meth, c⟩, g, Q, nL, cells, slots⟩ := x
  obtain ⟨hx, hb, hml, hown, hts, hR, hV, hZ, hJ⟩ := id X
  intro ho ls H locs hl hP hS
  obtain ⟨w, ho, hF⟩ := ho
  unfold stI at ho
  by_cases h0 : ¬ (i < 0 ∨ ln a ≤ i.toNatClampNeg)
  · rw [if_pos h0] at ho
    have he := wsM_at g.2.1 g.2.2.1 M (sh_lt (by rw [ha]; decide))
    rw [ent_arr ha (by decide)] at he
    have hset : (wsM g.2.1 g.2.2.1 M).set a (g.2.1 a, .inl (g.2.2.1 0, ln a, .inl (upd (M.1 a) i.toNatClampNeg v))) = wsM g.2.1 g.2.2.1 (wI M a i.toNatClampNeg v) := by
      refine wsM_set _ _ _ _ ?_ (fun b hb => ent_off (wI_ne hb) rfl rfl)
      rw [ent_arr ha (by decide), wI_eq]
    refine va_iast hx hb hV.1 hP (wsM_D hJ M) hS a 0 he rfl h0 hd (fun H1 locs1 hP1 _ hS1 => ?_)
    rw [hset] at hP1
    exact kk _ ⟨w, ho, hF⟩ ls H1 locs1 hl hP1 hS1
  · rw [if_neg h0] at ho
    cases ho
theorem r_bast {a : Nat} {i v : Int32} {K : Mm → Option α} (X : CX x cc own d) (ha : sh a = 1) (hd : decode cc pc = .ok (.bastore, 1)) (kk : ∀ M1, SIM x F (K M1) (pc + 1) lv st M1) : SIM x F (stI M a i (vp_nar .byte v) K) pc lv (.int v :: .int i :: rf x.2.1 a :: st) M := by
  obtain ⟨⟨p, l, e, R, s, m, args, below, meth, c⟩, g, Q, nL, cells, slots⟩ := x
  obtain ⟨hx, hb, hml, hown, hts, hR, hV, hZ, hJ⟩ := id X
  intro ho ls H locs hl hP hS
  obtain ⟨w, ho, hF⟩ := ho
  unfold stI at ho
  by_cases h0 : ¬ (i < 0 ∨ ln a ≤ i.toNatClampNeg)
  · rw [if_pos h0] at ho
    have he := wsM_at g.2.1 g.2.2.1 M (sh_lt (by rw [ha]; decide))
    rw [ent_arr ha (by decide)] at he
    have hset : (wsM g.2.1 g.2.2.1 M).set a (g.2.1 a, .inl (g.2.2.1 1, ln a, .inl (upd (M.1 a) i.toNatClampNeg (vp_nar .byte v)))) = wsM g.2.1 g.2.2.1 (wI M a i.toNatClampNeg (vp_nar .byte v)) := by
      refine wsM_set _ _ _ _ ?_ (fun b hb => ent_off (wI_ne hb) rfl rfl)
      rw [ent_arr ha (by decide), wI_eq]
    refine va_bast hx hb hV.1 hP (wsM_D hJ M) hS a 1 he rfl h0 hd (fun H1 locs1 hP1 _ hS1 => ?_)
    rw [hset] at hP1
    exact kk _ ⟨w, ho, hF⟩ ls H1 locs1 hl hP1 hS1
  · rw [if_neg h0] at ho
    cases ho
theorem r_zast {a : Nat} {i v : Int32} {K : Mm → Option α} (X : CX x cc own d) (ha : sh a = 2) (hd : decode cc pc = .ok (.bastore, 1)) (kk : ∀ M1, SIM x F (K M1) (pc + 1) lv st M1) : SIM x F (stI M a i (vp_nar .boolean v) K) pc lv (.int v :: .int i :: rf x.2.1 a :: st) M := by
  obtain ⟨⟨p, l, e, R, s, m, args, below, meth, c⟩, g, Q, nL, cells, slots⟩ := x
  obtain ⟨hx, hb, hml, hown, hts, hR, hV, hZ, hJ⟩ := id X
  intro ho ls H locs hl hP hS
  obtain ⟨w, ho, hF⟩ := ho
  unfold stI at ho
  by_cases h0 : ¬ (i < 0 ∨ ln a ≤ i.toNatClampNeg)
  · rw [if_pos h0] at ho
    have he := wsM_at g.2.1 g.2.2.1 M (sh_lt (by rw [ha]; decide))
    rw [ent_arr ha (by decide)] at he
    have hset : (wsM g.2.1 g.2.2.1 M).set a (g.2.1 a, .inl (g.2.2.1 2, ln a, .inl (upd (M.1 a) i.toNatClampNeg (vp_nar .boolean v)))) = wsM g.2.1 g.2.2.1 (wI M a i.toNatClampNeg (vp_nar .boolean v)) := by
      refine wsM_set _ _ _ _ ?_ (fun b hb => ent_off (wI_ne hb) rfl rfl)
      rw [ent_arr ha (by decide), wI_eq]
    refine va_zast hx hb hV.1 hP (wsM_D hJ M) hS a 2 he rfl h0 hd (fun H1 locs1 hP1 _ hS1 => ?_)
    rw [hset] at hP1
    exact kk _ ⟨w, ho, hF⟩ ls H1 locs1 hl hP1 hS1
  · rw [if_neg h0] at ho
    cases ho
theorem r_aldS {k2 a : Nat} {i : Int32} {K : Nat → Option α} (X : CX x cc own d) (ha : sh a = 3) (hd : decode cc pc = .ok (.aaload, 1)) (kk : ∀ v, sh v = k2 → SIM x F (K v) (pc + 1) lv (rf x.2.1 v :: st) M) : SIM x F (ldR M k2 a i K) pc lv (.int i :: rf x.2.1 a :: st) M := by
  obtain ⟨⟨p, l, e, R, s, m, args, below, meth, c⟩, g, Q, nL, cells, slots⟩ := x
  obtain ⟨hx, hb, hml, hown, hts, hR, hV, hZ, hJ⟩ := id X
  intro ho ls H locs hl hP hS
  obtain ⟨w, ho, hF⟩ := ho
  unfold ldR at ho
  by_cases h0 : ¬ (i < 0 ∨ ln a ≤ i.toNatClampNeg) ∧ sh (M.2.2 a i.toNatClampNeg) = k2
  · rw [if_pos h0] at ho
    have he := wsM_at g.2.1 g.2.2.1 M (sh_lt (by rw [ha]; decide))
    rw [ent_rarr ha (by decide) (by decide)] at he
    have hlt : i.toNatClampNeg < ln a := Nat.not_le.mp fun q => h0.1 (Or.inr q)
    exact W.aald (v := rf g (M.2.2 a i.toNatClampNeg)) (ty := (.object "CrumbWood$Strip")) hx hb (hP a _ he) ((hV.1.2 3 _ rfl).1 (ln a) (fun j => va_rf (some (g.2.1 (M.2.2 a j))))) rfl (fun q => by cases q) (by show ¬ (i < 0 ∨ (arrV _ _ _).slots.size ≤ _); rw [arrV_size]; exact h0.1) (by show (arrV _ _ _).slots[_]? = _; rw [arrV_read _ _ hlt]; rfl) rfl rfl hd (kk _ h0.2 ⟨w, ho, hF⟩ ls H locs hl hP hS)
  · rw [if_neg h0] at ho
    cases ho
theorem r_alenS {a : Nat} (X : CX x cc own d) (ha : sh a = 3) (hd : decode cc pc = .ok (.arraylength, 1)) (kk : SIM x F o (pc + 1) lv (.int (Int32.ofNat (ln a)) :: st) M) : SIM x F o pc lv (rf x.2.1 a :: st) M := by
  obtain ⟨⟨p, l, e, R, s, m, args, below, meth, c⟩, g, Q, nL, cells, slots⟩ := x
  obtain ⟨hx, hb, hml, hown, hts, hR, hV, hZ, hJ⟩ := id X
  intro ho ls H locs hl hP hS
  have he := wsM_at g.2.1 g.2.2.1 M (sh_lt (by rw [ha]; decide))
  rw [ent_rarr ha (by decide) (by decide)] at he
  exact va_alen hx hb hV.1 hP a 3 he (ty := (.object "CrumbWood$Strip")) rfl rfl hd (kk ho ls H locs hl hP hS)
theorem r_aldW {k2 a : Nat} {i : Int32} {K : Nat → Option α} (X : CX x cc own d) (ha : sh a = 4) (hd : decode cc pc = .ok (.aaload, 1)) (kk : ∀ v, sh v = k2 → SIM x F (K v) (pc + 1) lv (rf x.2.1 v :: st) M) : SIM x F (ldR M k2 a i K) pc lv (.int i :: rf x.2.1 a :: st) M := by
  obtain ⟨⟨p, l, e, R, s, m, args, below, meth, c⟩, g, Q, nL, cells, slots⟩ := x
  obtain ⟨hx, hb, hml, hown, hts, hR, hV, hZ, hJ⟩ := id X
  intro ho ls H locs hl hP hS
  obtain ⟨w, ho, hF⟩ := ho
  unfold ldR at ho
  by_cases h0 : ¬ (i < 0 ∨ ln a ≤ i.toNatClampNeg) ∧ sh (M.2.2 a i.toNatClampNeg) = k2
  · rw [if_pos h0] at ho
    have he := wsM_at g.2.1 g.2.2.1 M (sh_lt (by rw [ha]; decide))
    rw [ent_rarr ha (by decide) (by decide)] at he
    have hlt : i.toNatClampNeg < ln a := Nat.not_le.mp fun q => h0.1 (Or.inr q)
    exact W.aald (v := rf g (M.2.2 a i.toNatClampNeg)) (ty := (.object "CrumbWood$Wood")) hx hb (hP a _ he) ((hV.1.2 4 _ rfl).1 (ln a) (fun j => va_rf (some (g.2.1 (M.2.2 a j))))) rfl (fun q => by cases q) (by show ¬ (i < 0 ∨ (arrV _ _ _).slots.size ≤ _); rw [arrV_size]; exact h0.1) (by show (arrV _ _ _).slots[_]? = _; rw [arrV_read _ _ hlt]; rfl) rfl rfl hd (kk _ h0.2 ⟨w, ho, hF⟩ ls H locs hl hP hS)
  · rw [if_neg h0] at ho
    cases ho
theorem r_alenW {a : Nat} (X : CX x cc own d) (ha : sh a = 4) (hd : decode cc pc = .ok (.arraylength, 1)) (kk : SIM x F o (pc + 1) lv (.int (Int32.ofNat (ln a)) :: st) M) : SIM x F o pc lv (rf x.2.1 a :: st) M := by
  obtain ⟨⟨p, l, e, R, s, m, args, below, meth, c⟩, g, Q, nL, cells, slots⟩ := x
  obtain ⟨hx, hb, hml, hown, hts, hR, hV, hZ, hJ⟩ := id X
  intro ho ls H locs hl hP hS
  have he := wsM_at g.2.1 g.2.2.1 M (sh_lt (by rw [ha]; decide))
  rw [ent_rarr ha (by decide) (by decide)] at he
  exact va_alen hx hb hV.1 hP a 4 he (ty := (.object "CrumbWood$Wood")) rfl rfl hd (kk ho ls H locs hl hP hS)
theorem r_aldA {k2 a : Nat} {i : Int32} {K : Nat → Option α} (X : CX x cc own d) (ha : sh a = 5) (hd : decode cc pc = .ok (.aaload, 1)) (kk : ∀ v, sh v = k2 → SIM x F (K v) (pc + 1) lv (rf x.2.1 v :: st) M) : SIM x F (ldR M k2 a i K) pc lv (.int i :: rf x.2.1 a :: st) M := by
  obtain ⟨⟨p, l, e, R, s, m, args, below, meth, c⟩, g, Q, nL, cells, slots⟩ := x
  obtain ⟨hx, hb, hml, hown, hts, hR, hV, hZ, hJ⟩ := id X
  intro ho ls H locs hl hP hS
  obtain ⟨w, ho, hF⟩ := ho
  unfold ldR at ho
  by_cases h0 : ¬ (i < 0 ∨ ln a ≤ i.toNatClampNeg) ∧ sh (M.2.2 a i.toNatClampNeg) = k2
  · rw [if_pos h0] at ho
    have he := wsM_at g.2.1 g.2.2.1 M (sh_lt (by rw [ha]; decide))
    rw [ent_rarr ha (by decide) (by decide)] at he
    have hlt : i.toNatClampNeg < ln a := Nat.not_le.mp fun q => h0.1 (Or.inr q)
    exact W.aald (v := rf g (M.2.2 a i.toNatClampNeg)) (ty := (.array .int)) hx hb (hP a _ he) ((hV.1.2 5 _ rfl).1 (ln a) (fun j => va_rf (some (g.2.1 (M.2.2 a j))))) rfl (fun q => by cases q) (by show ¬ (i < 0 ∨ (arrV _ _ _).slots.size ≤ _); rw [arrV_size]; exact h0.1) (by show (arrV _ _ _).slots[_]? = _; rw [arrV_read _ _ hlt]; rfl) rfl rfl hd (kk _ h0.2 ⟨w, ho, hF⟩ ls H locs hl hP hS)
  · rw [if_neg h0] at ho
    cases ho
theorem r_alenA {a : Nat} (X : CX x cc own d) (ha : sh a = 5) (hd : decode cc pc = .ok (.arraylength, 1)) (kk : SIM x F o (pc + 1) lv (.int (Int32.ofNat (ln a)) :: st) M) : SIM x F o pc lv (rf x.2.1 a :: st) M := by
  obtain ⟨⟨p, l, e, R, s, m, args, below, meth, c⟩, g, Q, nL, cells, slots⟩ := x
  obtain ⟨hx, hb, hml, hown, hts, hR, hV, hZ, hJ⟩ := id X
  intro ho ls H locs hl hP hS
  have he := wsM_at g.2.1 g.2.2.1 M (sh_lt (by rw [ha]; decide))
  rw [ent_rarr ha (by decide) (by decide)] at he
  exact va_alen hx hb hV.1 hP a 5 he (ty := (.array .int)) rfl rfl hd (kk ho ls H locs hl hP hS)
theorem r_alenI {a : Nat} (X : CX x cc own d) (ha : sh a = 0) (hd : decode cc pc = .ok (.arraylength, 1)) (kk : SIM x F o (pc + 1) lv (.int (Int32.ofNat (ln a)) :: st) M) : SIM x F o pc lv (rf x.2.1 a :: st) M := by
  obtain ⟨⟨p, l, e, R, s, m, args, below, meth, c⟩, g, Q, nL, cells, slots⟩ := x
  obtain ⟨hx, hb, hml, hown, hts, hR, hV, hZ, hJ⟩ := id X
  intro ho ls H locs hl hP hS
  have he := wsM_at g.2.1 g.2.2.1 M (sh_lt (by rw [ha]; decide))
  rw [ent_arr ha (by decide)] at he
  exact va_alen hx hb hV.1 hP a 0 he (ty := .int) rfl rfl hd (kk ho ls H locs hl hP hS)
theorem r_gets0 {idx : Nat} {host : String} (X : CX x cc own d) (hl0 : Cond.fieldLinkNest own idx "CrumbWood" "LETTERS" "[I" host ∈ NSW) (hd : decode cc pc = .ok (.getstatic idx, 3)) (kk : SIM x F o (pc + 3) lv (rf x.2.1 (NW + 0) :: st) M) : SIM x F o pc lv (st) M := by
  obtain ⟨⟨p, l, e, R, s, m, args, below, meth, c⟩, g, Q, nL, cells, slots⟩ := x
  obtain ⟨hx, hb, hml, hown, hts, hR, hV, hZ, hJ⟩ := id X
  intro ho ls H locs hl hP hS
  exact va_getsN (host := host) (v := rf g (NW + 0)) hx hb hZ.1.1 hS hown (va_Nw.use (nest_on (List.mem_filter.mp hl0).2) (hV.2 _ hl0)) (fun _ h => h) hd (kk ho ls H locs hl hP hS)
theorem r_ilds0 {i : Int32} {K : Int32 → Option α} (X : CX x cc own d) (hd : decode cc pc = .ok (.iaload, 1)) (kk : ∀ v, SIM x F (K v) (pc + 1) lv (.int v :: st) M) : SIM x F (ldS let1 6 i K) pc lv (.int i :: rf x.2.1 (NW + 0) :: st) M := by
  obtain ⟨⟨p, l, e, R, s, m, args, below, meth, c⟩, g, Q, nL, cells, slots⟩ := x
  obtain ⟨hx, hb, hml, hown, hts, hR, hV, hZ, hJ⟩ := id X
  intro ho ls H locs hl hP hS
  obtain ⟨w, ho, hF⟩ := ho
  unfold ldS at ho
  by_cases h0 : ¬ (i < 0 ∨ 6 ≤ i.toNatClampNeg)
  · rw [if_pos h0] at ho
    obtain ⟨cell, h1, h2, h3, h4, h5, h6, h7⟩ := hZ.1.2
    have hlt : i.toNatClampNeg < 6 := Nat.not_le.mp fun q => h0 (Or.inr q)
    exact W.iald (v := .int (let1 i.toNatClampNeg)) hx hb (by rw [hS.2.1 _ (Array.getElem?_eq_some_iff.mp h1).1 h7]; exact h1) h2 h3 (fun q => q.elim (fun q => h0 (Or.inl q)) (fun q => h0 (Or.inr (Nat.le_trans h4 q)))) (h6 _ hlt) rfl rfl hd (kk _ ⟨w, ho, hF⟩ ls H locs hl hP hS)
  · rw [if_neg h0] at ho
    cases ho
theorem r_gets1 {idx : Nat} {host : String} (X : CX x cc own d) (hl0 : Cond.fieldLinkNest own idx "CrumbWood" "PARENTS" "[I" host ∈ NSW) (hd : decode cc pc = .ok (.getstatic idx, 3)) (kk : SIM x F o (pc + 3) lv (rf x.2.1 (NW + 1) :: st) M) : SIM x F o pc lv (st) M := by
  obtain ⟨⟨p, l, e, R, s, m, args, below, meth, c⟩, g, Q, nL, cells, slots⟩ := x
  obtain ⟨hx, hb, hml, hown, hts, hR, hV, hZ, hJ⟩ := id X
  intro ho ls H locs hl hP hS
  exact va_getsN (host := host) (v := rf g (NW + 1)) hx hb hZ.2.1 hS hown (va_Nw.use (nest_on (List.mem_filter.mp hl0).2) (hV.2 _ hl0)) (fun _ h => h) hd (kk ho ls H locs hl hP hS)
theorem r_ilds1 {i : Int32} {K : Int32 → Option α} (X : CX x cc own d) (hd : decode cc pc = .ok (.iaload, 1)) (kk : ∀ v, SIM x F (K v) (pc + 1) lv (.int v :: st) M) : SIM x F (ldS par1 6 i K) pc lv (.int i :: rf x.2.1 (NW + 1) :: st) M := by
  obtain ⟨⟨p, l, e, R, s, m, args, below, meth, c⟩, g, Q, nL, cells, slots⟩ := x
  obtain ⟨hx, hb, hml, hown, hts, hR, hV, hZ, hJ⟩ := id X
  intro ho ls H locs hl hP hS
  obtain ⟨w, ho, hF⟩ := ho
  unfold ldS at ho
  by_cases h0 : ¬ (i < 0 ∨ 6 ≤ i.toNatClampNeg)
  · rw [if_pos h0] at ho
    obtain ⟨cell, h1, h2, h3, h4, h5, h6, h7⟩ := hZ.2.2
    have hlt : i.toNatClampNeg < 6 := Nat.not_le.mp fun q => h0 (Or.inr q)
    exact W.iald (v := .int (par1 i.toNatClampNeg)) hx hb (by rw [hS.2.1 _ (Array.getElem?_eq_some_iff.mp h1).1 h7]; exact h1) h2 h3 (fun q => q.elim (fun q => h0 (Or.inl q)) (fun q => h0 (Or.inr (Nat.le_trans h4 q)))) (h6 _ hlt) rfl rfl hd (kk _ ⟨w, ho, hF⟩ ls H locs hl hP hS)
  · rw [if_neg h0] at ho
    cases ho
end

/-! SWITCHES, calls by the sort of the answer, loops' heads -/
theorem i32_ne {y k : Int32} {n : Int} (h : ¬ y = k) (hk : k.toInt = n) : ¬ y.toInt = n := fun e => h (Int32.toInt_inj.mp (e.trans hk.symm))
theorem nlt {a b n : Nat} (h : a = b) (h2 : n < b) : n < a := h ▸ h2
section
variable {α β : Type} {x : SB} {F : α → Prop} {o : Option α} {cc : ByteArray} {own : String} {d pc : Nat} {lv : List (Nat × Value)} {st : List Value} {M : Mm}
theorem r_tsw {dflt lo hi off : Int} {offs : Array Int} {len : Nat} {y : Int32} {o1 o2 : Option α} (k : Int32) (tgt : Nat) (X : CX x cc own d) (hd : decode cc pc = .ok (.tableswitch dflt lo hi offs, len)) (h1 : ¬ k.toInt < lo) (h2 : ¬ hi < k.toInt) (hof : offs[(k.toInt - lo).toNat]? = some off) (ht : (pc : Int) + off = (tgt : Int)) (kt : SIM x F o1 tgt lv st M) (kf : ¬ y = k → SIM x F o2 pc lv (.int y :: st) M) : SIM x F (if y = k then o1 else o2) pc lv (.int y :: st) M := by
  obtain ⟨⟨p, l, e, R, s, m, args, below, meth, c⟩, g, Q, nL, cells, slots⟩ := x
  obtain ⟨hx, hb, hml, hown, hts, hR, hV, hZ, hJ⟩ := id X
  intro ho ls H locs hl hP hS
  obtain ⟨w, ho, hF⟩ := ho
  by_cases h0 : y = k
  · rw [if_pos h0] at ho
    subst h0
    exact lv_tableIn hx hb hd h1 h2 hof ht (kt ⟨w, ho, hF⟩ ls H locs hl hP hS)
  · rw [if_neg h0] at ho
    exact kf h0 ⟨w, ho, hF⟩ ls H locs hl hP hS
theorem r_tswd {dflt lo hi : Int} {offs : Array Int} {len : Nat} {y : Int32} (tgt : Nat) (X : CX x cc own d) (hd : decode cc pc = .ok (.tableswitch dflt lo hi offs, len)) (h : y.toInt < lo ∨ hi < y.toInt) (ht : (pc : Int) + dflt = (tgt : Int)) (kk : SIM x F o tgt lv st M) : SIM x F o pc lv (.int y :: st) M := by
  obtain ⟨⟨p, l, e, R, s, m, args, below, meth, c⟩, g, Q, nL, cells, slots⟩ := x
  obtain ⟨hx, hb, hml, hown, hts, hR, hV, hZ, hJ⟩ := id X
  intro ho ls H locs hl hP hS
  exact lv_tableOut hx hb hd h ht (kk ho ls H locs hl hP hS)
theorem r_lsw {dflt off : Int} {ps : Array (Int × Int)} {len : Nat} {y : Int32} {o1 o2 : Option α} (k : Int32) (tgt : Nat) (X : CX x cc own d) (hd : decode cc pc = .ok (.lookupswitch dflt ps, len)) (hp : (ps.toList.zip (ps.toList.drop 1)).all (fun (a, next) => a.1 < next.1) = true) (hof : Op.lookupswitch.offset ps.toList dflt k.toInt = off) (ht : (pc : Int) + off = (tgt : Int)) (kt : SIM x F o1 tgt lv st M) (kf : ¬ y = k → SIM x F o2 pc lv (.int y :: st) M) : SIM x F (if y = k then o1 else o2) pc lv (.int y :: st) M := by
  obtain ⟨⟨p, l, e, R, s, m, args, below, meth, c⟩, g, Q, nL, cells, slots⟩ := x
  obtain ⟨hx, hb, hml, hown, hts, hR, hV, hZ, hJ⟩ := id X
  intro ho ls H locs hl hP hS
  obtain ⟨w, ho, hF⟩ := ho
  by_cases h0 : y = k
  · rw [if_pos h0] at ho
    subst h0
    exact lv_lookup hx hb hd hp hof ht (kt ⟨w, ho, hF⟩ ls H locs hl hP hS)
  · rw [if_neg h0] at ho
    exact kf h0 ⟨w, ho, hF⟩ ls H locs hl hP hS
theorem r_lswd {dflt : Int} {ps : Array (Int × Int)} {len : Nat} {y : Int32} (tgt : Nat) (X : CX x cc own d) (hd : decode cc pc = .ok (.lookupswitch dflt ps, len)) (hp : (ps.toList.zip (ps.toList.drop 1)).all (fun (a, next) => a.1 < next.1) = true) (hof : Op.lookupswitch.offset ps.toList dflt y.toInt = dflt) (ht : (pc : Int) + dflt = (tgt : Int)) (kk : SIM x F o tgt lv st M) : SIM x F o pc lv (.int y :: st) M := by
  obtain ⟨⟨p, l, e, R, s, m, args, below, meth, c⟩, g, Q, nL, cells, slots⟩ := x
  obtain ⟨hx, hb, hml, hown, hts, hR, hV, hZ, hJ⟩ := id X
  intro ho ls H locs hl hP hS
  exact lv_lookup hx hb hd hp hof ht (kk ho ls H locs hl hP hS)
theorem r_callVI {f : Option (Int32 × Mm)} {K : Int32 → Mm → Option α} {idx ci a dc maxL n : Nat} {y : MethodName} {cy : ByteArray} {ret : Option FieldType} (As : List Value) (X : CX x cc own d) (hM : MV own idx ci y cy maxL ret n) (hci : 10 + ci < 99) (ha : sh a = 10 + ci) (hdd : dc + 1 ≤ d) (hct : CT x.1.2.1 x.2.1 y cy maxL ret dc (rf x.2.1 a :: As) M f (fun r => some (.int r))) (hn : As.length = n) (hroom : (st.map fun v => v.category).sum ≤ 8) (hd : decode cc pc = .ok (.invokevirtual idx, 3)) {st0 : List Value} (hst : st0 = As.reverse ++ rf x.2.1 a :: st)
    (kk : ∀ r M1, SIM x F (K r M1) (pc + 3) lv (.int r :: st) M1) : SIM x F (cal f K) pc lv st0 M := r_callV (mk := (fun r => some (.int r))) As X hM hci ha hdd hct hn hroom hd hst kk
theorem r_callSI {f : Option (Int32 × Mm)} {K : Int32 → Mm → Option α} {idx dc maxL n : Nat} {y : MethodName} {cy : ByteArray} {ret : Option FieldType} (As : List Value) (X : CX x cc own d) (hM : MS own idx y cy maxL ret n) (hdd : dc + 1 ≤ d) (hct : CT x.1.2.1 x.2.1 y cy maxL ret dc As M f (fun r => some (.int r))) (hn : As.length = n) (hroom : (st.map fun v => v.category).sum ≤ 8) (hd : decode cc pc = .ok (.invokestatic idx, 3)) {st0 : List Value} (hst : st0 = As.reverse ++ st)
    (kk : ∀ r M1, SIM x F (K r M1) (pc + 3) lv (.int r :: st) M1) : SIM x F (cal f K) pc lv st0 M := r_callS (mk := (fun r => some (.int r))) As X hM hdd hct hn hroom hd hst kk
theorem r_callVJ {f : Option (Int64 × Mm)} {K : Int64 → Mm → Option α} {idx ci a dc maxL n : Nat} {y : MethodName} {cy : ByteArray} {ret : Option FieldType} (As : List Value) (X : CX x cc own d) (hM : MV own idx ci y cy maxL ret n) (hci : 10 + ci < 99) (ha : sh a = 10 + ci) (hdd : dc + 1 ≤ d) (hct : CT x.1.2.1 x.2.1 y cy maxL ret dc (rf x.2.1 a :: As) M f (fun r => some (.long r))) (hn : As.length = n) (hroom : (st.map fun v => v.category).sum ≤ 8) (hd : decode cc pc = .ok (.invokevirtual idx, 3)) {st0 : List Value} (hst : st0 = As.reverse ++ rf x.2.1 a :: st)
    (kk : ∀ r M1, SIM x F (K r M1) (pc + 3) lv (.long r :: st) M1) : SIM x F (cal f K) pc lv st0 M := r_callV (mk := (fun r => some (.long r))) As X hM hci ha hdd hct hn hroom hd hst kk
theorem r_callSJ {f : Option (Int64 × Mm)} {K : Int64 → Mm → Option α} {idx dc maxL n : Nat} {y : MethodName} {cy : ByteArray} {ret : Option FieldType} (As : List Value) (X : CX x cc own d) (hM : MS own idx y cy maxL ret n) (hdd : dc + 1 ≤ d) (hct : CT x.1.2.1 x.2.1 y cy maxL ret dc As M f (fun r => some (.long r))) (hn : As.length = n) (hroom : (st.map fun v => v.category).sum ≤ 8) (hd : decode cc pc = .ok (.invokestatic idx, 3)) {st0 : List Value} (hst : st0 = As.reverse ++ st)
    (kk : ∀ r M1, SIM x F (K r M1) (pc + 3) lv (.long r :: st) M1) : SIM x F (cal f K) pc lv st0 M := r_callS (mk := (fun r => some (.long r))) As X hM hdd hct hn hroom hd hst kk
theorem r_callVV {f : Option (Unit × Mm)} {K : Unit → Mm → Option α} {idx ci a dc maxL n : Nat} {y : MethodName} {cy : ByteArray} {ret : Option FieldType} (As : List Value) (X : CX x cc own d) (hM : MV own idx ci y cy maxL ret n) (hci : 10 + ci < 99) (ha : sh a = 10 + ci) (hdd : dc + 1 ≤ d) (hct : CT x.1.2.1 x.2.1 y cy maxL ret dc (rf x.2.1 a :: As) M f (fun _ => none)) (hn : As.length = n) (hroom : (st.map fun v => v.category).sum ≤ 8) (hd : decode cc pc = .ok (.invokevirtual idx, 3)) {st0 : List Value} (hst : st0 = As.reverse ++ rf x.2.1 a :: st)
    (kk : ∀ r M1, SIM x F (K r M1) (pc + 3) lv (st) M1) : SIM x F (cal f K) pc lv st0 M := r_callV (mk := (fun _ => none)) As X hM hci ha hdd hct hn hroom hd hst kk
theorem r_callSV {f : Option (Unit × Mm)} {K : Unit → Mm → Option α} {idx dc maxL n : Nat} {y : MethodName} {cy : ByteArray} {ret : Option FieldType} (As : List Value) (X : CX x cc own d) (hM : MS own idx y cy maxL ret n) (hdd : dc + 1 ≤ d) (hct : CT x.1.2.1 x.2.1 y cy maxL ret dc As M f (fun _ => none)) (hn : As.length = n) (hroom : (st.map fun v => v.category).sum ≤ 8) (hd : decode cc pc = .ok (.invokestatic idx, 3)) {st0 : List Value} (hst : st0 = As.reverse ++ st)
    (kk : ∀ r M1, SIM x F (K r M1) (pc + 3) lv (st) M1) : SIM x F (cal f K) pc lv st0 M := r_callS (mk := (fun _ => none)) As X hM hdd hct hn hroom hd hst kk
end
section
variable {σ ρ : Type} {x : SB} {F : σ ⊕ ρ → Prop} {pc : Nat} {lv : List (Nat × Value)} {M : Mm}
theorem r_hdr {q : σ} (lv2 : List (Nat × Value)) (ks : List Nat) (h : lv_pick lv ks = lv2) (HH : F (.inl q) → ∀ (ls : Array Slot) (H : Heap) (locs : List Loc), lv_has ls x.2.2.2.1 lv2 → PW x.2.1 M H → SH x H locs → SW x H locs pc ls []) : SIM x F (some (.inl q)) pc lv [] M := by
  intro ho ls H locs hl hP hS
  obtain ⟨w, ho, hF⟩ := ho
  cases ho
  exact HH hF ls H locs (lv_sub hl ks h) hP hS
end
/-- a method with loops: its entry, then the heads -/
noncomputable def fen {σ ρ : Type} (g : σ → Option (σ ⊕ ρ)) (o : Option (σ ⊕ ρ)) : Option ρ := match o with
  | none => none
  | some (.inl q) => fnl g q
  | some (.inr r) => some r
theorem fnl_none {σ ρ : Type} {f : σ → Option (σ ⊕ ρ)} {x : σ} (h : f x = none) : fnl f x = none := by
  cases hx : fnl f x with
  | none => rfl
  | some r =>
    obtain ⟨n, hn⟩ := fnl_run hx
    cases n with
    | zero => cases hn
    | succ n =>
      unfold fn_run at hn
      rw [h] at hn
      cases hn
theorem fnl_eq {σ ρ : Type} (f : σ → Option (σ ⊕ ρ)) (x : σ) : fnl f x = fen f (f x) := by
  cases hf : f x with
  | none => exact fnl_none hf
  | some w => cases w with
    | inl y => exact fnl_in hf
    | inr r => exact fnl_out hf
theorem fen_w {σ ρ : Type} {f : σ → Option (σ ⊕ ρ)} {o : Option (σ ⊕ ρ)} {r : ρ} {P : σ → Prop} (h : fen f o = some r) (hP : ∀ q, fnl f q = some r → P q) : ∃ w, o = some w ∧ Sum.elim P (fun q => q = r) w := by
  cases o with
  | none => cases h
  | some w => cases w with
    | inl q => exact ⟨_, rfl, hP q h⟩
    | inr q => exact ⟨_, rfl, Option.some.inj h⟩

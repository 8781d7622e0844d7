theorem vin {i : Int32} {n : Nat} (h : decide (¬ (i < 0 ∨ n ≤ i.toNatClampNeg)) = true) : vp_in i n := by
  unfold vp_in
  exact of_decide_eq_true h
section
variable {x : SB} {b : CB} {o : List Value} {C : va_W} {cells slots d pc : Nat} {cc : ByteArray} {own : String} {lv : List (Nat × Value)} {st : List Value}
theorem c_eq (C2 : va_W) (h : C = C2) (kk : CW x b o C2 cells slots pc lv st) : CW x b o C cells slots pc lv st := h ▸ kk
theorem c_iast2 {a n j : Nat} {i v : Int32} {f : Nat → Int32} (k : Nat) (C2 : va_W) (X : C0 x cc own d) (ha : C[j]? = some (a, .inl (x.2.1.2.2.1 0, n, .inl f))) (hin2 : vp_in i n) (hk : i.toNatClampNeg = k) (hC2 : C.set j (a, .inl (x.2.1.2.2.1 0, n, .inl (upd f k v))) = C2) (hd : decode cc pc = .ok (.iastore, 1)) (kk : CW x b o C2 cells slots (pc + 1) lv st) : CW x b o C cells slots pc lv (.int v :: .int i :: .ref a :: st) := c_iast C2 X ha hin2 (by rw [hk]; exact hC2) hd kk
theorem c_aastS2 {a v n j j2 : Nat} {i : Int32} {vs : List Value} {f : Nat → Option Nat} (k : Nat) (C2 : va_W) (X : C0 x cc own d) (ha : C[j]? = some (a, .inl (x.2.1.2.2.1 3, n, .inr (.inr (.inr (.inr f)))))) (hv : C[j2]? = some (v, .inr (2, vs))) (hin2 : vp_in i n) (hk : i.toNatClampNeg = k) (hC2 : C.set j (a, .inl (x.2.1.2.2.1 3, n, .inr (.inr (.inr (.inr (va_up f k (some v))))))) = C2) (hd : decode cc pc = .ok (.aastore, 1)) (kk : CW x b o C2 cells slots (pc + 1) lv st) : CW x b o C cells slots pc lv (.ref v :: .int i :: .ref a :: st) := c_aastS C2 X ha hv hin2 (by rw [hk]; exact hC2) hd kk
theorem c_aastW2 {a v n j j2 : Nat} {i : Int32} {vs : List Value} {f : Nat → Option Nat} (k : Nat) (C2 : va_W) (X : C0 x cc own d) (ha : C[j]? = some (a, .inl (x.2.1.2.2.1 4, n, .inr (.inr (.inr (.inr f)))))) (hv : C[j2]? = some (v, .inr (4, vs))) (hin2 : vp_in i n) (hk : i.toNatClampNeg = k) (hC2 : C.set j (a, .inl (x.2.1.2.2.1 4, n, .inr (.inr (.inr (.inr (va_up f k (some v))))))) = C2) (hd : decode cc pc = .ok (.aastore, 1)) (kk : CW x b o C2 cells slots (pc + 1) lv st) : CW x b o C cells slots pc lv (.ref v :: .int i :: .ref a :: st) := c_aastW C2 X ha hv hin2 (by rw [hk]; exact hC2) hd kk
end
theorem fo_X5_11 : FO RX5 11 5 0 2 (.array (.object "CrumbWood$Strip")) true := ⟨RX5, TX5, 13, tyX5, rfl, inX5, tyX5_ok, nmX5, by decide, rfl, by decide +kernel, rfl, rfl, k_237⟩
theorem fo_X5_15 : FO RX5 15 5 1 2 (.array (.object "CrumbWood$Strip")) true := ⟨RX5, TX5, 13, tyX5, rfl, inX5, tyX5_ok, nmX5, by decide, rfl, by decide +kernel, rfl, rfl, k_238⟩
theorem fo_X4_9 : FO RX4 9 4 0 0 .int false := ⟨RX4, TX4, 11, tyX4, rfl, inX4, tyX4_ok, nmX4, by decide, rfl, by decide +kernel, rfl, rfl, k_89⟩
theorem fo_X4_15 : FO RX4 15 4 1 0 .int false := ⟨RX4, TX4, 11, tyX4, rfl, inX4, tyX4_ok, nmX4, by decide, rfl, by decide +kernel, rfl, rfl, k_94⟩
theorem fo_X4_18 : FO RX4 18 4 2 0 .int false := ⟨RX4, TX4, 11, tyX4, rfl, inX4, tyX4_ok, nmX4, by decide, rfl, by decide +kernel, rfl, rfl, k_97⟩
theorem fo_X4_21 : FO RX4 21 4 3 2 (.array .int) true := ⟨RX4, TX4, 11, tyX4, rfl, inX4, tyX4_ok, nmX4, by decide, rfl, by decide +kernel, rfl, rfl, k_99⟩
theorem fo_X4_25 : FO RX4 25 4 4 2 (.array .int) true := ⟨RX4, TX4, 11, tyX4, rfl, inX4, tyX4_ok, nmX4, by decide, rfl, by decide +kernel, rfl, rfl, k_100⟩
theorem fo_X4_28 : FO RX4 28 4 5 2 (.array .int) true := ⟨RX4, TX4, 11, tyX4, rfl, inX4, tyX4_ok, nmX4, by decide, rfl, by decide +kernel, rfl, rfl, k_103⟩
theorem fo_X4_33 : FO RX4 33 4 6 2 (.array (.array .int)) true := ⟨RX4, TX4, 11, tyX4, rfl, inX4, tyX4_ok, nmX4, by decide, rfl, by decide +kernel, rfl, rfl, k_107⟩
theorem fo_X4_36 : FO RX4 36 4 7 2 (.array .int) true := ⟨RX4, TX4, 11, tyX4, rfl, inX4, tyX4_ok, nmX4, by decide, rfl, by decide +kernel, rfl, rfl, k_109⟩
theorem fo_X4_39 : FO RX4 39 4 8 2 (.array .int) true := ⟨RX4, TX4, 11, tyX4, rfl, inX4, tyX4_ok, nmX4, by decide, rfl, by decide +kernel, rfl, rfl, k_111⟩
theorem fo_X4_42 : FO RX4 42 4 9 2 (.array .int) true := ⟨RX4, TX4, 11, tyX4, rfl, inX4, tyX4_ok, nmX4, by decide, rfl, by decide +kernel, rfl, rfl, k_113⟩
theorem fo_X4_45 : FO RX4 45 4 10 2 (.array .int) true := ⟨RX4, TX4, 11, tyX4, rfl, inX4, tyX4_ok, nmX4, by decide, rfl, by decide +kernel, rfl, rfl, k_116⟩
theorem fo_X5_21 : FO RX5 21 5 2 2 (.object "CrumbWood$Wood") true := ⟨RX5, TX5, 13, tyX5, rfl, inX5, tyX5_ok, nmX5, by decide, rfl, by decide +kernel, rfl, rfl, k_239⟩
theorem fo_X5_25 : FO RX5 25 5 3 2 (.array (.object "CrumbWood$Wood")) true := ⟨RX5, TX5, 13, tyX5, rfl, inX5, tyX5_ok, nmX5, by decide, rfl, by decide +kernel, rfl, rfl, k_240⟩
theorem fo_X5_29 : FO RX5 29 5 4 2 (.object "CrumbWood$Wood") true := ⟨RX5, TX5, 13, tyX5, rfl, inX5, tyX5_ok, nmX5, by decide, rfl, by decide +kernel, rfl, rfl, k_241⟩
theorem fo_X0_9 : FO RX0 9 0 0 2 (.array .int) false := ⟨RX0, TX0, 5, tyX0, rfl, inX0, tyX0_ok, nmX0, by decide, rfl, by decide +kernel, rfl, rfl, k_149⟩
theorem fo_X0_15 : FO RX0 15 0 1 0 .int false := ⟨RX0, TX0, 5, tyX0, rfl, inX0, tyX0_ok, nmX0, by decide, rfl, by decide +kernel, rfl, rfl, k_150⟩
theorem fo_X0_19 : FO RX0 19 0 2 0 .int false := ⟨RX0, TX0, 5, tyX0, rfl, inX0, tyX0_ok, nmX0, by decide, rfl, by decide +kernel, rfl, rfl, k_151⟩
theorem fo_X0_22 : FO RX0 22 0 3 0 .int false := ⟨RX0, TX0, 5, tyX0, rfl, inX0, tyX0_ok, nmX0, by decide, rfl, by decide +kernel, rfl, rfl, k_152⟩
theorem fo_X0_25 : FO RX0 25 0 4 0 .int false := ⟨RX0, TX0, 5, tyX0, rfl, inX0, tyX0_ok, nmX0, by decide, rfl, by decide +kernel, rfl, rfl, k_153⟩
theorem fo_X5_35 : FO RX5 35 5 5 2 (.object "CrumbWood$Reader") true := ⟨RX5, TX5, 13, tyX5, rfl, inX5, tyX5_ok, nmX5, by decide, rfl, by decide +kernel, rfl, rfl, k_242⟩
theorem fo_X1_9 : FO RX1 9 1 0 2 (.array .int) false := ⟨RX1, TX1, 9, tyX1, rfl, inX1, tyX1_ok, nmX1, by decide, rfl, by decide +kernel, rfl, rfl, k_171⟩
theorem fo_X1_15 : FO RX1 15 1 1 0 .int false := ⟨RX1, TX1, 9, tyX1, rfl, inX1, tyX1_ok, nmX1, by decide, rfl, by decide +kernel, rfl, rfl, k_172⟩
theorem fo_X1_19 : FO RX1 19 1 2 0 .int false := ⟨RX1, TX1, 9, tyX1, rfl, inX1, tyX1_ok, nmX1, by decide, rfl, by decide +kernel, rfl, rfl, k_173⟩
theorem fo_X1_22 : FO RX1 22 1 3 0 .int false := ⟨RX1, TX1, 9, tyX1, rfl, inX1, tyX1_ok, nmX1, by decide, rfl, by decide +kernel, rfl, rfl, k_174⟩
theorem fo_X1_25 : FO RX1 25 1 4 0 .int false := ⟨RX1, TX1, 9, tyX1, rfl, inX1, tyX1_ok, nmX1, by decide, rfl, by decide +kernel, rfl, rfl, k_175⟩
theorem fo_X1_28 : FO RX1 28 1 5 0 .int false := ⟨RX1, TX1, 9, tyX1, rfl, inX1, tyX1_ok, nmX1, by decide, rfl, by decide +kernel, rfl, rfl, k_176⟩
theorem fo_X1_31 : FO RX1 31 1 6 0 .int false := ⟨RX1, TX1, 9, tyX1, rfl, inX1, tyX1_ok, nmX1, by decide, rfl, by decide +kernel, rfl, rfl, k_177⟩
theorem fo_X1_34 : FO RX1 34 1 7 2 (.array .int) true := ⟨RX1, TX1, 9, tyX1, rfl, inX1, tyX1_ok, nmX1, by decide, rfl, by decide +kernel, rfl, rfl, k_178⟩
theorem fo_X1_37 : FO RX1 37 1 8 0 .int false := ⟨RX1, TX1, 9, tyX1, rfl, inX1, tyX1_ok, nmX1, by decide, rfl, by decide +kernel, rfl, rfl, k_180⟩
theorem fo_X5_42 : FO RX5 42 5 6 2 (.object "CrumbWood$Sight") true := ⟨RX5, TX5, 13, tyX5, rfl, inX5, tyX5_ok, nmX5, by decide, rfl, by decide +kernel, rfl, rfl, k_243⟩
theorem fo_X3_9 : FO RX3 9 3 0 2 (.array .int) false := ⟨RX3, TX3, 3, tyX3, rfl, inX3, tyX3_ok, nmX3, by decide, rfl, by decide +kernel, rfl, rfl, k_207⟩
theorem fo_X3_15 : FO RX3 15 3 1 2 (.array .int) false := ⟨RX3, TX3, 3, tyX3, rfl, inX3, tyX3_ok, nmX3, by decide, rfl, by decide +kernel, rfl, rfl, k_208⟩
theorem fo_X3_18 : FO RX3 18 3 2 0 .int false := ⟨RX3, TX3, 3, tyX3, rfl, inX3, tyX3_ok, nmX3, by decide, rfl, by decide +kernel, rfl, rfl, k_209⟩
theorem fo_X5_49 : FO RX5 49 5 7 2 (.object "CrumbWood$Walks") true := ⟨RX5, TX5, 13, tyX5, rfl, inX5, tyX5_ok, nmX5, by decide, rfl, by decide +kernel, rfl, rfl, k_244⟩
theorem fo_X5_53 : FO RX5 53 5 8 2 (.array .int) true := ⟨RX5, TX5, 13, tyX5, rfl, inX5, tyX5_ok, nmX5, by decide, rfl, by decide +kernel, rfl, rfl, k_245⟩
theorem fo_X5_57 : FO RX5 57 5 9 0 .int false := ⟨RX5, TX5, 13, tyX5, rfl, inX5, tyX5_ok, nmX5, by decide, rfl, by decide +kernel, rfl, rfl, k_246⟩
theorem fo_X5_61 : FO RX5 61 5 10 0 .int false := ⟨RX5, TX5, 13, tyX5, rfl, inX5, tyX5_ok, nmX5, by decide, rfl, by decide +kernel, rfl, rfl, k_247⟩
theorem fo_X5_64 : FO RX5 64 5 11 1 .long false := ⟨RX5, TX5, 13, tyX5, rfl, inX5, tyX5_ok, nmX5, by decide, rfl, by decide +kernel, rfl, rfl, k_248⟩
theorem fo_X5_68 : FO RX5 68 5 12 1 .long false := ⟨RX5, TX5, 13, tyX5, rfl, inX5, tyX5_ok, nmX5, by decide, rfl, by decide +kernel, rfl, rfl, k_249⟩
theorem fo_X2_9 : FO RX2 9 2 1 0 .int false := ⟨RX2, TX2, 2, tyX2, rfl, inX2, tyX2_ok, nmX2, by decide, rfl, by decide +kernel, rfl, rfl, k_229⟩
theorem fo_X2_21 : FO RX2 21 2 0 2 (.array .int) true := ⟨RX2, TX2, 2, tyX2, rfl, inX2, tyX2_ok, nmX2, by decide, rfl, by decide +kernel, rfl, rfl, k_226⟩
theorem fo_X6_7 : FO RX6 7 6 1 2 (.array .int) true := ⟨RX6, TX6, 41, tyX6, rfl, inX6, tyX6_ok, nmX6, by decide, rfl, by decide +kernel, rfl, rfl, k_779⟩
theorem fo_X6_13 : FO RX6 13 6 4 1 .long false := ⟨RX6, TX6, 41, tyX6, rfl, inX6, tyX6_ok, nmX6, by decide, rfl, by decide +kernel, rfl, rfl, k_782⟩
theorem fo_X6_17 : FO RX6 17 6 5 2 (.array .int) true := ⟨RX6, TX6, 41, tyX6, rfl, inX6, tyX6_ok, nmX6, by decide, rfl, by decide +kernel, rfl, rfl, k_783⟩
theorem fo_X6_20 : FO RX6 20 6 6 2 (.array .int) true := ⟨RX6, TX6, 41, tyX6, rfl, inX6, tyX6_ok, nmX6, by decide, rfl, by decide +kernel, rfl, rfl, k_784⟩
theorem fo_X6_23 : FO RX6 23 6 7 2 (.array .int) true := ⟨RX6, TX6, 41, tyX6, rfl, inX6, tyX6_ok, nmX6, by decide, rfl, by decide +kernel, rfl, rfl, k_785⟩
theorem fo_X6_26 : FO RX6 26 6 8 2 (.array .int) true := ⟨RX6, TX6, 41, tyX6, rfl, inX6, tyX6_ok, nmX6, by decide, rfl, by decide +kernel, rfl, rfl, k_786⟩
theorem fo_X6_29 : FO RX6 29 6 9 2 (.array .byte) true := ⟨RX6, TX6, 41, tyX6, rfl, inX6, tyX6_ok, nmX6, by decide, rfl, by decide +kernel, rfl, rfl, k_787⟩
theorem fo_X6_33 : FO RX6 33 6 12 2 (.array .int) true := ⟨RX6, TX6, 41, tyX6, rfl, inX6, tyX6_ok, nmX6, by decide, rfl, by decide +kernel, rfl, rfl, k_790⟩
theorem fo_X6_36 : FO RX6 36 6 13 2 (.array .int) true := ⟨RX6, TX6, 41, tyX6, rfl, inX6, tyX6_ok, nmX6, by decide, rfl, by decide +kernel, rfl, rfl, k_791⟩
theorem fo_X6_39 : FO RX6 39 6 19 2 (.array .int) true := ⟨RX6, TX6, 41, tyX6, rfl, inX6, tyX6_ok, nmX6, by decide, rfl, by decide +kernel, rfl, rfl, k_797⟩
theorem fo_X6_42 : FO RX6 42 6 20 2 (.array .int) true := ⟨RX6, TX6, 41, tyX6, rfl, inX6, tyX6_ok, nmX6, by decide, rfl, by decide +kernel, rfl, rfl, k_798⟩
theorem fo_X6_45 : FO RX6 45 6 21 2 (.array .int) true := ⟨RX6, TX6, 41, tyX6, rfl, inX6, tyX6_ok, nmX6, by decide, rfl, by decide +kernel, rfl, rfl, k_799⟩
theorem fo_X6_48 : FO RX6 48 6 22 2 (.array .int) true := ⟨RX6, TX6, 41, tyX6, rfl, inX6, tyX6_ok, nmX6, by decide, rfl, by decide +kernel, rfl, rfl, k_800⟩
theorem fo_X6_51 : FO RX6 51 6 24 2 (.array .int) true := ⟨RX6, TX6, 41, tyX6, rfl, inX6, tyX6_ok, nmX6, by decide, rfl, by decide +kernel, rfl, rfl, k_802⟩
theorem fo_X6_54 : FO RX6 54 6 26 2 (.array .int) true := ⟨RX6, TX6, 41, tyX6, rfl, inX6, tyX6_ok, nmX6, by decide, rfl, by decide +kernel, rfl, rfl, k_804⟩
theorem fo_X6_57 : FO RX6 57 6 27 2 (.array .boolean) true := ⟨RX6, TX6, 41, tyX6, rfl, inX6, tyX6_ok, nmX6, by decide, rfl, by decide +kernel, rfl, rfl, k_805⟩
theorem fo_X6_61 : FO RX6 61 6 28 2 (.array .int) true := ⟨RX6, TX6, 41, tyX6, rfl, inX6, tyX6_ok, nmX6, by decide, rfl, by decide +kernel, rfl, rfl, k_806⟩
theorem fo_X6_64 : FO RX6 64 6 29 2 (.array .int) true := ⟨RX6, TX6, 41, tyX6, rfl, inX6, tyX6_ok, nmX6, by decide, rfl, by decide +kernel, rfl, rfl, k_807⟩
theorem fo_X6_67 : FO RX6 67 6 30 2 (.array .int) true := ⟨RX6, TX6, 41, tyX6, rfl, inX6, tyX6_ok, nmX6, by decide, rfl, by decide +kernel, rfl, rfl, k_808⟩
theorem fo_X6_70 : FO RX6 70 6 31 2 (.array .int) true := ⟨RX6, TX6, 41, tyX6, rfl, inX6, tyX6_ok, nmX6, by decide, rfl, by decide +kernel, rfl, rfl, k_809⟩
theorem fo_X6_73 : FO RX6 73 6 33 2 (.array .int) true := ⟨RX6, TX6, 41, tyX6, rfl, inX6, tyX6_ok, nmX6, by decide, rfl, by decide +kernel, rfl, rfl, k_811⟩
theorem fo_X6_76 : FO RX6 76 6 34 2 (.array .int) true := ⟨RX6, TX6, 41, tyX6, rfl, inX6, tyX6_ok, nmX6, by decide, rfl, by decide +kernel, rfl, rfl, k_812⟩
theorem fo_X6_79 : FO RX6 79 6 35 2 (.array .int) true := ⟨RX6, TX6, 41, tyX6, rfl, inX6, tyX6_ok, nmX6, by decide, rfl, by decide +kernel, rfl, rfl, k_813⟩
theorem fo_X6_82 : FO RX6 82 6 36 2 (.array .int) true := ⟨RX6, TX6, 41, tyX6, rfl, inX6, tyX6_ok, nmX6, by decide, rfl, by decide +kernel, rfl, rfl, k_814⟩
theorem fo_X6_85 : FO RX6 85 6 39 2 (.array .int) true := ⟨RX6, TX6, 41, tyX6, rfl, inX6, tyX6_ok, nmX6, by decide, rfl, by decide +kernel, rfl, rfl, k_817⟩
theorem mi_X5_20 : MI RX5 20 yX4_init cX4_init 1 0 := ⟨k_85, k_62, k_84, Or.inr ⟨_, k_83⟩, ⟨by decide +kernel, by decide +kernel, by decide +kernel⟩, by decide, rfl⟩
theorem mi_X5_34 : MI RX5 34 yX0_init cX0_init 1 0 := ⟨k_147, k_63, k_146, Or.inr ⟨_, k_145⟩, ⟨by decide +kernel, by decide +kernel, by decide +kernel⟩, by decide, rfl⟩
theorem mi_X5_41 : MI RX5 41 yX1_init cX1_init 1 0 := ⟨k_169, k_64, k_168, Or.inr ⟨_, k_167⟩, ⟨by decide +kernel, by decide +kernel, by decide +kernel⟩, by decide, rfl⟩
theorem mi_X5_48 : MI RX5 48 yX3_init cX3_init 1 0 := ⟨k_205, k_65, k_204, Or.inr ⟨_, k_203⟩, ⟨by decide +kernel, by decide +kernel, by decide +kernel⟩, by decide, rfl⟩
theorem mi_X5_71 : MI RX5 71 yX2_init cX2_init 2 1 := ⟨k_221, k_66, k_220, Or.inl k_219, ⟨by decide +kernel, by decide +kernel, by decide +kernel⟩, by decide, rfl⟩
def fikX4_init (r : Nat → Nat) : List Value := [.int 0, .int 0, .int 0, .ref (r 0), .ref (r 1), .ref (r 2), .ref (r 3), .ref (r 7), .ref (r 8), .ref (r 9), .ref (r 10)]
def nckX4_init (g : GX) (r : Nat → Nat) : va_W := [(r 0, .inl (g.2.2.1 0, 8, .inl (fun _ => 0))), (r 1, .inl (g.2.2.1 0, 6, .inl (fun _ => 0))), (r 2, .inl (g.2.2.1 0, 8, .inl (fun _ => 0))), (r 3, .inl (g.2.2.1 5, 3, .inr (.inr (.inr (.inr (va_up (va_up (va_up (fun _ => none) 0 (some (r 4))) 1 (some (r 5))) 2 (some (r 6)))))))), (r 4, .inl (g.2.2.1 0, 8, .inl (fun _ => 0))), (r 5, .inl (g.2.2.1 0, 8, .inl (fun _ => 0))), (r 6, .inl (g.2.2.1 0, 8, .inl (fun _ => 0))), (r 7, .inl (g.2.2.1 0, 8, .inl (fun _ => 0))), (r 8, .inl (g.2.2.1 0, 4, .inl (fun _ => 0))), (r 9, .inl (g.2.2.1 0, 3, .inl (fun _ => 0))), (r 10, .inl (g.2.2.1 0, 31, .inl (fun _ => 0)))]
set_option maxRecDepth 100000 in
set_option maxHeartbeats 4000000 in
theorem kX4_init (l : Launch) (g : GX) : KT l g yX4_init cX4_init 1 1 11 95 [] 4 [.int 0, .int 0, .int 0, .null, .null, .null, .null, .null, .null, .null, .null] (fikX4_init) (nckX4_init g) := by
  refine kt_of rfl rfl (fun _ => Nat.le_of_ble_eq_true rfl) (fun x b hci hg hL hl hC hS X Hr => ?_)
  obtain ⟨b, ci, ws⟩ := b
  have hci : ci = 4 := hci
  subst hci
  subst hg
  refine c_aload_n X dX4_init_0 rfl 0 rfl ?_
  refine c_objInit X k_86 k_77 k_78 (by decide) (Nat.le_of_ble_eq_true rfl) dX4_init_1 ?_
  refine c_aload_n X dX4_init_4 rfl 0 rfl ?_
  refine c_iconst (v := 0) X dX4_init_5 (by decide) ?_
  refine c_put [.int 0, .int 0, .int 0, .null, .null, .null, .null, .null, .null, .null, .null] X fo_X4_9 rfl rfl (Nat.le_of_ble_eq_true rfl) rfl dX4_init_6 ?_
  refine c_aload_n X dX4_init_9 rfl 0 rfl ?_
  refine c_iconst (v := 0) X dX4_init_10 (by decide) ?_
  refine c_put [.int 0, .int 0, .int 0, .null, .null, .null, .null, .null, .null, .null, .null] X fo_X4_15 rfl rfl (Nat.le_of_ble_eq_true rfl) rfl dX4_init_11 ?_
  refine c_aload_n X dX4_init_14 rfl 0 rfl ?_
  refine c_iconst (v := 0) X dX4_init_15 (by decide) ?_
  refine c_put [.int 0, .int 0, .int 0, .null, .null, .null, .null, .null, .null, .null, .null] X fo_X4_18 rfl rfl (Nat.le_of_ble_eq_true rfl) rfl dX4_init_16 ?_
  refine c_aload_n X dX4_init_19 rfl 0 rfl ?_
  refine c_bipush (v := 8) X dX4_init_20 (by decide) ?_
  refine c_newaI 8 X k_141 (by decide) (by decide) (by decide) (by rw [hC]; decide) (by rw [hS]; decide) dX4_init_22 (fun q1 => ?_)
  refine c_eq [(q1, .inl (x.2.1.2.2.1 0, 8, .inl (fun _ => 0)))] rfl ?_
  refine c_put [.int 0, .int 0, .int 0, .ref q1, .null, .null, .null, .null, .null, .null, .null] X fo_X4_21 rfl rfl (Nat.le_of_ble_eq_true rfl) rfl dX4_init_24 ?_
  refine c_aload_n X dX4_init_27 rfl 0 rfl ?_
  refine c_bipush (v := 6) X dX4_init_28 (by decide) ?_
  refine c_newaI 6 X k_141 (by decide) (by decide) (by decide) (by rw [hC]; decide) (by rw [hS]; decide) dX4_init_30 (fun q2 => ?_)
  refine c_eq [(q1, .inl (x.2.1.2.2.1 0, 8, .inl (fun _ => 0))), (q2, .inl (x.2.1.2.2.1 0, 6, .inl (fun _ => 0)))] rfl ?_
  refine c_put [.int 0, .int 0, .int 0, .ref q1, .ref q2, .null, .null, .null, .null, .null, .null] X fo_X4_25 rfl rfl (Nat.le_of_ble_eq_true rfl) rfl dX4_init_32 ?_
  refine c_aload_n X dX4_init_35 rfl 0 rfl ?_
  refine c_bipush (v := 8) X dX4_init_36 (by decide) ?_
  refine c_newaI 8 X k_141 (by decide) (by decide) (by decide) (by rw [hC]; decide) (by rw [hS]; decide) dX4_init_38 (fun q3 => ?_)
  refine c_eq [(q1, .inl (x.2.1.2.2.1 0, 8, .inl (fun _ => 0))), (q2, .inl (x.2.1.2.2.1 0, 6, .inl (fun _ => 0))), (q3, .inl (x.2.1.2.2.1 0, 8, .inl (fun _ => 0)))] rfl ?_
  refine c_put [.int 0, .int 0, .int 0, .ref q1, .ref q2, .ref q3, .null, .null, .null, .null, .null] X fo_X4_28 rfl rfl (Nat.le_of_ble_eq_true rfl) rfl dX4_init_40 ?_
  refine c_aload_n X dX4_init_43 rfl 0 rfl ?_
  refine c_iconst (v := 3) X dX4_init_44 (by decide) ?_
  refine c_bipush (v := 8) X dX4_init_45 (by decide) ?_
  refine c_multi 8 X k_87 k_141 (by decide) (by decide) (by decide) (by decide) (by decide) (by decide) (by rw [hC]; decide) (by rw [hS]; decide) dX4_init_47 (fun q4 r5 => ?_)
  refine c_eq [(q1, .inl (x.2.1.2.2.1 0, 8, .inl (fun _ => 0))), (q2, .inl (x.2.1.2.2.1 0, 6, .inl (fun _ => 0))), (q3, .inl (x.2.1.2.2.1 0, 8, .inl (fun _ => 0))), (q4, .inl (x.2.1.2.2.1 5, 3, .inr (.inr (.inr (.inr (va_up (va_up (va_up (fun _ => none) 0 (some (r5 0))) 1 (some (r5 1))) 2 (some (r5 2)))))))), (r5 0, .inl (x.2.1.2.2.1 0, 8, .inl (fun _ => 0))), (r5 1, .inl (x.2.1.2.2.1 0, 8, .inl (fun _ => 0))), (r5 2, .inl (x.2.1.2.2.1 0, 8, .inl (fun _ => 0)))] rfl ?_
  refine c_put [.int 0, .int 0, .int 0, .ref q1, .ref q2, .ref q3, .ref q4, .null, .null, .null, .null] X fo_X4_33 rfl rfl (Nat.le_of_ble_eq_true rfl) rfl dX4_init_51 ?_
  refine c_aload_n X dX4_init_54 rfl 0 rfl ?_
  refine c_bipush (v := 8) X dX4_init_55 (by decide) ?_
  refine c_newaI 8 X k_141 (by decide) (by decide) (by decide) (by rw [hC]; decide) (by rw [hS]; decide) dX4_init_57 (fun q6 => ?_)
  refine c_eq [(q1, .inl (x.2.1.2.2.1 0, 8, .inl (fun _ => 0))), (q2, .inl (x.2.1.2.2.1 0, 6, .inl (fun _ => 0))), (q3, .inl (x.2.1.2.2.1 0, 8, .inl (fun _ => 0))), (q4, .inl (x.2.1.2.2.1 5, 3, .inr (.inr (.inr (.inr (va_up (va_up (va_up (fun _ => none) 0 (some (r5 0))) 1 (some (r5 1))) 2 (some (r5 2)))))))), (r5 0, .inl (x.2.1.2.2.1 0, 8, .inl (fun _ => 0))), (r5 1, .inl (x.2.1.2.2.1 0, 8, .inl (fun _ => 0))), (r5 2, .inl (x.2.1.2.2.1 0, 8, .inl (fun _ => 0))), (q6, .inl (x.2.1.2.2.1 0, 8, .inl (fun _ => 0)))] rfl ?_
  refine c_put [.int 0, .int 0, .int 0, .ref q1, .ref q2, .ref q3, .ref q4, .ref q6, .null, .null, .null] X fo_X4_36 rfl rfl (Nat.le_of_ble_eq_true rfl) rfl dX4_init_59 ?_
  refine c_aload_n X dX4_init_62 rfl 0 rfl ?_
  refine c_iconst (v := 4) X dX4_init_63 (by decide) ?_
  refine c_newaI 4 X k_141 (by decide) (by decide) (by decide) (by rw [hC]; decide) (by rw [hS]; decide) dX4_init_64 (fun q7 => ?_)
  refine c_eq [(q1, .inl (x.2.1.2.2.1 0, 8, .inl (fun _ => 0))), (q2, .inl (x.2.1.2.2.1 0, 6, .inl (fun _ => 0))), (q3, .inl (x.2.1.2.2.1 0, 8, .inl (fun _ => 0))), (q4, .inl (x.2.1.2.2.1 5, 3, .inr (.inr (.inr (.inr (va_up (va_up (va_up (fun _ => none) 0 (some (r5 0))) 1 (some (r5 1))) 2 (some (r5 2)))))))), (r5 0, .inl (x.2.1.2.2.1 0, 8, .inl (fun _ => 0))), (r5 1, .inl (x.2.1.2.2.1 0, 8, .inl (fun _ => 0))), (r5 2, .inl (x.2.1.2.2.1 0, 8, .inl (fun _ => 0))), (q6, .inl (x.2.1.2.2.1 0, 8, .inl (fun _ => 0))), (q7, .inl (x.2.1.2.2.1 0, 4, .inl (fun _ => 0)))] rfl ?_
  refine c_put [.int 0, .int 0, .int 0, .ref q1, .ref q2, .ref q3, .ref q4, .ref q6, .ref q7, .null, .null] X fo_X4_39 rfl rfl (Nat.le_of_ble_eq_true rfl) rfl dX4_init_66 ?_
  refine c_aload_n X dX4_init_69 rfl 0 rfl ?_
  refine c_iconst (v := 3) X dX4_init_70 (by decide) ?_
  refine c_newaI 3 X k_141 (by decide) (by decide) (by decide) (by rw [hC]; decide) (by rw [hS]; decide) dX4_init_71 (fun q8 => ?_)
  refine c_eq [(q1, .inl (x.2.1.2.2.1 0, 8, .inl (fun _ => 0))), (q2, .inl (x.2.1.2.2.1 0, 6, .inl (fun _ => 0))), (q3, .inl (x.2.1.2.2.1 0, 8, .inl (fun _ => 0))), (q4, .inl (x.2.1.2.2.1 5, 3, .inr (.inr (.inr (.inr (va_up (va_up (va_up (fun _ => none) 0 (some (r5 0))) 1 (some (r5 1))) 2 (some (r5 2)))))))), (r5 0, .inl (x.2.1.2.2.1 0, 8, .inl (fun _ => 0))), (r5 1, .inl (x.2.1.2.2.1 0, 8, .inl (fun _ => 0))), (r5 2, .inl (x.2.1.2.2.1 0, 8, .inl (fun _ => 0))), (q6, .inl (x.2.1.2.2.1 0, 8, .inl (fun _ => 0))), (q7, .inl (x.2.1.2.2.1 0, 4, .inl (fun _ => 0))), (q8, .inl (x.2.1.2.2.1 0, 3, .inl (fun _ => 0)))] rfl ?_
  refine c_put [.int 0, .int 0, .int 0, .ref q1, .ref q2, .ref q3, .ref q4, .ref q6, .ref q7, .ref q8, .null] X fo_X4_42 rfl rfl (Nat.le_of_ble_eq_true rfl) rfl dX4_init_73 ?_
  refine c_aload_n X dX4_init_76 rfl 0 rfl ?_
  refine c_bipush (v := 31) X dX4_init_77 (by decide) ?_
  refine c_newaI 31 X k_141 (by decide) (by decide) (by decide) (by rw [hC]; decide) (by rw [hS]; decide) dX4_init_79 (fun q9 => ?_)
  refine c_eq [(q1, .inl (x.2.1.2.2.1 0, 8, .inl (fun _ => 0))), (q2, .inl (x.2.1.2.2.1 0, 6, .inl (fun _ => 0))), (q3, .inl (x.2.1.2.2.1 0, 8, .inl (fun _ => 0))), (q4, .inl (x.2.1.2.2.1 5, 3, .inr (.inr (.inr (.inr (va_up (va_up (va_up (fun _ => none) 0 (some (r5 0))) 1 (some (r5 1))) 2 (some (r5 2)))))))), (r5 0, .inl (x.2.1.2.2.1 0, 8, .inl (fun _ => 0))), (r5 1, .inl (x.2.1.2.2.1 0, 8, .inl (fun _ => 0))), (r5 2, .inl (x.2.1.2.2.1 0, 8, .inl (fun _ => 0))), (q6, .inl (x.2.1.2.2.1 0, 8, .inl (fun _ => 0))), (q7, .inl (x.2.1.2.2.1 0, 4, .inl (fun _ => 0))), (q8, .inl (x.2.1.2.2.1 0, 3, .inl (fun _ => 0))), (q9, .inl (x.2.1.2.2.1 0, 31, .inl (fun _ => 0)))] rfl ?_
  refine c_put [.int 0, .int 0, .int 0, .ref q1, .ref q2, .ref q3, .ref q4, .ref q6, .ref q7, .ref q8, .ref q9] X fo_X4_45 rfl rfl (Nat.le_of_ble_eq_true rfl) rfl dX4_init_81 ?_
  exact Hr (fun k => [q1, q2, q3, q4, r5 0, r5 1, r5 2, q6, q7, q8, q9].getD k 0) _ _ dX4_init_84
def fikX0_init (r : Nat → Nat) : List Value := [.ref (r 0), .int 0, .int 0, .int 0, .int 0]
def nckX0_init (g : GX) (r : Nat → Nat) : va_W := [(r 0, .inl (g.2.2.1 0, 0, .inl (fun _ => 0)))]
set_option maxRecDepth 100000 in
set_option maxHeartbeats 4000000 in
theorem kX0_init (l : Launch) (g : GX) : KT l g yX0_init cX0_init 1 1 1 0 [] 0 [.null, .int 0, .int 0, .int 0, .int 0] (fikX0_init) (nckX0_init g) := by
  refine kt_of rfl rfl (fun _ => Nat.le_of_ble_eq_true rfl) (fun x b hci hg hL hl hC hS X Hr => ?_)
  obtain ⟨b, ci, ws⟩ := b
  have hci : ci = 0 := hci
  subst hci
  subst hg
  refine c_aload_n X dX0_init_0 rfl 0 rfl ?_
  refine c_objInit X k_148 k_77 k_78 (by decide) (Nat.le_of_ble_eq_true rfl) dX0_init_1 ?_
  refine c_aload_n X dX0_init_4 rfl 0 rfl ?_
  refine c_iconst (v := 0) X dX0_init_5 (by decide) ?_
  refine c_newaI 0 X k_141 (by decide) (by decide) (by decide) (by rw [hC]; decide) (by rw [hS]; decide) dX0_init_6 (fun q1 => ?_)
  refine c_eq [(q1, .inl (x.2.1.2.2.1 0, 0, .inl (fun _ => 0)))] rfl ?_
  refine c_put [.ref q1, .int 0, .int 0, .int 0, .int 0] X fo_X0_9 rfl rfl (Nat.le_of_ble_eq_true rfl) rfl dX0_init_8 ?_
  refine c_aload_n X dX0_init_11 rfl 0 rfl ?_
  refine c_iconst (v := 0) X dX0_init_12 (by decide) ?_
  refine c_put [.ref q1, .int 0, .int 0, .int 0, .int 0] X fo_X0_15 rfl rfl (Nat.le_of_ble_eq_true rfl) rfl dX0_init_13 ?_
  refine c_aload_n X dX0_init_16 rfl 0 rfl ?_
  refine c_iconst (v := 0) X dX0_init_17 (by decide) ?_
  refine c_put [.ref q1, .int 0, .int 0, .int 0, .int 0] X fo_X0_19 rfl rfl (Nat.le_of_ble_eq_true rfl) rfl dX0_init_18 ?_
  refine c_aload_n X dX0_init_21 rfl 0 rfl ?_
  refine c_iconst (v := 0) X dX0_init_22 (by decide) ?_
  refine c_put [.ref q1, .int 0, .int 0, .int 0, .int 0] X fo_X0_22 rfl rfl (Nat.le_of_ble_eq_true rfl) rfl dX0_init_23 ?_
  refine c_aload_n X dX0_init_26 rfl 0 rfl ?_
  refine c_iconst (v := 0) X dX0_init_27 (by decide) ?_
  refine c_put [.ref q1, .int 0, .int 0, .int 0, .int 0] X fo_X0_25 rfl rfl (Nat.le_of_ble_eq_true rfl) rfl dX0_init_28 ?_
  exact Hr (fun k => [q1].getD k 0) _ _ dX0_init_31
def fikX1_init (r : Nat → Nat) : List Value := [.ref (r 0), .int 0, .int 0, .int 0, .int 0, .int 0, .int 0, .ref (r 1), .int 0]
def nckX1_init (g : GX) (r : Nat → Nat) : va_W := [(r 0, .inl (g.2.2.1 0, 8, .inl (fun _ => 0))), (r 1, .inl (g.2.2.1 0, 8, .inl (fun _ => 0)))]
set_option maxRecDepth 100000 in
set_option maxHeartbeats 4000000 in
theorem kX1_init (l : Launch) (g : GX) : KT l g yX1_init cX1_init 1 1 2 16 [] 1 [.null, .int 0, .int 0, .int 0, .int 0, .int 0, .int 0, .null, .int 0] (fikX1_init) (nckX1_init g) := by
  refine kt_of rfl rfl (fun _ => Nat.le_of_ble_eq_true rfl) (fun x b hci hg hL hl hC hS X Hr => ?_)
  obtain ⟨b, ci, ws⟩ := b
  have hci : ci = 1 := hci
  subst hci
  subst hg
  refine c_aload_n X dX1_init_0 rfl 0 rfl ?_
  refine c_objInit X k_170 k_77 k_78 (by decide) (Nat.le_of_ble_eq_true rfl) dX1_init_1 ?_
  refine c_aload_n X dX1_init_4 rfl 0 rfl ?_
  refine c_bipush (v := 8) X dX1_init_5 (by decide) ?_
  refine c_newaI 8 X k_141 (by decide) (by decide) (by decide) (by rw [hC]; decide) (by rw [hS]; decide) dX1_init_7 (fun q1 => ?_)
  refine c_eq [(q1, .inl (x.2.1.2.2.1 0, 8, .inl (fun _ => 0)))] rfl ?_
  refine c_put [.ref q1, .int 0, .int 0, .int 0, .int 0, .int 0, .int 0, .null, .int 0] X fo_X1_9 rfl rfl (Nat.le_of_ble_eq_true rfl) rfl dX1_init_9 ?_
  refine c_aload_n X dX1_init_12 rfl 0 rfl ?_
  refine c_iconst (v := 0) X dX1_init_13 (by decide) ?_
  refine c_put [.ref q1, .int 0, .int 0, .int 0, .int 0, .int 0, .int 0, .null, .int 0] X fo_X1_15 rfl rfl (Nat.le_of_ble_eq_true rfl) rfl dX1_init_14 ?_
  refine c_aload_n X dX1_init_17 rfl 0 rfl ?_
  refine c_iconst (v := 0) X dX1_init_18 (by decide) ?_
  refine c_put [.ref q1, .int 0, .int 0, .int 0, .int 0, .int 0, .int 0, .null, .int 0] X fo_X1_19 rfl rfl (Nat.le_of_ble_eq_true rfl) rfl dX1_init_19 ?_
  refine c_aload_n X dX1_init_22 rfl 0 rfl ?_
  refine c_iconst (v := 0) X dX1_init_23 (by decide) ?_
  refine c_put [.ref q1, .int 0, .int 0, .int 0, .int 0, .int 0, .int 0, .null, .int 0] X fo_X1_22 rfl rfl (Nat.le_of_ble_eq_true rfl) rfl dX1_init_24 ?_
  refine c_aload_n X dX1_init_27 rfl 0 rfl ?_
  refine c_iconst (v := 0) X dX1_init_28 (by decide) ?_
  refine c_put [.ref q1, .int 0, .int 0, .int 0, .int 0, .int 0, .int 0, .null, .int 0] X fo_X1_25 rfl rfl (Nat.le_of_ble_eq_true rfl) rfl dX1_init_29 ?_
  refine c_aload_n X dX1_init_32 rfl 0 rfl ?_
  refine c_iconst (v := 0) X dX1_init_33 (by decide) ?_
  refine c_put [.ref q1, .int 0, .int 0, .int 0, .int 0, .int 0, .int 0, .null, .int 0] X fo_X1_28 rfl rfl (Nat.le_of_ble_eq_true rfl) rfl dX1_init_34 ?_
  refine c_aload_n X dX1_init_37 rfl 0 rfl ?_
  refine c_iconst (v := 0) X dX1_init_38 (by decide) ?_
  refine c_put [.ref q1, .int 0, .int 0, .int 0, .int 0, .int 0, .int 0, .null, .int 0] X fo_X1_31 rfl rfl (Nat.le_of_ble_eq_true rfl) rfl dX1_init_39 ?_
  refine c_aload_n X dX1_init_42 rfl 0 rfl ?_
  refine c_bipush (v := 8) X dX1_init_43 (by decide) ?_
  refine c_newaI 8 X k_141 (by decide) (by decide) (by decide) (by rw [hC]; decide) (by rw [hS]; decide) dX1_init_45 (fun q2 => ?_)
  refine c_eq [(q1, .inl (x.2.1.2.2.1 0, 8, .inl (fun _ => 0))), (q2, .inl (x.2.1.2.2.1 0, 8, .inl (fun _ => 0)))] rfl ?_
  refine c_put [.ref q1, .int 0, .int 0, .int 0, .int 0, .int 0, .int 0, .ref q2, .int 0] X fo_X1_34 rfl rfl (Nat.le_of_ble_eq_true rfl) rfl dX1_init_47 ?_
  refine c_aload_n X dX1_init_50 rfl 0 rfl ?_
  refine c_iconst (v := 0) X dX1_init_51 (by decide) ?_
  refine c_put [.ref q1, .int 0, .int 0, .int 0, .int 0, .int 0, .int 0, .ref q2, .int 0] X fo_X1_37 rfl rfl (Nat.le_of_ble_eq_true rfl) rfl dX1_init_52 ?_
  exact Hr (fun k => [q1, q2].getD k 0) _ _ dX1_init_55
def fikX3_init (r : Nat → Nat) : List Value := [.ref (r 0), .ref (r 1), .int (-9)]
def nckX3_init (g : GX) (r : Nat → Nat) : va_W := [(r 0, .inl (g.2.2.1 0, 8, .inl (fun _ => 0))), (r 1, .inl (g.2.2.1 0, 8, .inl (fun _ => 0)))]
set_option maxRecDepth 100000 in
set_option maxHeartbeats 4000000 in
theorem kX3_init (l : Launch) (g : GX) : KT l g yX3_init cX3_init 1 1 2 16 [] 3 [.null, .null, .int 0] (fikX3_init) (nckX3_init g) := by
  refine kt_of rfl rfl (fun _ => Nat.le_of_ble_eq_true rfl) (fun x b hci hg hL hl hC hS X Hr => ?_)
  obtain ⟨b, ci, ws⟩ := b
  have hci : ci = 3 := hci
  subst hci
  subst hg
  refine c_aload_n X dX3_init_0 rfl 0 rfl ?_
  refine c_objInit X k_206 k_77 k_78 (by decide) (Nat.le_of_ble_eq_true rfl) dX3_init_1 ?_
  refine c_aload_n X dX3_init_4 rfl 0 rfl ?_
  refine c_bipush (v := 8) X dX3_init_5 (by decide) ?_
  refine c_newaI 8 X k_141 (by decide) (by decide) (by decide) (by rw [hC]; decide) (by rw [hS]; decide) dX3_init_7 (fun q1 => ?_)
  refine c_eq [(q1, .inl (x.2.1.2.2.1 0, 8, .inl (fun _ => 0)))] rfl ?_
  refine c_put [.ref q1, .null, .int 0] X fo_X3_9 rfl rfl (Nat.le_of_ble_eq_true rfl) rfl dX3_init_9 ?_
  refine c_aload_n X dX3_init_12 rfl 0 rfl ?_
  refine c_bipush (v := 8) X dX3_init_13 (by decide) ?_
  refine c_newaI 8 X k_141 (by decide) (by decide) (by decide) (by rw [hC]; decide) (by rw [hS]; decide) dX3_init_15 (fun q2 => ?_)
  refine c_eq [(q1, .inl (x.2.1.2.2.1 0, 8, .inl (fun _ => 0))), (q2, .inl (x.2.1.2.2.1 0, 8, .inl (fun _ => 0)))] rfl ?_
  refine c_put [.ref q1, .ref q2, .int 0] X fo_X3_15 rfl rfl (Nat.le_of_ble_eq_true rfl) rfl dX3_init_17 ?_
  refine c_aload_n X dX3_init_20 rfl 0 rfl ?_
  refine c_bipush (v := (-9)) X dX3_init_21 (by decide) ?_
  refine c_put [.ref q1, .ref q2, .int (-9)] X fo_X3_18 rfl rfl (Nat.le_of_ble_eq_true rfl) rfl dX3_init_23 ?_
  exact Hr (fun k => [q1, q2].getD k 0) _ _ dX3_init_26
def fikX2_init_40 (r : Nat → Nat) : List Value := [.ref (r 0), .int (-1)]
def nckX2_init_40 (g : GX) (r : Nat → Nat) : va_W := [(r 0, .inl (g.2.2.1 0, 40, .inl (fun _ => 0)))]
set_option maxRecDepth 100000 in
set_option maxHeartbeats 4000000 in
theorem kX2_init_40 (l : Launch) (g : GX) : KT l g yX2_init cX2_init 2 1 1 40 [.int 40] 2 [.null, .int 0] (fikX2_init_40) (nckX2_init_40 g) := by
  refine kt_of rfl rfl (fun _ => Nat.le_of_ble_eq_true rfl) (fun x b hci hg hL hl hC hS X Hr => ?_)
  obtain ⟨b, ci, ws⟩ := b
  have hci : ci = 2 := hci
  subst hci
  subst hg
  refine c_aload_n X dX2_init_0 rfl 0 rfl ?_
  refine c_objInit X k_222 k_77 k_78 (by decide) (Nat.le_of_ble_eq_true rfl) dX2_init_1 ?_
  refine c_aload_n X dX2_init_4 rfl 0 rfl ?_
  refine c_iconst (v := (-1)) X dX2_init_5 (by decide) ?_
  refine c_put [.null, .int (-1)] X fo_X2_9 rfl rfl (Nat.le_of_ble_eq_true rfl) rfl dX2_init_6 ?_
  refine c_aload_n X dX2_init_9 rfl 0 rfl ?_
  refine c_iload_n X dX2_init_10 rfl 1 rfl ?_
  refine c_iconst (v := 0) X dX2_init_11 (by decide) ?_
  refine c_max X k_223 k_224 k_67 k_225 (by decide) (Nat.le_of_ble_eq_true rfl) (by rw [hC]; decide) (by rw [hS]; decide) dX2_init_12 ?_
  refine c_newaI 40 X k_141 (by decide) (by decide) (by decide) (by rw [hC]; decide) (by rw [hS]; decide) dX2_init_15 (fun q1 => ?_)
  refine c_eq [(q1, .inl (x.2.1.2.2.1 0, 40, .inl (fun _ => 0)))] rfl ?_
  refine c_put [.ref q1, .int (-1)] X fo_X2_21 rfl rfl (Nat.le_of_ble_eq_true rfl) rfl dX2_init_17 ?_
  exact Hr (fun k => [q1].getD k 0) _ _ dX2_init_20
def fikX2_init_80 (r : Nat → Nat) : List Value := [.ref (r 0), .int (-1)]
def nckX2_init_80 (g : GX) (r : Nat → Nat) : va_W := [(r 0, .inl (g.2.2.1 0, 80, .inl (fun _ => 0)))]
set_option maxRecDepth 100000 in
set_option maxHeartbeats 4000000 in
theorem kX2_init_80 (l : Launch) (g : GX) : KT l g yX2_init cX2_init 2 1 1 80 [.int 80] 2 [.null, .int 0] (fikX2_init_80) (nckX2_init_80 g) := by
  refine kt_of rfl rfl (fun _ => Nat.le_of_ble_eq_true rfl) (fun x b hci hg hL hl hC hS X Hr => ?_)
  obtain ⟨b, ci, ws⟩ := b
  have hci : ci = 2 := hci
  subst hci
  subst hg
  refine c_aload_n X dX2_init_0 rfl 0 rfl ?_
  refine c_objInit X k_222 k_77 k_78 (by decide) (Nat.le_of_ble_eq_true rfl) dX2_init_1 ?_
  refine c_aload_n X dX2_init_4 rfl 0 rfl ?_
  refine c_iconst (v := (-1)) X dX2_init_5 (by decide) ?_
  refine c_put [.null, .int (-1)] X fo_X2_9 rfl rfl (Nat.le_of_ble_eq_true rfl) rfl dX2_init_6 ?_
  refine c_aload_n X dX2_init_9 rfl 0 rfl ?_
  refine c_iload_n X dX2_init_10 rfl 1 rfl ?_
  refine c_iconst (v := 0) X dX2_init_11 (by decide) ?_
  refine c_max X k_223 k_224 k_67 k_225 (by decide) (Nat.le_of_ble_eq_true rfl) (by rw [hC]; decide) (by rw [hS]; decide) dX2_init_12 ?_
  refine c_newaI 80 X k_141 (by decide) (by decide) (by decide) (by rw [hC]; decide) (by rw [hS]; decide) dX2_init_15 (fun q1 => ?_)
  refine c_eq [(q1, .inl (x.2.1.2.2.1 0, 80, .inl (fun _ => 0)))] rfl ?_
  refine c_put [.ref q1, .int (-1)] X fo_X2_21 rfl rfl (Nat.le_of_ble_eq_true rfl) rfl dX2_init_17 ?_
  exact Hr (fun k => [q1].getD k 0) _ _ dX2_init_20

/-! THE START: the memory at the loop's first head; the worlds put together -/
def M0 : Mm := (fun a j => if a = 95 ∨ a = 98 then -1 else if 13 ≤ a ∧ a < 33 ∧ a % 2 = 1 ∧ j = 1 then -1 else if a = 9 ∧ j = 2 then -9 else 0, fun a j => if (a = 0 ∧ j = 12) ∨ (a = 93 ∧ j = 4) then 1 else 0, fun a f => if a = 4 ∧ f = 0 then 5 else if a = 6 ∧ f = 0 then 7 else R0 a f)
def pl0 : List Nat := [1, 2, 3, 16, 29, 30, 31, 32, 33, 34, 35, 36, 37, 38, 39, 40, 41, 42, 43, 44, 45, 46, 47, 48, 49, 50, 51, 52, 53, 54, 55, 56, 57, 4, 5, 6, 7, 8, 9, 10, 11, 12, 13, 14, 15, 17, 18, 19, 20, 21, 22, 23, 24, 25, 26, 27, 28, 58, 59, 60, 61, 62, 63, 64, 65, 66, 67, 68, 69, 70, 71, 72, 73, 74, 75, 76, 77, 78, 79, 80, 81, 82, 83, 84, 85, 86, 87, 88, 89, 90, 91, 92, 93, 0, 94, 95, 96, 97, 98, 99, 100, 101, 102, 103, 104, 105, 106, 107, 108, 109, 110, 111, 112, 113, 114, 115, 116, 117]
def iv0 : List Nat := [93, 0, 1, 2, 33, 34, 35, 36, 37, 38, 39, 40, 41, 42, 43, 44, 3, 45, 46, 47, 48, 49, 50, 51, 52, 53, 54, 55, 56, 4, 5, 6, 7, 8, 9, 10, 11, 12, 13, 14, 15, 16, 17, 18, 19, 20, 21, 22, 23, 24, 25, 26, 27, 28, 29, 30, 31, 32, 57, 58, 59, 60, 61, 62, 63, 64, 65, 66, 67, 68, 69, 70, 71, 72, 73, 74, 75, 76, 77, 78, 79, 80, 81, 82, 83, 84, 85, 86, 87, 88, 89, 90, 91, 92, 94, 95, 96, 97, 98, 99, 100, 101, 102, 103, 104, 105, 106, 107, 108, 109, 110, 111, 112, 113, 114, 115, 116, 117]
theorem pl_inv : ∀ a, a < 118 → iv0.getD (pl0.getD a 0) 0 = a := by decide +kernel
def FW (g : GX) (q q2 : Nat) (r1 r2 : Nat → Nat) : va_W := (q2, .inr (6, fikX6_init r2)) :: (((q, .inr (5, fikX5_init r1)) :: ([] ++ nckX5_init g r1)) ++ nckX6_init g r2)
def ad0 (g : GX) (q q2 : Nat) (r1 r2 : Nat → Nat) (tL tP : Nat) (a : Nat) : Nat := if a < 118 then ((FW g q q2 r1 r2).map Prod.fst).getD (pl0.getD a 0) 0 else if a = 118 then tL else tP
theorem vat_int {D : va_G} {cl : List vw_C} {H : Heap} {ad : Nat → Nat} {cA : Nat → ClassId} {M : Mm} {q n k a : Nat} {c : ClassId} {f : Nat → Int32} (h : va_at D cl (q, .inl (c, n, .inl f)) H) (hq : ad a = q) (hs : sh a = k) (hk : k < 3) (hc : cA k = c) (hn : ln a = n) (hf : ∀ j, j < n → M.1 a j = f j) : va_at D cl (ad a, ent ad cA M a) H := by
  rw [ent_arr hs hk, hq, hc, hn]
  have h1 : H[q]? = some (vp_cell c (n, .inl f)) := h
  show H[q]? = some (vp_cell c (n, .inl (M.1 a)))
  rw [h1, vp_cell_i, vp_cell_i]
  refine congrArg some ?_
  unfold arrV
  refine congrArg (fun z => ({ cls := c, slots := z, vm := .none } : Cell)) ?_
  apply Array.ext
  · simp
  · intro j h1 h2
    simp only [Array.size_ofFn] at h1
    simp [hf j h1]
theorem vat_ref {D : va_G} {cl : List vw_C} {H : Heap} {ad : Nat → Nat} {cA : Nat → ClassId} {M : Mm} {q n k a : Nat} {c : ClassId} {f : Nat → Option Nat} (h : va_at D cl (q, .inl (c, n, .inr (.inr (.inr (.inr f))))) H) (hq : ad a = q) (hs : sh a = k) (hk : ¬ k < 3) (hk2 : k < 10) (hc : cA k = c) (hn : ln a = n) (hf : ∀ j, j < n → some (ad (M.2.2 a j)) = f j) : va_at D cl (ad a, ent ad cA M a) H := by
  rw [ent_rarr hs hk hk2, hq, hc, hn]
  have h1 : H[q]? = some (vp_cell c (n, .inr (.inr (.inr (.inr f))))) := h
  show H[q]? = some (vp_cell c (n, .inr (.inr (.inr (.inr (fun j => some (ad (M.2.2 a j))))))))
  rw [h1, vp_cell_q, vp_cell_q]
  refine congrArg some ?_
  unfold arrV
  refine congrArg (fun z => ({ cls := c, slots := z, vm := .none } : Cell)) ?_
  apply Array.ext
  · simp
  · intro j h1 h2
    simp only [Array.size_ofFn] at h1
    simp [hf j h1]
theorem vat_obj {D : va_G} {cl : List vw_C} {H : Heap} {ad : Nat → Nat} {cA : Nat → ClassId} {M : Mm} {q ci a : Nat} {fs : List Value} (h : va_at D cl (q, .inr (ci, fs)) H) (hq : ad a = q) (hs : sh a = 10 + ci) (hf : (flds ci).map (fv ad M a) = fs) : va_at D cl (ad a, ent ad cA M a) H := by
  rw [ent_obj hs, hq, hf]
  exact h

set_option maxRecDepth 100000 in
set_option maxHeartbeats 4000000 in
theorem pw0_0 {D : va_G} {cA : Nat → ClassId} {A : Nat → Prop} {H : Heap} {q q2 tL tP : Nat} {r1 r2 : Nat → Nat} {ad1 : Nat → Nat} (hP : va_P D vwCl (FW (D, ad1, cA, A) q q2 r1 r2) H) (i : Nat) (h1 : 0 ≤ i) (h2 : i < 33) : va_at D vwCl (ad0 (D, ad1, cA, A) q q2 r1 r2 tL tP i, ent (ad0 (D, ad1, cA, A) q q2 r1 r2 tL tP) cA M0 i) H := by
  obtain ⟨j, rfl⟩ : ∃ j, i = 0 + j := ⟨i - 0, by omega⟩
  have hj : j < 33 := by omega
  clear h1 h2
  match j, hj with
  | 0, _ => exact vat_obj (hP 1 _ rfl) rfl rfl rfl
  | 1, _ => exact vat_ref (hP 2 _ rfl) rfl rfl (by decide) (by decide) rfl rfl (fun j hj => by match j, hj with | 0, _ => rfl | 1, _ => rfl | 2, _ => rfl | 3, _ => rfl | 4, _ => rfl | 5, _ => rfl)
  | 2, _ => exact vat_ref (hP 3 _ rfl) rfl rfl (by decide) (by decide) rfl rfl (fun j hj => by match j, hj with | 0, _ => rfl | 1, _ => rfl | 2, _ => rfl | 3, _ => rfl)
  | 3, _ => exact vat_ref (hP 16 _ rfl) rfl rfl (by decide) (by decide) rfl rfl (fun j hj => by match j, hj with | 0, _ => rfl | 1, _ => rfl | 2, _ => rfl)
  | 4, _ => exact vat_obj (hP 29 _ rfl) rfl rfl rfl
  | 5, _ => exact vat_int (hP 30 _ rfl) rfl rfl (by decide) rfl rfl (fun j _ => rfl)
  | 6, _ => exact vat_obj (hP 31 _ rfl) rfl rfl rfl
  | 7, _ => exact vat_int (hP 32 _ rfl) rfl rfl (by decide) rfl rfl (fun j _ => rfl)
  | 8, _ => exact vat_int (hP 33 _ rfl) rfl rfl (by decide) rfl rfl (fun j _ => rfl)
  | 9, _ => exact vat_obj (hP 34 _ rfl) rfl rfl rfl
  | 10, _ => exact vat_int (hP 35 _ rfl) rfl rfl (by decide) rfl rfl (fun j _ => rfl)
  | 11, _ => exact vat_int (hP 36 _ rfl) rfl rfl (by decide) rfl rfl (fun j _ => rfl)
  | 12, _ => exact vat_int (hP 37 _ rfl) rfl rfl (by decide) rfl rfl (fun j _ => rfl)
  | 13, _ => exact vat_obj (hP 38 _ rfl) rfl rfl rfl
  | 14, _ => exact vat_int (hP 39 _ rfl) rfl rfl (by decide) rfl rfl (fun j _ => rfl)
  | 15, _ => exact vat_obj (hP 40 _ rfl) rfl rfl rfl
  | 16, _ => exact vat_int (hP 41 _ rfl) rfl rfl (by decide) rfl rfl (fun j _ => rfl)
  | 17, _ => exact vat_obj (hP 42 _ rfl) rfl rfl rfl
  | 18, _ => exact vat_int (hP 43 _ rfl) rfl rfl (by decide) rfl rfl (fun j _ => rfl)
  | 19, _ => exact vat_obj (hP 44 _ rfl) rfl rfl rfl
  | 20, _ => exact vat_int (hP 45 _ rfl) rfl rfl (by decide) rfl rfl (fun j _ => rfl)
  | 21, _ => exact vat_obj (hP 46 _ rfl) rfl rfl rfl
  | 22, _ => exact vat_int (hP 47 _ rfl) rfl rfl (by decide) rfl rfl (fun j _ => rfl)
  | 23, _ => exact vat_obj (hP 48 _ rfl) rfl rfl rfl
  | 24, _ => exact vat_int (hP 49 _ rfl) rfl rfl (by decide) rfl rfl (fun j _ => rfl)
  | 25, _ => exact vat_obj (hP 50 _ rfl) rfl rfl rfl
  | 26, _ => exact vat_int (hP 51 _ rfl) rfl rfl (by decide) rfl rfl (fun j _ => rfl)
  | 27, _ => exact vat_obj (hP 52 _ rfl) rfl rfl rfl
  | 28, _ => exact vat_int (hP 53 _ rfl) rfl rfl (by decide) rfl rfl (fun j _ => rfl)
  | 29, _ => exact vat_obj (hP 54 _ rfl) rfl rfl rfl
  | 30, _ => exact vat_int (hP 55 _ rfl) rfl rfl (by decide) rfl rfl (fun j _ => rfl)
  | 31, _ => exact vat_obj (hP 56 _ rfl) rfl rfl rfl
  | 32, _ => exact vat_int (hP 57 _ rfl) rfl rfl (by decide) rfl rfl (fun j _ => rfl)
  | j + 33, hj => exact absurd hj (by omega)
set_option maxRecDepth 100000 in
set_option maxHeartbeats 4000000 in
theorem pw0_1 {D : va_G} {cA : Nat → ClassId} {A : Nat → Prop} {H : Heap} {q q2 tL tP : Nat} {r1 r2 : Nat → Nat} {ad1 : Nat → Nat} (hP : va_P D vwCl (FW (D, ad1, cA, A) q q2 r1 r2) H) (i : Nat) (h1 : 33 ≤ i) (h2 : i < 57) : va_at D vwCl (ad0 (D, ad1, cA, A) q q2 r1 r2 tL tP i, ent (ad0 (D, ad1, cA, A) q q2 r1 r2 tL tP) cA M0 i) H := by
  obtain ⟨j, rfl⟩ : ∃ j, i = 33 + j := ⟨i - 33, by omega⟩
  have hj : j < 24 := by omega
  clear h1 h2
  match j, hj with
  | 0, _ => exact vat_obj (hP 4 _ rfl) rfl rfl rfl
  | 1, _ => exact vat_int (hP 5 _ rfl) rfl rfl (by decide) rfl rfl (fun j _ => rfl)
  | 2, _ => exact vat_int (hP 6 _ rfl) rfl rfl (by decide) rfl rfl (fun j _ => rfl)
  | 3, _ => exact vat_int (hP 7 _ rfl) rfl rfl (by decide) rfl rfl (fun j _ => rfl)
  | 4, _ => exact vat_ref (hP 8 _ rfl) rfl rfl (by decide) (by decide) rfl rfl (fun j hj => by match j, hj with | 0, _ => rfl | 1, _ => rfl | 2, _ => rfl)
  | 5, _ => exact vat_int (hP 9 _ rfl) rfl rfl (by decide) rfl rfl (fun j _ => rfl)
  | 6, _ => exact vat_int (hP 10 _ rfl) rfl rfl (by decide) rfl rfl (fun j _ => rfl)
  | 7, _ => exact vat_int (hP 11 _ rfl) rfl rfl (by decide) rfl rfl (fun j _ => rfl)
  | 8, _ => exact vat_int (hP 12 _ rfl) rfl rfl (by decide) rfl rfl (fun j _ => rfl)
  | 9, _ => exact vat_int (hP 13 _ rfl) rfl rfl (by decide) rfl rfl (fun j _ => rfl)
  | 10, _ => exact vat_int (hP 14 _ rfl) rfl rfl (by decide) rfl rfl (fun j _ => rfl)
  | 11, _ => exact vat_int (hP 15 _ rfl) rfl rfl (by decide) rfl rfl (fun j _ => rfl)
  | 12, _ => exact vat_obj (hP 17 _ rfl) rfl rfl rfl
  | 13, _ => exact vat_int (hP 18 _ rfl) rfl rfl (by decide) rfl rfl (fun j _ => rfl)
  | 14, _ => exact vat_int (hP 19 _ rfl) rfl rfl (by decide) rfl rfl (fun j _ => rfl)
  | 15, _ => exact vat_int (hP 20 _ rfl) rfl rfl (by decide) rfl rfl (fun j _ => rfl)
  | 16, _ => exact vat_ref (hP 21 _ rfl) rfl rfl (by decide) (by decide) rfl rfl (fun j hj => by match j, hj with | 0, _ => rfl | 1, _ => rfl | 2, _ => rfl)
  | 17, _ => exact vat_int (hP 22 _ rfl) rfl rfl (by decide) rfl rfl (fun j _ => rfl)
  | 18, _ => exact vat_int (hP 23 _ rfl) rfl rfl (by decide) rfl rfl (fun j _ => rfl)
  | 19, _ => exact vat_int (hP 24 _ rfl) rfl rfl (by decide) rfl rfl (fun j _ => rfl)
  | 20, _ => exact vat_int (hP 25 _ rfl) rfl rfl (by decide) rfl rfl (fun j _ => rfl)
  | 21, _ => exact vat_int (hP 26 _ rfl) rfl rfl (by decide) rfl rfl (fun j _ => rfl)
  | 22, _ => exact vat_int (hP 27 _ rfl) rfl rfl (by decide) rfl rfl (fun j _ => rfl)
  | 23, _ => exact vat_int (hP 28 _ rfl) rfl rfl (by decide) rfl rfl (fun j _ => rfl)
  | j + 24, hj => exact absurd hj (by omega)
set_option maxRecDepth 100000 in
set_option maxHeartbeats 4000000 in
theorem pw0_2 {D : va_G} {cA : Nat → ClassId} {A : Nat → Prop} {H : Heap} {q q2 tL tP : Nat} {r1 r2 : Nat → Nat} {ad1 : Nat → Nat} (hP : va_P D vwCl (FW (D, ad1, cA, A) q q2 r1 r2) H) (i : Nat) (h1 : 57 ≤ i) (h2 : i < 93) : va_at D vwCl (ad0 (D, ad1, cA, A) q q2 r1 r2 tL tP i, ent (ad0 (D, ad1, cA, A) q q2 r1 r2 tL tP) cA M0 i) H := by
  obtain ⟨j, rfl⟩ : ∃ j, i = 57 + j := ⟨i - 57, by omega⟩
  have hj : j < 36 := by omega
  clear h1 h2
  match j, hj with
  | 0, _ => exact vat_obj (hP 58 _ rfl) rfl rfl rfl
  | 1, _ => exact vat_int (hP 59 _ rfl) rfl rfl (by decide) rfl rfl (fun j _ => rfl)
  | 2, _ => exact vat_int (hP 60 _ rfl) rfl rfl (by decide) rfl rfl (fun j _ => rfl)
  | 3, _ => exact vat_int (hP 61 _ rfl) rfl rfl (by decide) rfl rfl (fun j _ => rfl)
  | 4, _ => exact vat_ref (hP 62 _ rfl) rfl rfl (by decide) (by decide) rfl rfl (fun j hj => by match j, hj with | 0, _ => rfl | 1, _ => rfl | 2, _ => rfl)
  | 5, _ => exact vat_int (hP 63 _ rfl) rfl rfl (by decide) rfl rfl (fun j _ => rfl)
  | 6, _ => exact vat_int (hP 64 _ rfl) rfl rfl (by decide) rfl rfl (fun j _ => rfl)
  | 7, _ => exact vat_int (hP 65 _ rfl) rfl rfl (by decide) rfl rfl (fun j _ => rfl)
  | 8, _ => exact vat_int (hP 66 _ rfl) rfl rfl (by decide) rfl rfl (fun j _ => rfl)
  | 9, _ => exact vat_int (hP 67 _ rfl) rfl rfl (by decide) rfl rfl (fun j _ => rfl)
  | 10, _ => exact vat_int (hP 68 _ rfl) rfl rfl (by decide) rfl rfl (fun j _ => rfl)
  | 11, _ => exact vat_int (hP 69 _ rfl) rfl rfl (by decide) rfl rfl (fun j _ => rfl)
  | 12, _ => exact vat_obj (hP 70 _ rfl) rfl rfl rfl
  | 13, _ => exact vat_int (hP 71 _ rfl) rfl rfl (by decide) rfl rfl (fun j _ => rfl)
  | 14, _ => exact vat_int (hP 72 _ rfl) rfl rfl (by decide) rfl rfl (fun j _ => rfl)
  | 15, _ => exact vat_int (hP 73 _ rfl) rfl rfl (by decide) rfl rfl (fun j _ => rfl)
  | 16, _ => exact vat_ref (hP 74 _ rfl) rfl rfl (by decide) (by decide) rfl rfl (fun j hj => by match j, hj with | 0, _ => rfl | 1, _ => rfl | 2, _ => rfl)
  | 17, _ => exact vat_int (hP 75 _ rfl) rfl rfl (by decide) rfl rfl (fun j _ => rfl)
  | 18, _ => exact vat_int (hP 76 _ rfl) rfl rfl (by decide) rfl rfl (fun j _ => rfl)
  | 19, _ => exact vat_int (hP 77 _ rfl) rfl rfl (by decide) rfl rfl (fun j _ => rfl)
  | 20, _ => exact vat_int (hP 78 _ rfl) rfl rfl (by decide) rfl rfl (fun j _ => rfl)
  | 21, _ => exact vat_int (hP 79 _ rfl) rfl rfl (by decide) rfl rfl (fun j _ => rfl)
  | 22, _ => exact vat_int (hP 80 _ rfl) rfl rfl (by decide) rfl rfl (fun j _ => rfl)
  | 23, _ => exact vat_int (hP 81 _ rfl) rfl rfl (by decide) rfl rfl (fun j _ => rfl)
  | 24, _ => exact vat_obj (hP 82 _ rfl) rfl rfl rfl
  | 25, _ => exact vat_int (hP 83 _ rfl) rfl rfl (by decide) rfl rfl (fun j _ => rfl)
  | 26, _ => exact vat_int (hP 84 _ rfl) rfl rfl (by decide) rfl rfl (fun j _ => rfl)
  | 27, _ => exact vat_int (hP 85 _ rfl) rfl rfl (by decide) rfl rfl (fun j _ => rfl)
  | 28, _ => exact vat_ref (hP 86 _ rfl) rfl rfl (by decide) (by decide) rfl rfl (fun j hj => by match j, hj with | 0, _ => rfl | 1, _ => rfl | 2, _ => rfl)
  | 29, _ => exact vat_int (hP 87 _ rfl) rfl rfl (by decide) rfl rfl (fun j _ => rfl)
  | 30, _ => exact vat_int (hP 88 _ rfl) rfl rfl (by decide) rfl rfl (fun j _ => rfl)
  | 31, _ => exact vat_int (hP 89 _ rfl) rfl rfl (by decide) rfl rfl (fun j _ => rfl)
  | 32, _ => exact vat_int (hP 90 _ rfl) rfl rfl (by decide) rfl rfl (fun j _ => rfl)
  | 33, _ => exact vat_int (hP 91 _ rfl) rfl rfl (by decide) rfl rfl (fun j _ => rfl)
  | 34, _ => exact vat_int (hP 92 _ rfl) rfl rfl (by decide) rfl rfl (fun j _ => rfl)
  | 35, _ => exact vat_int (hP 93 _ rfl) rfl rfl (by decide) rfl rfl (fun j _ => rfl)
  | j + 36, hj => exact absurd hj (by omega)
set_option maxRecDepth 100000 in
set_option maxHeartbeats 4000000 in
theorem pw0_3 {D : va_G} {cA : Nat → ClassId} {A : Nat → Prop} {H : Heap} {q q2 tL tP : Nat} {r1 r2 : Nat → Nat} {ad1 : Nat → Nat} (hP : va_P D vwCl (FW (D, ad1, cA, A) q q2 r1 r2) H) (i : Nat) (h1 : 93 ≤ i) (h2 : i < 118) : va_at D vwCl (ad0 (D, ad1, cA, A) q q2 r1 r2 tL tP i, ent (ad0 (D, ad1, cA, A) q q2 r1 r2 tL tP) cA M0 i) H := by
  obtain ⟨j, rfl⟩ : ∃ j, i = 93 + j := ⟨i - 93, by omega⟩
  have hj : j < 25 := by omega
  clear h1 h2
  match j, hj with
  | 0, _ => exact vat_obj (hP 0 _ rfl) rfl rfl rfl
  | 1, _ => exact vat_int (hP 94 _ rfl) rfl rfl (by decide) rfl rfl (fun j _ => rfl)
  | 2, _ => exact vat_int (hP 95 _ rfl) rfl rfl (by decide) rfl rfl (fun j hj => by match j, hj with | 0, _ => rfl | 1, _ => rfl | 2, _ => rfl | 3, _ => rfl | 4, _ => rfl | 5, _ => rfl)
  | 3, _ => exact vat_int (hP 96 _ rfl) rfl rfl (by decide) rfl rfl (fun j _ => rfl)
  | 4, _ => exact vat_int (hP 97 _ rfl) rfl rfl (by decide) rfl rfl (fun j _ => rfl)
  | 5, _ => exact vat_int (hP 98 _ rfl) rfl rfl (by decide) rfl rfl (fun j hj => by match j, hj with | 0, _ => rfl | 1, _ => rfl | 2, _ => rfl | 3, _ => rfl)
  | 6, _ => exact vat_int (hP 99 _ rfl) rfl rfl (by decide) rfl rfl (fun j _ => rfl)
  | 7, _ => exact vat_int (hP 100 _ rfl) rfl rfl (by decide) rfl rfl (fun j _ => rfl)
  | 8, _ => exact vat_int (hP 101 _ rfl) rfl rfl (by decide) rfl rfl (fun j _ => rfl)
  | 9, _ => exact vat_int (hP 102 _ rfl) rfl rfl (by decide) rfl rfl (fun j _ => rfl)
  | 10, _ => exact vat_int (hP 103 _ rfl) rfl rfl (by decide) rfl rfl (fun j _ => rfl)
  | 11, _ => exact vat_int (hP 104 _ rfl) rfl rfl (by decide) rfl rfl (fun j _ => rfl)
  | 12, _ => exact vat_int (hP 105 _ rfl) rfl rfl (by decide) rfl rfl (fun j _ => rfl)
  | 13, _ => exact vat_int (hP 106 _ rfl) rfl rfl (by decide) rfl rfl (fun j _ => rfl)
  | 14, _ => exact vat_int (hP 107 _ rfl) rfl rfl (by decide) rfl rfl (fun j _ => rfl)
  | 15, _ => exact vat_int (hP 108 _ rfl) rfl rfl (by decide) rfl rfl (fun j _ => rfl)
  | 16, _ => exact vat_int (hP 109 _ rfl) rfl rfl (by decide) rfl rfl (fun j _ => rfl)
  | 17, _ => exact vat_int (hP 110 _ rfl) rfl rfl (by decide) rfl rfl (fun j _ => rfl)
  | 18, _ => exact vat_int (hP 111 _ rfl) rfl rfl (by decide) rfl rfl (fun j _ => rfl)
  | 19, _ => exact vat_int (hP 112 _ rfl) rfl rfl (by decide) rfl rfl (fun j _ => rfl)
  | 20, _ => exact vat_int (hP 113 _ rfl) rfl rfl (by decide) rfl rfl (fun j _ => rfl)
  | 21, _ => exact vat_int (hP 114 _ rfl) rfl rfl (by decide) rfl rfl (fun j _ => rfl)
  | 22, _ => exact vat_int (hP 115 _ rfl) rfl rfl (by decide) rfl rfl (fun j _ => rfl)
  | 23, _ => exact vat_int (hP 116 _ rfl) rfl rfl (by decide) rfl rfl (fun j _ => rfl)
  | 24, _ => exact vat_int (hP 117 _ rfl) rfl rfl (by decide) rfl rfl (fun j _ => rfl)
  | j + 25, hj => exact absurd hj (by omega)
theorem pw0 {D : va_G} {cA : Nat → ClassId} {A : Nat → Prop} {H : Heap} {q q2 tL tP : Nat} {r1 r2 : Nat → Nat} {ad1 : Nat → Nat} (hP : va_P D vwCl (FW (D, ad1, cA, A) q q2 r1 r2) H) : PW (D, ad0 (D, ad1, cA, A) q q2 r1 r2 tL tP, cA, A) M0 H := by
  intro k z hz
  have hk : k < NW := by
    have := (List.getElem?_eq_some_iff.mp hz).1
    simpa [wsM] using this
  have hk : k < 118 := hk
  rw [wsM_at _ _ _ (show k < NW from hk)] at hz
  cases hz
  rcases Nat.lt_or_ge k 33 with h | h
  · exact pw0_0 hP k (Nat.zero_le _) h
  · rcases Nat.lt_or_ge k 57 with h2 | h2
    · exact pw0_1 hP k h h2
    · rcases Nat.lt_or_ge k 93 with h3 | h3
      · exact pw0_2 hP k h2 h3
      · exact pw0_3 hP k h3 hk
theorem pl_lt : ∀ a, a < 118 → pl0.getD a 0 < 118 := by decide +kernel
theorem fw_len (g : GX) (q q2 : Nat) (r1 r2 : Nat → Nat) : (FW g q q2 r1 r2).length = 118 := rfl
theorem ij0 {D : va_G} {cA : Nat → ClassId} {A : Nat → Prop} {q q2 tL tP : Nat} {r1 r2 : Nat → Nat} {ad1 : Nat → Nat} (hD : va_D A (FW (D, ad1, cA, A) q q2 r1 r2)) : IJ (D, ad0 (D, ad1, cA, A) q q2 r1 r2 tL tP, cA, A) := by
  have key : ∀ i, i < 118 → ∃ z, (FW (D, ad1, cA, A) q q2 r1 r2)[pl0.getD i 0]? = some z ∧ ad0 (D, ad1, cA, A) q q2 r1 r2 tL tP i = z.1 := by
    intro i hi
    have hl := pl_lt i hi
    have hl2 : pl0.getD i 0 < (FW (D, ad1, cA, A) q q2 r1 r2).length := by rw [fw_len]; exact hl
    refine ⟨(FW (D, ad1, cA, A) q q2 r1 r2)[pl0.getD i 0], List.getElem?_eq_getElem hl2, ?_⟩
    unfold ad0
    rw [if_pos hi, List.getD_eq_getElem?_getD, List.getElem?_map, List.getElem?_eq_getElem hl2]
    rfl
  refine ⟨fun i j hi hj h => ?_, fun i hi => ?_⟩
  · obtain ⟨z, h1, e1⟩ := key i hi
    obtain ⟨y, h2, e2⟩ := key j hj
    have := hD.1 _ _ z y h1 h2 (by rw [← e1, ← e2]; exact h)
    rw [← pl_inv i hi, ← pl_inv j hj, this]
  · obtain ⟨z, h1, e1⟩ := key i hi
    show A (ad0 (D, ad1, cA, A) q q2 r1 r2 tL tP i)
    rw [e1]
    exact hD.2 _ z h1

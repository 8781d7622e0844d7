/-! THE LAW's loop on the memory: every call answers alike, so the loop ends with 1 -/
def Good {α : Type} (Rel : Mm → Prop) (o1 : Option (α × Mm)) (o2 : Mm → Option (α × Mm)) : Prop := ∃ r M1 M2, o1 = some (r, M1) ∧ o2 M1 = some (r, M2) ∧ Rel M2
theorem lg_self (x : Int64) : lg_cmp x x = 0 := by
  unfold lg_cmp
  rw [if_neg (by simp), if_pos rfl]
theorem nI_k (i k : Nat) : nI i + nI k = nI (i + k) := nI_pl i k
theorem i32_sub {a b : Int32} (h1 : -(2 ^ 31 : Int) ≤ a.toInt - b.toInt) (h2 : a.toInt - b.toInt < 2 ^ 31) : (a - b).toInt = a.toInt - b.toInt := by
  rw [Int32.toInt_sub]
  exact Int.bmod_eq_of_le (by simpa using h1) (by simpa using h2)
def OPS (Rel : Mm → Prop) : Prop :=
  (∀ M, Rel M → ∀ a b : Int32, Good Rel (fX5_row 0 a b M) (fX6_row 93 a b)) ∧
  (∀ M, Rel M → ∀ a b c : Int32, Good Rel (fX5_lay 0 a b c M) (fX6_lay 93 a b c)) ∧
  (∀ M, Rel M → ∀ a b : Int32, Good Rel (fX5_at 0 a b M) (fX6_at 93 a b)) ∧
  (∀ M, Rel M → ∀ a : Int32, Good Rel (fX5_tear 0 a M) (fX6_tear 93 a)) ∧
  (∀ M, Rel M → ∀ a b c d e : Int32, Good Rel (fX5_copy 0 a b c d e M) (fX6_copy 93 a b c d e)) ∧
  (∀ M, Rel M → ∀ a : Int32, Good Rel (fX5_mean 0 a M) (fX6_mean 93 a)) ∧
  (∀ M, Rel M → ∀ a b : Int32, Good Rel (fX5_text 0 a b M) (fX6_text 93 a b)) ∧
  (∀ M, Rel M → ∀ a b c : Int32, Good Rel (fX5_put 0 a b c M) (fX6_put 93 a b c)) ∧
  (∀ M, Rel M → ∀ a : Int32, Good Rel (fX5_fault 0 a M) (fX6_fault 93 a)) ∧
  (∀ M, Rel M → ∀ a : Int32, Good Rel (fX5_wood 0 a M) (fX6_wood 93 a)) ∧
  (∀ M, Rel M → ∀ a b : Int32, Good Rel (fX5_place 0 a b M) (fX6_place 93 a b)) ∧
  (∀ M, Rel M → ∀ a b : Int32, Good Rel (fX5_mark 0 a b M) (fX6_mark 93 a b)) ∧
  (∀ M, Rel M → ∀ a b c : Int32, Good Rel (fX5_path 0 a b c M) (fX6_path 93 a b c)) ∧
  (∀ M, Rel M → ∀ a : Int32, Good Rel (fX5_bird 0 a M) (fX6_bird 93 a)) ∧
  (∀ M, Rel M → ∀ a : Int32, Good Rel (fX5_pocket 0 a M) (fX6_pocket 93 a)) ∧
  (∀ M, Rel M → ∀ a : Int32, Good Rel (fX5_lead 0 a M) (fX6_lead 93 a)) ∧
  (∀ M, Rel M → ∀ a : Int32, Good Rel (fX5_drop 0 a M) (fX6_drop 93 a)) ∧
  (∀ M, Rel M → ∀ a b : Int32, Good Rel (fX5_fool 0 a b M) (fX6_fool 93 a b)) ∧
  (∀ M, Rel M → ∀ a b : Int32, Good Rel (fX5_take 0 a b M) (fX6_take 93 a b)) ∧
  (∀ M, Rel M → ∀ a : Int32, Good Rel (fX5_hours 0 a M) (fX6_hours 93 a)) ∧
  (∀ M, Rel M → Good Rel (fX5_here 0 M) (fX6_here 93)) ∧
  (∀ M, Rel M → ∀ a : Int32, Good Rel (fX5_led 0 a M) (fX6_led 93 a)) ∧
  (∀ M, Rel M → ∀ a : Int32, Good Rel (fX5_keep 0 a M) (fX6_keep 93 a)) ∧
  (∀ M, Rel M → ∀ a : Int32, Good Rel (fX5_on 0 a M) (fX6_on 93 a)) ∧
  (∀ M, Rel M → Good Rel (fX5_home 0 M) (fX6_home 93)) ∧
  (∀ M, Rel M → ∀ a : Int32, Good Rel (fX5_back 0 a M) (fX6_back 93 a)) ∧
  (∀ M, Rel M → Good Rel (fX5_wrong 0 M) (fX6_wrong 93)) ∧
  (∀ M, Rel M → Good Rel (fX5_waits 0 M) (fX6_waits 93)) ∧
  (∀ M, Rel M → Good Rel (fX5_nearest 0 M) (fX6_nearest 93)) ∧
  (∀ M, Rel M → ∀ a b : Int32, Good Rel (fX5_fewest 0 a b M) (fX6_fewest 93 a b)) ∧
  (∀ M, Rel M → ∀ a b : Int32, Good Rel (fX5_surest 0 a b M) (fX6_surest 93 a b)) ∧
  (∀ M, Rel M → Good Rel (fX5_astray 0 M) (fX6_astray 93)) ∧
  (∀ M, Rel M → Good Rel (fX5_helps 0 M) (fX6_helps 93)) ∧
  (∀ M, Rel M → Good Rel (fX5_odds 0 M) (fX6_odds 93)) ∧
  (∀ M, Rel M → Good Rel (fX5_best 0 M) (fX6_best 93)) ∧
  (∀ M, Rel M → ∀ a : Int32, Good Rel (fX5_ways 0 a M) (fX6_ways 93 a)) ∧
  (∀ M, Rel M → ∀ a : Int32, Good Rel (fX5_sure 0 a M) (fX6_sure 93 a)) ∧
  (∀ M, Rel M → ∀ a b : Int32, Good Rel (fX5_was 0 a b M) (fX6_was 93 a b)) ∧
  (∀ M, Rel M → Good Rel (fX5_bare 0 M) (fX6_bare 93)) ∧
  (∀ M, Rel M → ∀ a b : Int32, Good Rel (fX5_lots 0 a b M) (fX6_lots 93 a b)) ∧
  (∀ M, Rel M → Good Rel (fX5_asked 0 M) (fX6_asked 93)) ∧
  (∀ M, Rel M → Good Rel (fX5_upper 0 M) (fX6_upper 93)) ∧
  (∀ M, Rel M → Good Rel (fX5_lower 0 M) (fX6_lower 93)) ∧
  (∀ M, Rel M → ∀ a : Int32, Good Rel (fX5_count 0 a M) (fX6_count 93 a)) ∧
  (∀ M, Rel M → Good Rel (fX5_finding 0 M) (fX6_finding 93)) ∧
  (∀ M, Rel M → ∀ a : Int32, Good Rel (fX5_findings 0 a M) (fX6_findings 93 a)) ∧
  (∀ M, Rel M → Good Rel (fX5_digest 0 M) (fX6_digest 93))
set_option maxHeartbeats 1000000 in
theorem eL_0 {Rel : Mm → Prop} {xs : Nat → Int32} {L i : Nat} {M : Mm} (hg : ∀ a b : Int32, Good Rel (fX5_row 0 a b M) (fX6_row 93 a b)) (hi : i + 5 < L) (hL : L < 2 ^ 31) : ∃ M2, cL_0 xs L 0 93 (nI i) M = some (.inl (1, 0, 93, nI (i + 6), M2)) ∧ Rel M2 := by
  obtain ⟨r, M1, M2, h1, h2, h3⟩ := hg (xs (i + 1)) (xs (i + 2))
  refine ⟨M2, ?_, h3⟩
  unfold cL_0 bL_law_1380
  rw [show (6 : Int32) = nI 6 from rfl, show (1 : Int32) = nI 1 from rfl, show (2 : Int32) = nI 2 from rfl]
  rw [nI_k i 6, nI_k i 1, nI_k i 2]
  rw [ldS_ok (show i + 1 < L by omega) hL, ldS_ok (show i + 2 < L by omega) hL, h1, cal_ok]
  rw [ldS_ok (show i + 1 < L by omega) hL, ldS_ok (show i + 2 < L by omega) hL, h2, cal_ok, if_pos rfl]
set_option maxHeartbeats 1000000 in
theorem eL_1 {Rel : Mm → Prop} {xs : Nat → Int32} {L i : Nat} {M : Mm} (hg : ∀ a b c : Int32, Good Rel (fX5_lay 0 a b c M) (fX6_lay 93 a b c)) (hi : i + 5 < L) (hL : L < 2 ^ 31) : ∃ M2, cL_1 xs L 0 93 (nI i) M = some (.inl (1, 0, 93, nI (i + 6), M2)) ∧ Rel M2 := by
  obtain ⟨r, M1, M2, h1, h2, h3⟩ := hg (xs (i + 1)) (xs (i + 2)) (xs (i + 3))
  refine ⟨M2, ?_, h3⟩
  unfold cL_1 bL_law_1380
  rw [show (6 : Int32) = nI 6 from rfl, show (1 : Int32) = nI 1 from rfl, show (2 : Int32) = nI 2 from rfl, show (3 : Int32) = nI 3 from rfl]
  rw [nI_k i 6, nI_k i 1, nI_k i 2, nI_k i 3]
  rw [ldS_ok (show i + 1 < L by omega) hL, ldS_ok (show i + 2 < L by omega) hL, ldS_ok (show i + 3 < L by omega) hL, h1, cal_ok]
  rw [ldS_ok (show i + 1 < L by omega) hL, ldS_ok (show i + 2 < L by omega) hL, ldS_ok (show i + 3 < L by omega) hL, h2, cal_ok, if_pos rfl]
set_option maxHeartbeats 1000000 in
theorem eL_2 {Rel : Mm → Prop} {xs : Nat → Int32} {L i : Nat} {M : Mm} (hg : ∀ a b : Int32, Good Rel (fX5_at 0 a b M) (fX6_at 93 a b)) (hi : i + 5 < L) (hL : L < 2 ^ 31) : ∃ M2, cL_2 xs L 0 93 (nI i) M = some (.inl (1, 0, 93, nI (i + 6), M2)) ∧ Rel M2 := by
  obtain ⟨r, M1, M2, h1, h2, h3⟩ := hg (xs (i + 1)) (xs (i + 2))
  refine ⟨M2, ?_, h3⟩
  unfold cL_2 bL_law_1380
  rw [show (6 : Int32) = nI 6 from rfl, show (1 : Int32) = nI 1 from rfl, show (2 : Int32) = nI 2 from rfl]
  rw [nI_k i 6, nI_k i 1, nI_k i 2]
  rw [ldS_ok (show i + 1 < L by omega) hL, ldS_ok (show i + 2 < L by omega) hL, h1, cal_ok]
  rw [ldS_ok (show i + 1 < L by omega) hL, ldS_ok (show i + 2 < L by omega) hL, h2, cal_ok, if_pos rfl]
set_option maxHeartbeats 1000000 in
theorem eL_3 {Rel : Mm → Prop} {xs : Nat → Int32} {L i : Nat} {M : Mm} (hg : ∀ a : Int32, Good Rel (fX5_tear 0 a M) (fX6_tear 93 a)) (hi : i + 5 < L) (hL : L < 2 ^ 31) : ∃ M2, cL_3 xs L 0 93 (nI i) M = some (.inl (1, 0, 93, nI (i + 6), M2)) ∧ Rel M2 := by
  obtain ⟨r, M1, M2, h1, h2, h3⟩ := hg (xs (i + 1))
  refine ⟨M2, ?_, h3⟩
  unfold cL_3 bL_law_1380
  rw [show (6 : Int32) = nI 6 from rfl, show (1 : Int32) = nI 1 from rfl]
  rw [nI_k i 6, nI_k i 1]
  rw [ldS_ok (show i + 1 < L by omega) hL, h1, cal_ok]
  rw [ldS_ok (show i + 1 < L by omega) hL, h2, cal_ok, if_pos rfl]
set_option maxHeartbeats 1000000 in
theorem eL_4 {Rel : Mm → Prop} {xs : Nat → Int32} {L i : Nat} {M : Mm} (hg : ∀ a b c d e : Int32, Good Rel (fX5_copy 0 a b c d e M) (fX6_copy 93 a b c d e)) (hi : i + 5 < L) (hL : L < 2 ^ 31) : ∃ M2, cL_4 xs L 0 93 (nI i) M = some (.inl (1, 0, 93, nI (i + 6), M2)) ∧ Rel M2 := by
  obtain ⟨r, M1, M2, h1, h2, h3⟩ := hg (xs (i + 1)) (xs (i + 2)) (xs (i + 3)) (xs (i + 4)) (xs (i + 5))
  refine ⟨M2, ?_, h3⟩
  unfold cL_4 bL_law_1380
  rw [show (6 : Int32) = nI 6 from rfl, show (1 : Int32) = nI 1 from rfl, show (2 : Int32) = nI 2 from rfl, show (3 : Int32) = nI 3 from rfl, show (4 : Int32) = nI 4 from rfl, show (5 : Int32) = nI 5 from rfl]
  rw [nI_k i 6, nI_k i 1, nI_k i 2, nI_k i 3, nI_k i 4, nI_k i 5]
  rw [ldS_ok (show i + 1 < L by omega) hL, ldS_ok (show i + 2 < L by omega) hL, ldS_ok (show i + 3 < L by omega) hL, ldS_ok (show i + 4 < L by omega) hL, ldS_ok (show i + 5 < L by omega) hL, h1, cal_ok]
  rw [ldS_ok (show i + 1 < L by omega) hL, ldS_ok (show i + 2 < L by omega) hL, ldS_ok (show i + 3 < L by omega) hL, ldS_ok (show i + 4 < L by omega) hL, ldS_ok (show i + 5 < L by omega) hL, h2, cal_ok, if_pos rfl]
set_option maxHeartbeats 1000000 in
theorem eL_5 {Rel : Mm → Prop} {xs : Nat → Int32} {L i : Nat} {M : Mm} (hg : ∀ a : Int32, Good Rel (fX5_mean 0 a M) (fX6_mean 93 a)) (hi : i + 5 < L) (hL : L < 2 ^ 31) : ∃ M2, cL_5 xs L 0 93 (nI i) M = some (.inl (1, 0, 93, nI (i + 6), M2)) ∧ Rel M2 := by
  obtain ⟨r, M1, M2, h1, h2, h3⟩ := hg (xs (i + 1))
  refine ⟨M2, ?_, h3⟩
  unfold cL_5 bL_law_1380
  rw [show (6 : Int32) = nI 6 from rfl, show (1 : Int32) = nI 1 from rfl]
  rw [nI_k i 6, nI_k i 1]
  rw [ldS_ok (show i + 1 < L by omega) hL, h1, cal_ok]
  rw [ldS_ok (show i + 1 < L by omega) hL, h2, cal_ok, if_pos rfl]
set_option maxHeartbeats 1000000 in
theorem eL_6 {Rel : Mm → Prop} {xs : Nat → Int32} {L i : Nat} {M : Mm} (hg : ∀ a b : Int32, Good Rel (fX5_text 0 a b M) (fX6_text 93 a b)) (hi : i + 5 < L) (hL : L < 2 ^ 31) : ∃ M2, cL_6 xs L 0 93 (nI i) M = some (.inl (1, 0, 93, nI (i + 6), M2)) ∧ Rel M2 := by
  obtain ⟨r, M1, M2, h1, h2, h3⟩ := hg (xs (i + 1)) (xs (i + 2))
  refine ⟨M2, ?_, h3⟩
  unfold cL_6 bL_law_1380
  rw [show (6 : Int32) = nI 6 from rfl, show (1 : Int32) = nI 1 from rfl, show (2 : Int32) = nI 2 from rfl]
  rw [nI_k i 6, nI_k i 1, nI_k i 2]
  rw [ldS_ok (show i + 1 < L by omega) hL, ldS_ok (show i + 2 < L by omega) hL, h1, cal_ok]
  rw [ldS_ok (show i + 1 < L by omega) hL, ldS_ok (show i + 2 < L by omega) hL, h2, cal_ok, if_pos rfl]
set_option maxHeartbeats 1000000 in
theorem eL_7 {Rel : Mm → Prop} {xs : Nat → Int32} {L i : Nat} {M : Mm} (hg : ∀ a b c : Int32, Good Rel (fX5_put 0 a b c M) (fX6_put 93 a b c)) (hi : i + 5 < L) (hL : L < 2 ^ 31) : ∃ M2, cL_7 xs L 0 93 (nI i) M = some (.inl (1, 0, 93, nI (i + 6), M2)) ∧ Rel M2 := by
  obtain ⟨r, M1, M2, h1, h2, h3⟩ := hg (xs (i + 1)) (xs (i + 2)) (xs (i + 3))
  refine ⟨M2, ?_, h3⟩
  unfold cL_7 bL_law_1380
  rw [show (6 : Int32) = nI 6 from rfl, show (1 : Int32) = nI 1 from rfl, show (2 : Int32) = nI 2 from rfl, show (3 : Int32) = nI 3 from rfl]
  rw [nI_k i 6, nI_k i 1, nI_k i 2, nI_k i 3]
  rw [ldS_ok (show i + 1 < L by omega) hL, ldS_ok (show i + 2 < L by omega) hL, ldS_ok (show i + 3 < L by omega) hL, h1, cal_ok]
  rw [ldS_ok (show i + 1 < L by omega) hL, ldS_ok (show i + 2 < L by omega) hL, ldS_ok (show i + 3 < L by omega) hL, h2, cal_ok, if_pos rfl]
set_option maxHeartbeats 1000000 in
theorem eL_8 {Rel : Mm → Prop} {xs : Nat → Int32} {L i : Nat} {M : Mm} (hg : ∀ a : Int32, Good Rel (fX5_fault 0 a M) (fX6_fault 93 a)) (hi : i + 5 < L) (hL : L < 2 ^ 31) : ∃ M2, cL_8 xs L 0 93 (nI i) M = some (.inl (1, 0, 93, nI (i + 6), M2)) ∧ Rel M2 := by
  obtain ⟨r, M1, M2, h1, h2, h3⟩ := hg (xs (i + 1))
  refine ⟨M2, ?_, h3⟩
  unfold cL_8 bL_law_1380
  rw [show (6 : Int32) = nI 6 from rfl, show (1 : Int32) = nI 1 from rfl]
  rw [nI_k i 6, nI_k i 1]
  rw [ldS_ok (show i + 1 < L by omega) hL, h1, cal_ok]
  rw [ldS_ok (show i + 1 < L by omega) hL, h2, cal_ok, if_pos rfl]
set_option maxHeartbeats 1000000 in
theorem eL_9 {Rel : Mm → Prop} {xs : Nat → Int32} {L i : Nat} {M : Mm} (hg : ∀ a : Int32, Good Rel (fX5_wood 0 a M) (fX6_wood 93 a)) (hi : i + 5 < L) (hL : L < 2 ^ 31) : ∃ M2, cL_9 xs L 0 93 (nI i) M = some (.inl (1, 0, 93, nI (i + 6), M2)) ∧ Rel M2 := by
  obtain ⟨r, M1, M2, h1, h2, h3⟩ := hg (xs (i + 1))
  refine ⟨M2, ?_, h3⟩
  unfold cL_9 bL_law_1380
  rw [show (6 : Int32) = nI 6 from rfl, show (1 : Int32) = nI 1 from rfl]
  rw [nI_k i 6, nI_k i 1]
  rw [ldS_ok (show i + 1 < L by omega) hL, h1, cal_ok]
  rw [ldS_ok (show i + 1 < L by omega) hL, h2, cal_ok, if_pos rfl]
set_option maxHeartbeats 1000000 in
theorem eL_10 {Rel : Mm → Prop} {xs : Nat → Int32} {L i : Nat} {M : Mm} (hg : ∀ a b : Int32, Good Rel (fX5_place 0 a b M) (fX6_place 93 a b)) (hi : i + 5 < L) (hL : L < 2 ^ 31) : ∃ M2, cL_10 xs L 0 93 (nI i) M = some (.inl (1, 0, 93, nI (i + 6), M2)) ∧ Rel M2 := by
  obtain ⟨r, M1, M2, h1, h2, h3⟩ := hg (xs (i + 1)) (xs (i + 2))
  refine ⟨M2, ?_, h3⟩
  unfold cL_10 bL_law_1380
  rw [show (6 : Int32) = nI 6 from rfl, show (1 : Int32) = nI 1 from rfl, show (2 : Int32) = nI 2 from rfl]
  rw [nI_k i 6, nI_k i 1, nI_k i 2]
  rw [ldS_ok (show i + 1 < L by omega) hL, ldS_ok (show i + 2 < L by omega) hL, h1, cal_ok]
  rw [ldS_ok (show i + 1 < L by omega) hL, ldS_ok (show i + 2 < L by omega) hL, h2, cal_ok, if_pos rfl]
set_option maxHeartbeats 1000000 in
theorem eL_11 {Rel : Mm → Prop} {xs : Nat → Int32} {L i : Nat} {M : Mm} (hg : ∀ a b : Int32, Good Rel (fX5_mark 0 a b M) (fX6_mark 93 a b)) (hi : i + 5 < L) (hL : L < 2 ^ 31) : ∃ M2, cL_11 xs L 0 93 (nI i) M = some (.inl (1, 0, 93, nI (i + 6), M2)) ∧ Rel M2 := by
  obtain ⟨r, M1, M2, h1, h2, h3⟩ := hg (xs (i + 1)) (xs (i + 2))
  refine ⟨M2, ?_, h3⟩
  unfold cL_11 bL_law_1380
  rw [show (6 : Int32) = nI 6 from rfl, show (1 : Int32) = nI 1 from rfl, show (2 : Int32) = nI 2 from rfl]
  rw [nI_k i 6, nI_k i 1, nI_k i 2]
  rw [ldS_ok (show i + 1 < L by omega) hL, ldS_ok (show i + 2 < L by omega) hL, h1, cal_ok]
  rw [ldS_ok (show i + 1 < L by omega) hL, ldS_ok (show i + 2 < L by omega) hL, h2, cal_ok, if_pos rfl]
set_option maxHeartbeats 1000000 in
theorem eL_12 {Rel : Mm → Prop} {xs : Nat → Int32} {L i : Nat} {M : Mm} (hg : ∀ a b c : Int32, Good Rel (fX5_path 0 a b c M) (fX6_path 93 a b c)) (hi : i + 5 < L) (hL : L < 2 ^ 31) : ∃ M2, cL_12 xs L 0 93 (nI i) M = some (.inl (1, 0, 93, nI (i + 6), M2)) ∧ Rel M2 := by
  obtain ⟨r, M1, M2, h1, h2, h3⟩ := hg (xs (i + 1)) (xs (i + 2)) (xs (i + 3))
  refine ⟨M2, ?_, h3⟩
  unfold cL_12 bL_law_1380
  rw [show (6 : Int32) = nI 6 from rfl, show (1 : Int32) = nI 1 from rfl, show (2 : Int32) = nI 2 from rfl, show (3 : Int32) = nI 3 from rfl]
  rw [nI_k i 6, nI_k i 1, nI_k i 2, nI_k i 3]
  rw [ldS_ok (show i + 1 < L by omega) hL, ldS_ok (show i + 2 < L by omega) hL, ldS_ok (show i + 3 < L by omega) hL, h1, cal_ok]
  rw [ldS_ok (show i + 1 < L by omega) hL, ldS_ok (show i + 2 < L by omega) hL, ldS_ok (show i + 3 < L by omega) hL, h2, cal_ok, if_pos rfl]
set_option maxHeartbeats 1000000 in
theorem eL_13 {Rel : Mm → Prop} {xs : Nat → Int32} {L i : Nat} {M : Mm} (hg : ∀ a : Int32, Good Rel (fX5_bird 0 a M) (fX6_bird 93 a)) (hi : i + 5 < L) (hL : L < 2 ^ 31) : ∃ M2, cL_13 xs L 0 93 (nI i) M = some (.inl (1, 0, 93, nI (i + 6), M2)) ∧ Rel M2 := by
  obtain ⟨r, M1, M2, h1, h2, h3⟩ := hg (xs (i + 1))
  refine ⟨M2, ?_, h3⟩
  unfold cL_13 bL_law_1380
  rw [show (6 : Int32) = nI 6 from rfl, show (1 : Int32) = nI 1 from rfl]
  rw [nI_k i 6, nI_k i 1]
  rw [ldS_ok (show i + 1 < L by omega) hL, h1, cal_ok]
  rw [ldS_ok (show i + 1 < L by omega) hL, h2, cal_ok, if_pos rfl]
set_option maxHeartbeats 1000000 in
theorem eL_14 {Rel : Mm → Prop} {xs : Nat → Int32} {L i : Nat} {M : Mm} (hg : ∀ a : Int32, Good Rel (fX5_pocket 0 a M) (fX6_pocket 93 a)) (hi : i + 5 < L) (hL : L < 2 ^ 31) : ∃ M2, cL_14 xs L 0 93 (nI i) M = some (.inl (1, 0, 93, nI (i + 6), M2)) ∧ Rel M2 := by
  obtain ⟨r, M1, M2, h1, h2, h3⟩ := hg (xs (i + 1))
  refine ⟨M2, ?_, h3⟩
  unfold cL_14 bL_law_1380
  rw [show (6 : Int32) = nI 6 from rfl, show (1 : Int32) = nI 1 from rfl]
  rw [nI_k i 6, nI_k i 1]
  rw [ldS_ok (show i + 1 < L by omega) hL, h1, cal_ok]
  rw [ldS_ok (show i + 1 < L by omega) hL, h2, cal_ok, if_pos rfl]
set_option maxHeartbeats 1000000 in
theorem eL_15 {Rel : Mm → Prop} {xs : Nat → Int32} {L i : Nat} {M : Mm} (hg : ∀ a : Int32, Good Rel (fX5_lead 0 a M) (fX6_lead 93 a)) (hi : i + 5 < L) (hL : L < 2 ^ 31) : ∃ M2, cL_15 xs L 0 93 (nI i) M = some (.inl (1, 0, 93, nI (i + 6), M2)) ∧ Rel M2 := by
  obtain ⟨r, M1, M2, h1, h2, h3⟩ := hg (xs (i + 1))
  refine ⟨M2, ?_, h3⟩
  unfold cL_15 bL_law_1380
  rw [show (6 : Int32) = nI 6 from rfl, show (1 : Int32) = nI 1 from rfl]
  rw [nI_k i 6, nI_k i 1]
  rw [ldS_ok (show i + 1 < L by omega) hL, h1, cal_ok]
  rw [ldS_ok (show i + 1 < L by omega) hL, h2, cal_ok, if_pos rfl]
set_option maxHeartbeats 1000000 in
theorem eL_16 {Rel : Mm → Prop} {xs : Nat → Int32} {L i : Nat} {M : Mm} (hg : ∀ a : Int32, Good Rel (fX5_drop 0 a M) (fX6_drop 93 a)) (hi : i + 5 < L) (hL : L < 2 ^ 31) : ∃ M2, cL_16 xs L 0 93 (nI i) M = some (.inl (1, 0, 93, nI (i + 6), M2)) ∧ Rel M2 := by
  obtain ⟨r, M1, M2, h1, h2, h3⟩ := hg (xs (i + 1))
  refine ⟨M2, ?_, h3⟩
  unfold cL_16 bL_law_1380
  rw [show (6 : Int32) = nI 6 from rfl, show (1 : Int32) = nI 1 from rfl]
  rw [nI_k i 6, nI_k i 1]
  rw [ldS_ok (show i + 1 < L by omega) hL, h1, cal_ok]
  rw [ldS_ok (show i + 1 < L by omega) hL, h2, cal_ok, if_pos rfl]
set_option maxHeartbeats 1000000 in
theorem eL_17 {Rel : Mm → Prop} {xs : Nat → Int32} {L i : Nat} {M : Mm} (hg : ∀ a b : Int32, Good Rel (fX5_fool 0 a b M) (fX6_fool 93 a b)) (hi : i + 5 < L) (hL : L < 2 ^ 31) : ∃ M2, cL_17 xs L 0 93 (nI i) M = some (.inl (1, 0, 93, nI (i + 6), M2)) ∧ Rel M2 := by
  obtain ⟨r, M1, M2, h1, h2, h3⟩ := hg (xs (i + 1)) (xs (i + 2))
  refine ⟨M2, ?_, h3⟩
  unfold cL_17 bL_law_1380
  rw [show (6 : Int32) = nI 6 from rfl, show (1 : Int32) = nI 1 from rfl, show (2 : Int32) = nI 2 from rfl]
  rw [nI_k i 6, nI_k i 1, nI_k i 2]
  rw [ldS_ok (show i + 1 < L by omega) hL, ldS_ok (show i + 2 < L by omega) hL, h1, cal_ok]
  rw [ldS_ok (show i + 1 < L by omega) hL, ldS_ok (show i + 2 < L by omega) hL, h2, cal_ok, if_pos rfl]
set_option maxHeartbeats 1000000 in
theorem eL_18 {Rel : Mm → Prop} {xs : Nat → Int32} {L i : Nat} {M : Mm} (hg : ∀ a b : Int32, Good Rel (fX5_take 0 a b M) (fX6_take 93 a b)) (hi : i + 5 < L) (hL : L < 2 ^ 31) : ∃ M2, cL_18 xs L 0 93 (nI i) M = some (.inl (1, 0, 93, nI (i + 6), M2)) ∧ Rel M2 := by
  obtain ⟨r, M1, M2, h1, h2, h3⟩ := hg (xs (i + 1)) (xs (i + 2))
  refine ⟨M2, ?_, h3⟩
  unfold cL_18 bL_law_1380
  rw [show (6 : Int32) = nI 6 from rfl, show (1 : Int32) = nI 1 from rfl, show (2 : Int32) = nI 2 from rfl]
  rw [nI_k i 6, nI_k i 1, nI_k i 2]
  rw [ldS_ok (show i + 1 < L by omega) hL, ldS_ok (show i + 2 < L by omega) hL, h1, cal_ok]
  rw [ldS_ok (show i + 1 < L by omega) hL, ldS_ok (show i + 2 < L by omega) hL, h2, cal_ok, if_pos rfl]
set_option maxHeartbeats 1000000 in
theorem eL_19 {Rel : Mm → Prop} {xs : Nat → Int32} {L i : Nat} {M : Mm} (hg : ∀ a : Int32, Good Rel (fX5_hours 0 a M) (fX6_hours 93 a)) (hi : i + 5 < L) (hL : L < 2 ^ 31) : ∃ M2, cL_19 xs L 0 93 (nI i) M = some (.inl (1, 0, 93, nI (i + 6), M2)) ∧ Rel M2 := by
  obtain ⟨r, M1, M2, h1, h2, h3⟩ := hg (xs (i + 1))
  refine ⟨M2, ?_, h3⟩
  unfold cL_19 bL_law_1380
  rw [show (6 : Int32) = nI 6 from rfl, show (1 : Int32) = nI 1 from rfl]
  rw [nI_k i 6, nI_k i 1]
  rw [ldS_ok (show i + 1 < L by omega) hL, h1, cal_ok]
  rw [ldS_ok (show i + 1 < L by omega) hL, h2, cal_ok, if_pos rfl]
set_option maxHeartbeats 1000000 in
theorem eL_20 {Rel : Mm → Prop} {xs : Nat → Int32} {L i : Nat} {M : Mm} (hg : Good Rel (fX5_here 0 M) (fX6_here 93)) (hi : i + 5 < L) (hL : L < 2 ^ 31) : ∃ M2, cL_20 xs L 0 93 (nI i) M = some (.inl (1, 0, 93, nI (i + 6), M2)) ∧ Rel M2 := by
  obtain ⟨r, M1, M2, h1, h2, h3⟩ := hg
  refine ⟨M2, ?_, h3⟩
  unfold cL_20 bL_law_1380
  rw [show (6 : Int32) = nI 6 from rfl]
  rw [nI_k i 6]
  rw [h1, cal_ok]
  rw [h2, cal_ok, if_pos rfl]
set_option maxHeartbeats 1000000 in
theorem eL_21 {Rel : Mm → Prop} {xs : Nat → Int32} {L i : Nat} {M : Mm} (hg : ∀ a : Int32, Good Rel (fX5_led 0 a M) (fX6_led 93 a)) (hi : i + 5 < L) (hL : L < 2 ^ 31) : ∃ M2, cL_21 xs L 0 93 (nI i) M = some (.inl (1, 0, 93, nI (i + 6), M2)) ∧ Rel M2 := by
  obtain ⟨r, M1, M2, h1, h2, h3⟩ := hg (xs (i + 1))
  refine ⟨M2, ?_, h3⟩
  unfold cL_21 bL_law_1380
  rw [show (6 : Int32) = nI 6 from rfl, show (1 : Int32) = nI 1 from rfl]
  rw [nI_k i 6, nI_k i 1]
  rw [ldS_ok (show i + 1 < L by omega) hL, h1, cal_ok]
  rw [ldS_ok (show i + 1 < L by omega) hL, h2, cal_ok, if_pos rfl]
set_option maxHeartbeats 1000000 in
theorem eL_22 {Rel : Mm → Prop} {xs : Nat → Int32} {L i : Nat} {M : Mm} (hg : ∀ a : Int32, Good Rel (fX5_keep 0 a M) (fX6_keep 93 a)) (hi : i + 5 < L) (hL : L < 2 ^ 31) : ∃ M2, cL_22 xs L 0 93 (nI i) M = some (.inl (1, 0, 93, nI (i + 6), M2)) ∧ Rel M2 := by
  obtain ⟨r, M1, M2, h1, h2, h3⟩ := hg (xs (i + 1))
  refine ⟨M2, ?_, h3⟩
  unfold cL_22 bL_law_1380
  rw [show (6 : Int32) = nI 6 from rfl, show (1 : Int32) = nI 1 from rfl]
  rw [nI_k i 6, nI_k i 1]
  rw [ldS_ok (show i + 1 < L by omega) hL, h1, cal_ok]
  rw [ldS_ok (show i + 1 < L by omega) hL, h2, cal_ok, if_pos rfl]
set_option maxHeartbeats 1000000 in
theorem eL_23 {Rel : Mm → Prop} {xs : Nat → Int32} {L i : Nat} {M : Mm} (hg : ∀ a : Int32, Good Rel (fX5_on 0 a M) (fX6_on 93 a)) (hi : i + 5 < L) (hL : L < 2 ^ 31) : ∃ M2, cL_23 xs L 0 93 (nI i) M = some (.inl (1, 0, 93, nI (i + 6), M2)) ∧ Rel M2 := by
  obtain ⟨r, M1, M2, h1, h2, h3⟩ := hg (xs (i + 1))
  refine ⟨M2, ?_, h3⟩
  unfold cL_23 bL_law_1380
  rw [show (6 : Int32) = nI 6 from rfl, show (1 : Int32) = nI 1 from rfl]
  rw [nI_k i 6, nI_k i 1]
  rw [ldS_ok (show i + 1 < L by omega) hL, h1, cal_ok]
  rw [ldS_ok (show i + 1 < L by omega) hL, h2, cal_ok, if_pos rfl]
set_option maxHeartbeats 1000000 in
theorem eL_24 {Rel : Mm → Prop} {xs : Nat → Int32} {L i : Nat} {M : Mm} (hg : Good Rel (fX5_home 0 M) (fX6_home 93)) (hi : i + 5 < L) (hL : L < 2 ^ 31) : ∃ M2, cL_24 xs L 0 93 (nI i) M = some (.inl (1, 0, 93, nI (i + 6), M2)) ∧ Rel M2 := by
  obtain ⟨r, M1, M2, h1, h2, h3⟩ := hg
  refine ⟨M2, ?_, h3⟩
  unfold cL_24 bL_law_1380
  rw [show (6 : Int32) = nI 6 from rfl]
  rw [nI_k i 6]
  rw [h1, cal_ok]
  rw [h2, cal_ok, if_pos rfl]
set_option maxHeartbeats 1000000 in
theorem eL_25 {Rel : Mm → Prop} {xs : Nat → Int32} {L i : Nat} {M : Mm} (hg : ∀ a : Int32, Good Rel (fX5_back 0 a M) (fX6_back 93 a)) (hi : i + 5 < L) (hL : L < 2 ^ 31) : ∃ M2, cL_25 xs L 0 93 (nI i) M = some (.inl (1, 0, 93, nI (i + 6), M2)) ∧ Rel M2 := by
  obtain ⟨r, M1, M2, h1, h2, h3⟩ := hg (xs (i + 1))
  refine ⟨M2, ?_, h3⟩
  unfold cL_25 bL_law_1380
  rw [show (6 : Int32) = nI 6 from rfl, show (1 : Int32) = nI 1 from rfl]
  rw [nI_k i 6, nI_k i 1]
  rw [ldS_ok (show i + 1 < L by omega) hL, h1, cal_ok]
  rw [ldS_ok (show i + 1 < L by omega) hL, h2, cal_ok, if_pos rfl]
set_option maxHeartbeats 1000000 in
theorem eL_26 {Rel : Mm → Prop} {xs : Nat → Int32} {L i : Nat} {M : Mm} (hg : Good Rel (fX5_wrong 0 M) (fX6_wrong 93)) (hi : i + 5 < L) (hL : L < 2 ^ 31) : ∃ M2, cL_26 xs L 0 93 (nI i) M = some (.inl (1, 0, 93, nI (i + 6), M2)) ∧ Rel M2 := by
  obtain ⟨r, M1, M2, h1, h2, h3⟩ := hg
  refine ⟨M2, ?_, h3⟩
  unfold cL_26 bL_law_1380
  rw [show (6 : Int32) = nI 6 from rfl]
  rw [nI_k i 6]
  rw [h1, cal_ok]
  rw [h2, cal_ok, if_pos rfl]
set_option maxHeartbeats 1000000 in
theorem eL_27 {Rel : Mm → Prop} {xs : Nat → Int32} {L i : Nat} {M : Mm} (hg : Good Rel (fX5_waits 0 M) (fX6_waits 93)) (hi : i + 5 < L) (hL : L < 2 ^ 31) : ∃ M2, cL_27 xs L 0 93 (nI i) M = some (.inl (1, 0, 93, nI (i + 6), M2)) ∧ Rel M2 := by
  obtain ⟨r, M1, M2, h1, h2, h3⟩ := hg
  refine ⟨M2, ?_, h3⟩
  unfold cL_27 bL_law_1380
  rw [show (6 : Int32) = nI 6 from rfl]
  rw [nI_k i 6]
  rw [h1, cal_ok]
  rw [h2, cal_ok, if_pos rfl]
set_option maxHeartbeats 1000000 in
theorem eL_28 {Rel : Mm → Prop} {xs : Nat → Int32} {L i : Nat} {M : Mm} (hg : Good Rel (fX5_nearest 0 M) (fX6_nearest 93)) (hi : i + 5 < L) (hL : L < 2 ^ 31) : ∃ M2, cL_28 xs L 0 93 (nI i) M = some (.inl (1, 0, 93, nI (i + 6), M2)) ∧ Rel M2 := by
  obtain ⟨r, M1, M2, h1, h2, h3⟩ := hg
  refine ⟨M2, ?_, h3⟩
  unfold cL_28 bL_law_1380
  rw [show (6 : Int32) = nI 6 from rfl]
  rw [nI_k i 6]
  rw [h1, cal_ok]
  rw [h2, cal_ok, if_pos rfl]
set_option maxHeartbeats 1000000 in
theorem eL_29 {Rel : Mm → Prop} {xs : Nat → Int32} {L i : Nat} {M : Mm} (hg : ∀ a b : Int32, Good Rel (fX5_fewest 0 a b M) (fX6_fewest 93 a b)) (hi : i + 5 < L) (hL : L < 2 ^ 31) : ∃ M2, cL_29 xs L 0 93 (nI i) M = some (.inl (1, 0, 93, nI (i + 6), M2)) ∧ Rel M2 := by
  obtain ⟨r, M1, M2, h1, h2, h3⟩ := hg (xs (i + 1)) (xs (i + 2))
  refine ⟨M2, ?_, h3⟩
  unfold cL_29 bL_law_1380
  rw [show (6 : Int32) = nI 6 from rfl, show (1 : Int32) = nI 1 from rfl, show (2 : Int32) = nI 2 from rfl]
  rw [nI_k i 6, nI_k i 1, nI_k i 2]
  rw [ldS_ok (show i + 1 < L by omega) hL, ldS_ok (show i + 2 < L by omega) hL, h1, cal_ok]
  rw [ldS_ok (show i + 1 < L by omega) hL, ldS_ok (show i + 2 < L by omega) hL, h2, cal_ok, if_pos rfl]
set_option maxHeartbeats 1000000 in
theorem eL_30 {Rel : Mm → Prop} {xs : Nat → Int32} {L i : Nat} {M : Mm} (hg : ∀ a b : Int32, Good Rel (fX5_surest 0 a b M) (fX6_surest 93 a b)) (hi : i + 5 < L) (hL : L < 2 ^ 31) : ∃ M2, cL_30 xs L 0 93 (nI i) M = some (.inl (1, 0, 93, nI (i + 6), M2)) ∧ Rel M2 := by
  obtain ⟨r, M1, M2, h1, h2, h3⟩ := hg (xs (i + 1)) (xs (i + 2))
  refine ⟨M2, ?_, h3⟩
  unfold cL_30 bL_law_1380
  rw [show (6 : Int32) = nI 6 from rfl, show (1 : Int32) = nI 1 from rfl, show (2 : Int32) = nI 2 from rfl]
  rw [nI_k i 6, nI_k i 1, nI_k i 2]
  rw [ldS_ok (show i + 1 < L by omega) hL, ldS_ok (show i + 2 < L by omega) hL, h1, cal_ok]
  rw [ldS_ok (show i + 1 < L by omega) hL, ldS_ok (show i + 2 < L by omega) hL, h2, cal_ok, if_pos rfl]
set_option maxHeartbeats 1000000 in
theorem eL_31 {Rel : Mm → Prop} {xs : Nat → Int32} {L i : Nat} {M : Mm} (hg : Good Rel (fX5_astray 0 M) (fX6_astray 93)) (hi : i + 5 < L) (hL : L < 2 ^ 31) : ∃ M2, cL_31 xs L 0 93 (nI i) M = some (.inl (1, 0, 93, nI (i + 6), M2)) ∧ Rel M2 := by
  obtain ⟨r, M1, M2, h1, h2, h3⟩ := hg
  refine ⟨M2, ?_, h3⟩
  unfold cL_31 bL_law_1380
  rw [show (6 : Int32) = nI 6 from rfl]
  rw [nI_k i 6]
  rw [h1, cal_ok]
  rw [h2, cal_ok, if_pos rfl]
set_option maxHeartbeats 1000000 in
theorem eL_32 {Rel : Mm → Prop} {xs : Nat → Int32} {L i : Nat} {M : Mm} (hg : Good Rel (fX5_helps 0 M) (fX6_helps 93)) (hi : i + 5 < L) (hL : L < 2 ^ 31) : ∃ M2, cL_32 xs L 0 93 (nI i) M = some (.inl (1, 0, 93, nI (i + 6), M2)) ∧ Rel M2 := by
  obtain ⟨r, M1, M2, h1, h2, h3⟩ := hg
  refine ⟨M2, ?_, h3⟩
  unfold cL_32 bL_law_1380
  rw [show (6 : Int32) = nI 6 from rfl]
  rw [nI_k i 6]
  rw [h1, cal_ok]
  rw [h2, cal_ok, if_pos rfl]
set_option maxHeartbeats 1000000 in
theorem eL_33 {Rel : Mm → Prop} {xs : Nat → Int32} {L i : Nat} {M : Mm} (hg : Good Rel (fX5_odds 0 M) (fX6_odds 93)) (hi : i + 5 < L) (hL : L < 2 ^ 31) : ∃ M2, cL_33 xs L 0 93 (nI i) M = some (.inl (1, 0, 93, nI (i + 6), M2)) ∧ Rel M2 := by
  obtain ⟨r, M1, M2, h1, h2, h3⟩ := hg
  refine ⟨M2, ?_, h3⟩
  unfold cL_33 bL_law_1380
  rw [show (6 : Int32) = nI 6 from rfl]
  rw [nI_k i 6]
  rw [h1, cal_ok]
  rw [h2, cal_ok, if_pos rfl]
set_option maxHeartbeats 1000000 in
theorem eL_34 {Rel : Mm → Prop} {xs : Nat → Int32} {L i : Nat} {M : Mm} (hg : Good Rel (fX5_best 0 M) (fX6_best 93)) (hi : i + 5 < L) (hL : L < 2 ^ 31) : ∃ M2, cL_34 xs L 0 93 (nI i) M = some (.inl (1, 0, 93, nI (i + 6), M2)) ∧ Rel M2 := by
  obtain ⟨r, M1, M2, h1, h2, h3⟩ := hg
  refine ⟨M2, ?_, h3⟩
  unfold cL_34 bL_law_1380
  rw [show (6 : Int32) = nI 6 from rfl]
  rw [nI_k i 6]
  rw [h1, cal_ok]
  rw [h2, cal_ok, if_pos rfl]
set_option maxHeartbeats 1000000 in
theorem eL_35 {Rel : Mm → Prop} {xs : Nat → Int32} {L i : Nat} {M : Mm} (hg : ∀ a : Int32, Good Rel (fX5_ways 0 a M) (fX6_ways 93 a)) (hi : i + 5 < L) (hL : L < 2 ^ 31) : ∃ M2, cL_35 xs L 0 93 (nI i) M = some (.inl (1, 0, 93, nI (i + 6), M2)) ∧ Rel M2 := by
  obtain ⟨r, M1, M2, h1, h2, h3⟩ := hg (xs (i + 1))
  refine ⟨M2, ?_, h3⟩
  unfold cL_35 bL_law_1380
  rw [show (6 : Int32) = nI 6 from rfl, show (1 : Int32) = nI 1 from rfl]
  rw [nI_k i 6, nI_k i 1]
  rw [ldS_ok (show i + 1 < L by omega) hL, h1, cal_ok]
  rw [ldS_ok (show i + 1 < L by omega) hL, h2, cal_ok, if_pos rfl]
set_option maxHeartbeats 1000000 in
theorem eL_36 {Rel : Mm → Prop} {xs : Nat → Int32} {L i : Nat} {M : Mm} (hg : ∀ a : Int32, Good Rel (fX5_sure 0 a M) (fX6_sure 93 a)) (hi : i + 5 < L) (hL : L < 2 ^ 31) : ∃ M2, cL_36 xs L 0 93 (nI i) M = some (.inl (1, 0, 93, nI (i + 6), M2)) ∧ Rel M2 := by
  obtain ⟨r, M1, M2, h1, h2, h3⟩ := hg (xs (i + 1))
  refine ⟨M2, ?_, h3⟩
  unfold cL_36 bL_law_1380
  rw [show (6 : Int32) = nI 6 from rfl, show (1 : Int32) = nI 1 from rfl]
  rw [nI_k i 6, nI_k i 1]
  rw [ldS_ok (show i + 1 < L by omega) hL, h1, cal_ok]
  rw [ldS_ok (show i + 1 < L by omega) hL, h2, cal_ok, if_pos rfl]
set_option maxHeartbeats 1000000 in
theorem eL_37 {Rel : Mm → Prop} {xs : Nat → Int32} {L i : Nat} {M : Mm} (hg : ∀ a b : Int32, Good Rel (fX5_was 0 a b M) (fX6_was 93 a b)) (hi : i + 5 < L) (hL : L < 2 ^ 31) : ∃ M2, cL_37 xs L 0 93 (nI i) M = some (.inl (1, 0, 93, nI (i + 6), M2)) ∧ Rel M2 := by
  obtain ⟨r, M1, M2, h1, h2, h3⟩ := hg (xs (i + 1)) (xs (i + 2))
  refine ⟨M2, ?_, h3⟩
  unfold cL_37 bL_law_1380
  rw [show (6 : Int32) = nI 6 from rfl, show (1 : Int32) = nI 1 from rfl, show (2 : Int32) = nI 2 from rfl]
  rw [nI_k i 6, nI_k i 1, nI_k i 2]
  rw [ldS_ok (show i + 1 < L by omega) hL, ldS_ok (show i + 2 < L by omega) hL, h1, cal_ok]
  rw [ldS_ok (show i + 1 < L by omega) hL, ldS_ok (show i + 2 < L by omega) hL, h2, cal_ok, if_pos rfl]
set_option maxHeartbeats 1000000 in
theorem eL_38 {Rel : Mm → Prop} {xs : Nat → Int32} {L i : Nat} {M : Mm} (hg : Good Rel (fX5_bare 0 M) (fX6_bare 93)) (hi : i + 5 < L) (hL : L < 2 ^ 31) : ∃ M2, cL_38 xs L 0 93 (nI i) M = some (.inl (1, 0, 93, nI (i + 6), M2)) ∧ Rel M2 := by
  obtain ⟨r, M1, M2, h1, h2, h3⟩ := hg
  refine ⟨M2, ?_, h3⟩
  unfold cL_38 bL_law_1380
  rw [show (6 : Int32) = nI 6 from rfl]
  rw [nI_k i 6]
  rw [h1, cal_ok]
  rw [h2, cal_ok, if_pos rfl]
set_option maxHeartbeats 1000000 in
theorem eL_39 {Rel : Mm → Prop} {xs : Nat → Int32} {L i : Nat} {M : Mm} (hg : ∀ a b : Int32, Good Rel (fX5_lots 0 a b M) (fX6_lots 93 a b)) (hi : i + 5 < L) (hL : L < 2 ^ 31) : ∃ M2, cL_39 xs L 0 93 (nI i) M = some (.inl (1, 0, 93, nI (i + 6), M2)) ∧ Rel M2 := by
  obtain ⟨r, M1, M2, h1, h2, h3⟩ := hg (xs (i + 1)) (xs (i + 2))
  refine ⟨M2, ?_, h3⟩
  unfold cL_39 bL_law_1380
  rw [show (6 : Int32) = nI 6 from rfl, show (1 : Int32) = nI 1 from rfl, show (2 : Int32) = nI 2 from rfl]
  rw [nI_k i 6, nI_k i 1, nI_k i 2]
  rw [ldS_ok (show i + 1 < L by omega) hL, ldS_ok (show i + 2 < L by omega) hL, h1, cal_ok]
  rw [ldS_ok (show i + 1 < L by omega) hL, ldS_ok (show i + 2 < L by omega) hL, h2, cal_ok, if_pos rfl]
set_option maxHeartbeats 1000000 in
theorem eL_40 {Rel : Mm → Prop} {xs : Nat → Int32} {L i : Nat} {M : Mm} (hg : Good Rel (fX5_asked 0 M) (fX6_asked 93)) (hi : i + 5 < L) (hL : L < 2 ^ 31) : ∃ M2, cL_40 xs L 0 93 (nI i) M = some (.inl (1, 0, 93, nI (i + 6), M2)) ∧ Rel M2 := by
  obtain ⟨r, M1, M2, h1, h2, h3⟩ := hg
  refine ⟨M2, ?_, h3⟩
  unfold cL_40 bL_law_1380
  rw [show (6 : Int32) = nI 6 from rfl]
  rw [nI_k i 6]
  rw [h1, cal_ok]
  rw [h2, cal_ok, if_pos rfl]
set_option maxHeartbeats 1000000 in
theorem eL_41 {Rel : Mm → Prop} {xs : Nat → Int32} {L i : Nat} {M : Mm} (hg : Good Rel (fX5_upper 0 M) (fX6_upper 93)) (hi : i + 5 < L) (hL : L < 2 ^ 31) : ∃ M2, cL_41 xs L 0 93 (nI i) M = some (.inl (1, 0, 93, nI (i + 6), M2)) ∧ Rel M2 := by
  obtain ⟨r, M1, M2, h1, h2, h3⟩ := hg
  refine ⟨M2, ?_, h3⟩
  unfold cL_41 bL_law_1380
  rw [show (6 : Int32) = nI 6 from rfl]
  rw [nI_k i 6]
  rw [h1, cal_ok]
  rw [h2, cal_ok, if_pos (lg_self r)]
set_option maxHeartbeats 1000000 in
theorem eL_42 {Rel : Mm → Prop} {xs : Nat → Int32} {L i : Nat} {M : Mm} (hg : Good Rel (fX5_lower 0 M) (fX6_lower 93)) (hi : i + 5 < L) (hL : L < 2 ^ 31) : ∃ M2, cL_42 xs L 0 93 (nI i) M = some (.inl (1, 0, 93, nI (i + 6), M2)) ∧ Rel M2 := by
  obtain ⟨r, M1, M2, h1, h2, h3⟩ := hg
  refine ⟨M2, ?_, h3⟩
  unfold cL_42 bL_law_1380
  rw [show (6 : Int32) = nI 6 from rfl]
  rw [nI_k i 6]
  rw [h1, cal_ok]
  rw [h2, cal_ok, if_pos (lg_self r)]
set_option maxHeartbeats 1000000 in
theorem eL_43 {Rel : Mm → Prop} {xs : Nat → Int32} {L i : Nat} {M : Mm} (hg : ∀ a : Int32, Good Rel (fX5_count 0 a M) (fX6_count 93 a)) (hi : i + 5 < L) (hL : L < 2 ^ 31) : ∃ M2, cL_43 xs L 0 93 (nI i) M = some (.inl (1, 0, 93, nI (i + 6), M2)) ∧ Rel M2 := by
  obtain ⟨r, M1, M2, h1, h2, h3⟩ := hg (xs (i + 1))
  refine ⟨M2, ?_, h3⟩
  unfold cL_43 bL_law_1380
  rw [show (6 : Int32) = nI 6 from rfl, show (1 : Int32) = nI 1 from rfl]
  rw [nI_k i 6, nI_k i 1]
  rw [ldS_ok (show i + 1 < L by omega) hL, h1, cal_ok]
  rw [ldS_ok (show i + 1 < L by omega) hL, h2, cal_ok, if_pos rfl]
set_option maxHeartbeats 1000000 in
theorem eL_44 {Rel : Mm → Prop} {xs : Nat → Int32} {L i : Nat} {M : Mm} (hg : Good Rel (fX5_finding 0 M) (fX6_finding 93)) (hi : i + 5 < L) (hL : L < 2 ^ 31) : ∃ M2, cL_44 xs L 0 93 (nI i) M = some (.inl (1, 0, 93, nI (i + 6), M2)) ∧ Rel M2 := by
  obtain ⟨r, M1, M2, h1, h2, h3⟩ := hg
  refine ⟨M2, ?_, h3⟩
  unfold cL_44 bL_law_1380
  rw [show (6 : Int32) = nI 6 from rfl]
  rw [nI_k i 6]
  rw [h1, cal_ok]
  rw [h2, cal_ok, if_pos rfl]
set_option maxHeartbeats 1000000 in
theorem eL_45 {Rel : Mm → Prop} {xs : Nat → Int32} {L i : Nat} {M : Mm} (hg : ∀ a : Int32, Good Rel (fX5_findings 0 a M) (fX6_findings 93 a)) (hi : i + 5 < L) (hL : L < 2 ^ 31) : ∃ M2, cL_45 xs L 0 93 (nI i) M = some (.inl (1, 0, 93, nI (i + 6), M2)) ∧ Rel M2 := by
  obtain ⟨r, M1, M2, h1, h2, h3⟩ := hg (xs (i + 1))
  refine ⟨M2, ?_, h3⟩
  unfold cL_45 bL_law_1380
  rw [show (6 : Int32) = nI 6 from rfl, show (1 : Int32) = nI 1 from rfl]
  rw [nI_k i 6, nI_k i 1]
  rw [ldS_ok (show i + 1 < L by omega) hL, h1, cal_ok]
  rw [ldS_ok (show i + 1 < L by omega) hL, h2, cal_ok, if_pos rfl]
set_option maxHeartbeats 1000000 in
theorem eL_46 {Rel : Mm → Prop} {xs : Nat → Int32} {L i : Nat} {M : Mm} (hg : Good Rel (fX5_digest 0 M) (fX6_digest 93)) (hi : i + 5 < L) (hL : L < 2 ^ 31) : ∃ M2, cL_46 xs L 0 93 (nI i) M = some (.inl (1, 0, 93, nI (i + 6), M2)) ∧ Rel M2 := by
  obtain ⟨r, M1, M2, h1, h2, h3⟩ := hg
  refine ⟨M2, ?_, h3⟩
  unfold cL_46 bL_law_1380
  rw [show (6 : Int32) = nI 6 from rfl]
  rw [nI_k i 6]
  rw [h1, cal_ok]
  rw [h2, cal_ok, if_pos (lg_self r)]
set_option maxHeartbeats 4000000 in
theorem stepL {Rel : Mm → Prop} (hops : OPS Rel) {xs : Nat → Int32} {L i : Nat} {M : Mm} (hM : Rel M) (hi : i + 5 < L) (hL : L < 2 ^ 31) : ∃ M2, bL_law_18 xs L 0 93 (nI i) M = some (.inl (1, 0, 93, nI (i + 6), M2)) ∧ Rel M2 := by
  unfold bL_law_18
  have hn : ¬ (Int32.ofNat L - 6 < nI i) := by
    have e6 : (6 : Int32).toInt = 6 := by decide
    have eL : (Int32.ofNat L).toInt = (L : Int) := nI_toInt hL
    rw [Int32.lt_iff_toInt_lt, i32_sub (by rw [eL, e6]; omega) (by rw [eL, e6]; omega), eL, e6, nI_toInt (by omega)]
    omega
  rw [if_neg hn, ldS_ok (show i < L by omega) hL]
  unfold ltI
  generalize xs i &&& 63 = v
  dsimp only
  by_cases q0 : v = 0
  · rw [if_pos q0]
    exact eL_0 (hops.1 M hM) hi hL
  rw [if_neg q0]
  by_cases q1 : v = 1
  · rw [if_pos q1]
    exact eL_1 (hops.2.1 M hM) hi hL
  rw [if_neg q1]
  by_cases q2 : v = 2
  · rw [if_pos q2]
    exact eL_2 (hops.2.2.1 M hM) hi hL
  rw [if_neg q2]
  by_cases q3 : v = 3
  · rw [if_pos q3]
    exact eL_3 (hops.2.2.2.1 M hM) hi hL
  rw [if_neg q3]
  by_cases q4 : v = 4
  · rw [if_pos q4]
    exact eL_4 (hops.2.2.2.2.1 M hM) hi hL
  rw [if_neg q4]
  by_cases q5 : v = 5
  · rw [if_pos q5]
    exact eL_5 (hops.2.2.2.2.2.1 M hM) hi hL
  rw [if_neg q5]
  by_cases q6 : v = 6
  · rw [if_pos q6]
    exact eL_6 (hops.2.2.2.2.2.2.1 M hM) hi hL
  rw [if_neg q6]
  by_cases q7 : v = 7
  · rw [if_pos q7]
    exact eL_7 (hops.2.2.2.2.2.2.2.1 M hM) hi hL
  rw [if_neg q7]
  by_cases q8 : v = 8
  · rw [if_pos q8]
    exact eL_8 (hops.2.2.2.2.2.2.2.2.1 M hM) hi hL
  rw [if_neg q8]
  by_cases q9 : v = 9
  · rw [if_pos q9]
    exact eL_9 (hops.2.2.2.2.2.2.2.2.2.1 M hM) hi hL
  rw [if_neg q9]
  by_cases q10 : v = 10
  · rw [if_pos q10]
    exact eL_10 (hops.2.2.2.2.2.2.2.2.2.2.1 M hM) hi hL
  rw [if_neg q10]
  by_cases q11 : v = 11
  · rw [if_pos q11]
    exact eL_11 (hops.2.2.2.2.2.2.2.2.2.2.2.1 M hM) hi hL
  rw [if_neg q11]
  by_cases q12 : v = 12
  · rw [if_pos q12]
    exact eL_12 (hops.2.2.2.2.2.2.2.2.2.2.2.2.1 M hM) hi hL
  rw [if_neg q12]
  by_cases q13 : v = 13
  · rw [if_pos q13]
    exact eL_13 (hops.2.2.2.2.2.2.2.2.2.2.2.2.2.1 M hM) hi hL
  rw [if_neg q13]
  by_cases q14 : v = 14
  · rw [if_pos q14]
    exact eL_14 (hops.2.2.2.2.2.2.2.2.2.2.2.2.2.2.1 M hM) hi hL
  rw [if_neg q14]
  by_cases q15 : v = 15
  · rw [if_pos q15]
    exact eL_15 (hops.2.2.2.2.2.2.2.2.2.2.2.2.2.2.2.1 M hM) hi hL
  rw [if_neg q15]
  by_cases q16 : v = 16
  · rw [if_pos q16]
    exact eL_16 (hops.2.2.2.2.2.2.2.2.2.2.2.2.2.2.2.2.1 M hM) hi hL
  rw [if_neg q16]
  by_cases q17 : v = 17
  · rw [if_pos q17]
    exact eL_17 (hops.2.2.2.2.2.2.2.2.2.2.2.2.2.2.2.2.2.1 M hM) hi hL
  rw [if_neg q17]
  by_cases q18 : v = 18
  · rw [if_pos q18]
    exact eL_18 (hops.2.2.2.2.2.2.2.2.2.2.2.2.2.2.2.2.2.2.1 M hM) hi hL
  rw [if_neg q18]
  by_cases q19 : v = 19
  · rw [if_pos q19]
    exact eL_19 (hops.2.2.2.2.2.2.2.2.2.2.2.2.2.2.2.2.2.2.2.1 M hM) hi hL
  rw [if_neg q19]
  by_cases q20 : v = 20
  · rw [if_pos q20]
    exact eL_20 (hops.2.2.2.2.2.2.2.2.2.2.2.2.2.2.2.2.2.2.2.2.1 M hM) hi hL
  rw [if_neg q20]
  by_cases q21 : v = 21
  · rw [if_pos q21]
    exact eL_21 (hops.2.2.2.2.2.2.2.2.2.2.2.2.2.2.2.2.2.2.2.2.2.1 M hM) hi hL
  rw [if_neg q21]
  by_cases q22 : v = 22
  · rw [if_pos q22]
    exact eL_22 (hops.2.2.2.2.2.2.2.2.2.2.2.2.2.2.2.2.2.2.2.2.2.2.1 M hM) hi hL
  rw [if_neg q22]
  by_cases q23 : v = 23
  · rw [if_pos q23]
    exact eL_23 (hops.2.2.2.2.2.2.2.2.2.2.2.2.2.2.2.2.2.2.2.2.2.2.2.1 M hM) hi hL
  rw [if_neg q23]
  by_cases q24 : v = 24
  · rw [if_pos q24]
    exact eL_24 (hops.2.2.2.2.2.2.2.2.2.2.2.2.2.2.2.2.2.2.2.2.2.2.2.2.1 M hM) hi hL
  rw [if_neg q24]
  by_cases q25 : v = 25
  · rw [if_pos q25]
    exact eL_25 (hops.2.2.2.2.2.2.2.2.2.2.2.2.2.2.2.2.2.2.2.2.2.2.2.2.2.1 M hM) hi hL
  rw [if_neg q25]
  by_cases q26 : v = 26
  · rw [if_pos q26]
    exact eL_26 (hops.2.2.2.2.2.2.2.2.2.2.2.2.2.2.2.2.2.2.2.2.2.2.2.2.2.2.1 M hM) hi hL
  rw [if_neg q26]
  by_cases q27 : v = 27
  · rw [if_pos q27]
    exact eL_27 (hops.2.2.2.2.2.2.2.2.2.2.2.2.2.2.2.2.2.2.2.2.2.2.2.2.2.2.2.1 M hM) hi hL
  rw [if_neg q27]
  by_cases q28 : v = 28
  · rw [if_pos q28]
    exact eL_28 (hops.2.2.2.2.2.2.2.2.2.2.2.2.2.2.2.2.2.2.2.2.2.2.2.2.2.2.2.2.1 M hM) hi hL
  rw [if_neg q28]
  by_cases q29 : v = 29
  · rw [if_pos q29]
    exact eL_29 (hops.2.2.2.2.2.2.2.2.2.2.2.2.2.2.2.2.2.2.2.2.2.2.2.2.2.2.2.2.2.1 M hM) hi hL
  rw [if_neg q29]
  by_cases q30 : v = 30
  · rw [if_pos q30]
    exact eL_30 (hops.2.2.2.2.2.2.2.2.2.2.2.2.2.2.2.2.2.2.2.2.2.2.2.2.2.2.2.2.2.2.1 M hM) hi hL
  rw [if_neg q30]
  by_cases q31 : v = 31
  · rw [if_pos q31]
    exact eL_31 (hops.2.2.2.2.2.2.2.2.2.2.2.2.2.2.2.2.2.2.2.2.2.2.2.2.2.2.2.2.2.2.2.1 M hM) hi hL
  rw [if_neg q31]
  by_cases q32 : v = 32
  · rw [if_pos q32]
    exact eL_32 (hops.2.2.2.2.2.2.2.2.2.2.2.2.2.2.2.2.2.2.2.2.2.2.2.2.2.2.2.2.2.2.2.2.1 M hM) hi hL
  rw [if_neg q32]
  by_cases q33 : v = 33
  · rw [if_pos q33]
    exact eL_33 (hops.2.2.2.2.2.2.2.2.2.2.2.2.2.2.2.2.2.2.2.2.2.2.2.2.2.2.2.2.2.2.2.2.2.1 M hM) hi hL
  rw [if_neg q33]
  by_cases q34 : v = 34
  · rw [if_pos q34]
    exact eL_34 (hops.2.2.2.2.2.2.2.2.2.2.2.2.2.2.2.2.2.2.2.2.2.2.2.2.2.2.2.2.2.2.2.2.2.2.1 M hM) hi hL
  rw [if_neg q34]
  by_cases q35 : v = 35
  · rw [if_pos q35]
    exact eL_35 (hops.2.2.2.2.2.2.2.2.2.2.2.2.2.2.2.2.2.2.2.2.2.2.2.2.2.2.2.2.2.2.2.2.2.2.2.1 M hM) hi hL
  rw [if_neg q35]
  by_cases q36 : v = 36
  · rw [if_pos q36]
    exact eL_36 (hops.2.2.2.2.2.2.2.2.2.2.2.2.2.2.2.2.2.2.2.2.2.2.2.2.2.2.2.2.2.2.2.2.2.2.2.2.1 M hM) hi hL
  rw [if_neg q36]
  by_cases q37 : v = 37
  · rw [if_pos q37]
    exact eL_37 (hops.2.2.2.2.2.2.2.2.2.2.2.2.2.2.2.2.2.2.2.2.2.2.2.2.2.2.2.2.2.2.2.2.2.2.2.2.2.1 M hM) hi hL
  rw [if_neg q37]
  by_cases q38 : v = 38
  · rw [if_pos q38]
    exact eL_38 (hops.2.2.2.2.2.2.2.2.2.2.2.2.2.2.2.2.2.2.2.2.2.2.2.2.2.2.2.2.2.2.2.2.2.2.2.2.2.2.1 M hM) hi hL
  rw [if_neg q38]
  by_cases q39 : v = 39
  · rw [if_pos q39]
    exact eL_39 (hops.2.2.2.2.2.2.2.2.2.2.2.2.2.2.2.2.2.2.2.2.2.2.2.2.2.2.2.2.2.2.2.2.2.2.2.2.2.2.2.1 M hM) hi hL
  rw [if_neg q39]
  by_cases q40 : v = 40
  · rw [if_pos q40]
    exact eL_40 (hops.2.2.2.2.2.2.2.2.2.2.2.2.2.2.2.2.2.2.2.2.2.2.2.2.2.2.2.2.2.2.2.2.2.2.2.2.2.2.2.2.1 M hM) hi hL
  rw [if_neg q40]
  by_cases q41 : v = 41
  · rw [if_pos q41]
    exact eL_41 (hops.2.2.2.2.2.2.2.2.2.2.2.2.2.2.2.2.2.2.2.2.2.2.2.2.2.2.2.2.2.2.2.2.2.2.2.2.2.2.2.2.2.1 M hM) hi hL
  rw [if_neg q41]
  by_cases q42 : v = 42
  · rw [if_pos q42]
    exact eL_42 (hops.2.2.2.2.2.2.2.2.2.2.2.2.2.2.2.2.2.2.2.2.2.2.2.2.2.2.2.2.2.2.2.2.2.2.2.2.2.2.2.2.2.2.1 M hM) hi hL
  rw [if_neg q42]
  by_cases q43 : v = 43
  · rw [if_pos q43]
    exact eL_43 (hops.2.2.2.2.2.2.2.2.2.2.2.2.2.2.2.2.2.2.2.2.2.2.2.2.2.2.2.2.2.2.2.2.2.2.2.2.2.2.2.2.2.2.2.1 M hM) hi hL
  rw [if_neg q43]
  by_cases q44 : v = 44
  · rw [if_pos q44]
    exact eL_44 (hops.2.2.2.2.2.2.2.2.2.2.2.2.2.2.2.2.2.2.2.2.2.2.2.2.2.2.2.2.2.2.2.2.2.2.2.2.2.2.2.2.2.2.2.2.1 M hM) hi hL
  rw [if_neg q44]
  by_cases q45 : v = 45
  · rw [if_pos q45]
    exact eL_45 (hops.2.2.2.2.2.2.2.2.2.2.2.2.2.2.2.2.2.2.2.2.2.2.2.2.2.2.2.2.2.2.2.2.2.2.2.2.2.2.2.2.2.2.2.2.2.1 M hM) hi hL
  rw [if_neg q45]
  by_cases q46 : v = 46
  · rw [if_pos q46]
    exact eL_46 (hops.2.2.2.2.2.2.2.2.2.2.2.2.2.2.2.2.2.2.2.2.2.2.2.2.2.2.2.2.2.2.2.2.2.2.2.2.2.2.2.2.2.2.2.2.2.2 M hM) hi hL
  rw [if_neg q46]
  refine ⟨M, ?_, hM⟩
  unfold bL_law_1380
  rw [show (6 : Int32) = nI 6 from rfl, nI_k i 6]
theorem law_exit {L i : Nat} (hL : L < 2 ^ 31) (hL2 : L ≤ 4000) (h : L ≤ i + 5) (h2 : i ≤ L + 6) : Int32.ofNat L - 6 < nI i := by
  by_cases hb : i < 2 ^ 31
  · have e6 : (6 : Int32).toInt = 6 := by decide
    have eL : (Int32.ofNat L).toInt = (L : Int) := nI_toInt hL
    rw [Int32.lt_iff_toInt_lt, i32_sub (by rw [eL, e6]; omega) (by rw [eL, e6]; omega), eL, e6, nI_toInt hb]
    omega
  · exact absurd hL2 (by omega)
theorem law_pure {Rel : Mm → Prop} (hops : OPS Rel) {xs : Nat → Int32} {L : Nat} (hL : L < 2 ^ 31) (hL2 : L ≤ 4000) : ∀ (k i : Nat) (M : Mm), L + 6 ≤ i + k → i ≤ L + 6 → Rel M → ∃ M1, fnl (gL_law xs L) (1, 0, 93, nI i, M) = some (1, M1) := by
  intro k
  induction k with
  | zero =>
    intro i M h1 h2 hM
    refine ⟨M, fnl_out ?_⟩
    show bL_law_18 xs L 0 93 (nI i) M = _
    unfold bL_law_18
    rw [if_pos (law_exit hL hL2 (by omega) (by omega))]
  | succ k ih =>
    intro i M h1 h2 hM
    by_cases hi : i + 5 < L
    · obtain ⟨M2, e, hM2⟩ := stepL (xs := xs) hops hM hi hL
      obtain ⟨M1, h⟩ := ih (i + 6) M2 (by omega) (by omega) hM2
      exact ⟨M1, (fnl_in e).trans h⟩
    · refine ⟨M, fnl_out ?_⟩
      show bL_law_18 xs L 0 93 (nI i) M = _
      unfold bL_law_18
      rw [if_pos (law_exit hL hL2 (by omega) (by omega))]

/-! MEMORY: ints, longs, references, by cell and place; every reference is a number of a cell -/
abbrev Mm : Type := (Nat → Nat → Int32) × (Nat → Nat → Int64) × (Nat → Nat → Nat)
def wI (M : Mm) (a k : Nat) (v : Int32) : Mm := (fun b j => if b = a ∧ j = k then v else M.1 b j, M.2.1, M.2.2)
def wJ (M : Mm) (a k : Nat) (v : Int64) : Mm := (M.1, fun b j => if b = a ∧ j = k then v else M.2.1 b j, M.2.2)
def wR (M : Mm) (a k : Nat) (v : Nat) : Mm := (M.1, M.2.1, fun b j => if b = a ∧ j = k then v else M.2.2 b j)
def wC (M : Mm) (a0 a sp dp n : Nat) : Mm := (fun b j => if b = a ∧ dp ≤ j ∧ j < dp + n then M.1 a0 (sp + (j - dp)) else M.1 b j, M.2.1, M.2.2)
/-- the kinds of the cells and their lengths: 0 int[], 1 byte[], 2 boolean[], 3 Strip[], 4 Wood[], 5 int[][], 10 + c an object of class c -/
def shT : List (Nat × Nat) := [(15, 13), (3, 6), (3, 4), (4, 3), (10, 5), (0, 0), (11, 9), (0, 8), (0, 8), (13, 3), (0, 8), (0, 8), (0, 6),
  (12, 2), (0, 40), (12, 2), (0, 40), (12, 2), (0, 40), (12, 2), (0, 40), (12, 2), (0, 40), (12, 2), (0, 40),
  (12, 2), (0, 80), (12, 2), (0, 80), (12, 2), (0, 80), (12, 2), (0, 80),
  (14, 11), (0, 8), (0, 6), (0, 8), (5, 3), (0, 8), (0, 8), (0, 8), (0, 8), (0, 4), (0, 3), (0, 31),
  (14, 11), (0, 8), (0, 6), (0, 8), (5, 3), (0, 8), (0, 8), (0, 8), (0, 8), (0, 4), (0, 3), (0, 31),
  (14, 11), (0, 8), (0, 6), (0, 8), (5, 3), (0, 8), (0, 8), (0, 8), (0, 8), (0, 4), (0, 3), (0, 31),
  (14, 11), (0, 8), (0, 6), (0, 8), (5, 3), (0, 8), (0, 8), (0, 8), (0, 8), (0, 4), (0, 3), (0, 31),
  (14, 11), (0, 8), (0, 6), (0, 8), (5, 3), (0, 8), (0, 8), (0, 8), (0, 8), (0, 4), (0, 3), (0, 31),
  (16, 41), (0, 6), (0, 6), (0, 240), (0, 40), (0, 4), (1, 320), (0, 8), (0, 8), (0, 8), (0, 8), (0, 4), (0, 3), (0, 156), (0, 31), (2, 3), (0, 3), (0, 117), (0, 24), (0, 93), (0, 9), (0, 8), (0, 8), (0, 8), (0, 72)]
def NW : Nat := 118
def sh (a : Nat) : Nat := (shT.getD a (99, 0)).1
def ln (a : Nat) : Nat := (shT.getD a (99, 0)).2
/-- an object's fields: place and sort (0 int, 1 long, 2 reference) -/
def fldT : List (List (Nat × Nat)) := [
  [(0, 2), (1, 0), (2, 0), (3, 0), (4, 0)],
  [(0, 2), (1, 0), (2, 0), (3, 0), (4, 0), (5, 0), (6, 0), (7, 2), (8, 0)],
  [(0, 2), (1, 0)],
  [(0, 2), (1, 2), (2, 0)],
  [(0, 0), (1, 0), (2, 0), (3, 2), (4, 2), (5, 2), (6, 2), (7, 2), (8, 2), (9, 2), (10, 2)],
  [(0, 2), (1, 2), (2, 2), (3, 2), (4, 2), (5, 2), (6, 2), (7, 2), (8, 2), (9, 0), (10, 0), (11, 1), (12, 1)],
  [(0, 0), (1, 2), (2, 0), (3, 1), (4, 1), (5, 2), (6, 2), (7, 2), (8, 2), (9, 2), (10, 0), (11, 0), (12, 2), (13, 2), (14, 0), (15, 0), (16, 0), (17, 0), (18, 0), (19, 2), (20, 2), (21, 2), (22, 2), (23, 0), (24, 2), (25, 0), (26, 2), (27, 2), (28, 2), (29, 2), (30, 2), (31, 2), (32, 0), (33, 2), (34, 2), (35, 2), (36, 2), (37, 0), (38, 0), (39, 2), (40, 1)]]
def flds (c : Nat) : List (Nat × Nat) := fldT.getD c []
def fv (ad : Nat → Nat) (M : Mm) (a : Nat) (q : Nat × Nat) : Value := match q.2 with
  | 0 => .int (M.1 a q.1)
  | 1 => .long (M.2.1 a q.1)
  | _ => .ref (ad (M.2.2 a q.1))
def ent (ad : Nat → Nat) (cA : Nat → ClassId) (M : Mm) (a : Nat) : va_E :=
  if sh a < 3 then .inl (cA (sh a), ln a, .inl (M.1 a)) else if sh a < 10 then .inl (cA (sh a), ln a, .inr (.inr (.inr (.inr (fun j => some (ad (M.2.2 a j))))))) else .inr (sh a - 10, (flds (sh a - 10)).map (fv ad M a))
def wsM (ad : Nat → Nat) (cA : Nat → ClassId) (M : Mm) : va_W := (List.range NW).map (fun a => (ad a, ent ad cA M a))
def tysW (cA : Nat → ClassId) : List (ClassId × FieldType) := [(cA 0, .int), (cA 1, .byte), (cA 2, .boolean), (cA 3, .object "CrumbWood$Strip"), (cA 4, .object "CrumbWood$Wood"), (cA 5, .array .int)]
theorem sh_lt {a : Nat} (h : sh a < 99) : a < NW := by
  by_cases h1 : a < NW
  · exact h1
  · have h2 : shT.length ≤ a := Nat.le_trans (Nat.le_of_ble_eq_true rfl) (Nat.not_lt.mp h1)
    unfold sh at h
    rw [List.getD_eq_getElem?_getD, List.getElem?_eq_none h2] at h
    exact absurd h (by decide)
theorem wsM_at (ad : Nat → Nat) (cA : Nat → ClassId) (M : Mm) {a : Nat} (h : a < NW) : (wsM ad cA M)[a]? = some (ad a, ent ad cA M a) := by
  unfold wsM
  rw [List.getElem?_map, List.getElem?_range h]
  rfl
theorem wsM_set (ad : Nat → Nat) (cA : Nat → ClassId) (M M1 : Mm) {a : Nat} {e : va_E} (he : ent ad cA M1 a = e) (ho : ∀ b, b ≠ a → ent ad cA M1 b = ent ad cA M b) : (wsM ad cA M).set a (ad a, e) = wsM ad cA M1 := by
  apply List.ext_getElem?
  intro b
  unfold wsM
  rw [List.getElem?_set, List.getElem?_map, List.getElem?_map]
  by_cases hb : a = b
  · subst hb
    by_cases h : a < NW
    · rw [if_pos rfl, if_pos (by simpa using h), List.getElem?_range h]
      simp [he]
    · rw [if_pos rfl, if_neg (by simpa using h), List.getElem?_eq_none (by simpa using h)]
      rfl
  · rw [if_neg hb]
    cases hr : (List.range NW)[b]? with
    | none => rfl
    | some c =>
      have hc : c = b := by
        obtain ⟨h1, h2⟩ := List.getElem?_eq_some_iff.mp hr
        simpa using h2.symm
      subst hc
      simp [ho c (fun h => hb h.symm)]
theorem ent_arr {ad : Nat → Nat} {cA : Nat → ClassId} {M : Mm} {a k : Nat} (h : sh a = k) (hk : k < 3) : ent ad cA M a = .inl (cA k, ln a, .inl (M.1 a)) := by
  unfold ent
  rw [h, if_pos hk]
theorem ent_rarr {ad : Nat → Nat} {cA : Nat → ClassId} {M : Mm} {a k : Nat} (h : sh a = k) (hk : ¬ k < 3) (hk2 : k < 10) : ent ad cA M a = .inl (cA k, ln a, .inr (.inr (.inr (.inr (fun j => some (ad (M.2.2 a j))))))) := by
  unfold ent
  rw [h, if_neg hk, if_pos hk2]
theorem ent_obj {ad : Nat → Nat} {cA : Nat → ClassId} {M : Mm} {a k : Nat} (h : sh a = 10 + k) : ent ad cA M a = .inr (k, (flds k).map (fv ad M a)) := by
  unfold ent
  rw [h, if_neg (by omega), if_neg (by omega), Nat.add_sub_cancel_left]
theorem ent_off {ad : Nat → Nat} {cA : Nat → ClassId} {M M1 : Mm} {b : Nat} (h1 : M1.1 b = M.1 b) (h2 : M1.2.1 b = M.2.1 b) (h3 : M1.2.2 b = M.2.2 b) : ent ad cA M1 b = ent ad cA M b := by
  have hf : fv ad M1 b = fv ad M b := by
    funext q
    unfold fv
    rw [h1, h2, h3]
  unfold ent
  rw [h1, h3, hf]
theorem wI_ne {M : Mm} {a k b : Nat} {v : Int32} (h : b ≠ a) : (wI M a k v).1 b = M.1 b := by
  funext j
  simp [wI, h]
theorem wI_eq {M : Mm} {a k : Nat} {v : Int32} : (wI M a k v).1 a = upd (M.1 a) k v := by
  funext j
  simp [wI, upd]
theorem wI_2 {M : Mm} {a k : Nat} {v : Int32} : (wI M a k v).2 = M.2 := rfl
theorem wJ_ne {M : Mm} {a k b : Nat} {v : Int64} (h : b ≠ a) : (wJ M a k v).2.1 b = M.2.1 b := by
  funext j
  simp [wJ, h]
theorem wR_ne {M : Mm} {a k b : Nat} {v : Nat} (h : b ≠ a) : (wR M a k v).2.2 b = M.2.2 b := by
  funext j
  simp [wR, h]
theorem wC_ne {M : Mm} {a0 a sp dp n b : Nat} (h : b ≠ a) : (wC M a0 a sp dp n).1 b = M.1 b := by
  funext j
  simp [wC, h]
theorem wC_eq {M : Mm} {a0 a sp dp n : Nat} : (wC M a0 a sp dp n).1 a = va_cpy (M.1 a0) (M.1 a) sp dp n := by
  funext j
  simp [wC, va_cpy]
/-! THE PIECES OF A METHOD on a memory: each goes on with what it reads, or is none -/
def ldI {α : Type} (M : Mm) (a : Nat) (i : Int32) (K : Int32 → Option α) : Option α := if ¬ (i < 0 ∨ ln a ≤ i.toNatClampNeg) then K (M.1 a i.toNatClampNeg) else none
def ldR {α : Type} (M : Mm) (k a : Nat) (i : Int32) (K : Nat → Option α) : Option α := if ¬ (i < 0 ∨ ln a ≤ i.toNatClampNeg) ∧ sh (M.2.2 a i.toNatClampNeg) = k then K (M.2.2 a i.toNatClampNeg) else none
def stI {α : Type} (M : Mm) (a : Nat) (i v : Int32) (K : Mm → Option α) : Option α := if ¬ (i < 0 ∨ ln a ≤ i.toNatClampNeg) then K (wI M a i.toNatClampNeg v) else none
def ldS {α : Type} (f : Nat → Int32) (n : Nat) (i : Int32) (K : Int32 → Option α) : Option α := if ¬ (i < 0 ∨ n ≤ i.toNatClampNeg) then K (f i.toNatClampNeg) else none
def gfI {α : Type} (M : Mm) (a f : Nat) (K : Int32 → Option α) : Option α := K (M.1 a f)
def gfJ {α : Type} (M : Mm) (a f : Nat) (K : Int64 → Option α) : Option α := K (M.2.1 a f)
def gfR {α : Type} (M : Mm) (k a f : Nat) (K : Nat → Option α) : Option α := if sh (M.2.2 a f) = k then K (M.2.2 a f) else none
def pfI {α : Type} (M : Mm) (a f : Nat) (v : Int32) (K : Mm → Option α) : Option α := K (wI M a f v)
def pfJ {α : Type} (M : Mm) (a f : Nat) (v : Int64) (K : Mm → Option α) : Option α := K (wJ M a f v)
def pfR {α : Type} (M : Mm) (a f : Nat) (v : Nat) (K : Mm → Option α) : Option α := K (wR M a f v)
def cpA {α : Type} (M : Mm) (a0 : Nat) (sp : Int32) (a : Nat) (dp n : Int32) (K : Mm → Option α) : Option α := if ¬ sp < 0 ∧ ¬ dp < 0 ∧ ¬ n < 0 ∧ sp.toNatClampNeg + n.toNatClampNeg ≤ ln a0 ∧ dp.toNatClampNeg + n.toNatClampNeg ≤ ln a then K (wC M a0 a sp.toNatClampNeg dp.toNatClampNeg n.toNatClampNeg) else none
def dvI {α : Type} (x y : Int32) (K : Int32 → Option α) : Option α := if ¬ y = 0 then K (x / y) else none
def dvJ {α : Type} (x y : Int64) (K : Int64 → Option α) : Option α := if ¬ y = 0 then K (x / y) else none
def rmJ {α : Type} (x y : Int64) (K : Int64 → Option α) : Option α := if ¬ y = 0 then K (x - x / y * y) else none
def cal {α β : Type} (o : Option (α × Mm)) (K : α → Mm → Option β) : Option β := match o with
  | none => none
  | some q => K q.1 q.2
def rz {α : Type} (v : Int32) (o : Option α) : Option α := if v = 0 ∨ v = 1 then o else none
/-! LOOPS: a step's last answer, if it comes to one -/
def fn_run {σ ρ : Type} (f : σ → Option (σ ⊕ ρ)) : Nat → σ → Option ρ
  | 0, _ => none
  | n + 1, x => match f x with
    | none => none
    | some (.inl y) => fn_run f n y
    | some (.inr r) => some r
theorem fn_mono {σ ρ : Type} {f : σ → Option (σ ⊕ ρ)} {r : ρ} : ∀ (n k : Nat) (x : σ), fn_run f n x = some r → fn_run f (n + k) x = some r
  | 0, _, _, h => by cases h
  | n + 1, k, x, h => by
    rw [Nat.add_right_comm]
    unfold fn_run at h ⊢
    revert h
    cases f x with
    | none => intro h; cases h
    | some z => cases z with
      | inl y => exact fn_mono n k y
      | inr q => exact id
theorem fn_one {σ ρ : Type} {f : σ → Option (σ ⊕ ρ)} {x : σ} {r q : ρ} {n k : Nat} (h : fn_run f n x = some r) (h2 : fn_run f k x = some q) : r = q := by
  have a := fn_mono n k x h
  have b := fn_mono k n x h2
  rw [Nat.add_comm] at b
  exact Option.some.inj (a.symm.trans b)
noncomputable def fnl {σ ρ : Type} (f : σ → Option (σ ⊕ ρ)) (x : σ) : Option ρ := @dite _ (∃ r n, fn_run f n x = some r) (Classical.propDecidable _) (fun h => some (Classical.choose h)) (fun _ => none)
theorem fnl_run {σ ρ : Type} {f : σ → Option (σ ⊕ ρ)} {x : σ} {r : ρ} (h : fnl f x = some r) : ∃ n, fn_run f n x = some r := by
  unfold fnl at h
  by_cases hx : ∃ r n, fn_run f n x = some r
  · rw [dif_pos hx] at h
    obtain ⟨n, hn⟩ := Classical.choose_spec hx
    exact ⟨n, hn.trans h⟩
  · rw [dif_neg hx] at h
    cases h
theorem fnl_of {σ ρ : Type} {f : σ → Option (σ ⊕ ρ)} {x : σ} {r : ρ} {n : Nat} (h : fn_run f n x = some r) : fnl f x = some r := by
  have hx : ∃ r n, fn_run f n x = some r := ⟨r, n, h⟩
  unfold fnl
  rw [dif_pos hx]
  obtain ⟨k, hk⟩ := Classical.choose_spec hx
  exact congrArg some (fn_one hk h)
theorem fnl_in {σ ρ : Type} {f : σ → Option (σ ⊕ ρ)} {x y : σ} (h : f x = some (.inl y)) : fnl f x = fnl f y := by
  cases hy : fnl f y with
  | some r =>
    obtain ⟨n, hn⟩ := fnl_run hy
    exact fnl_of (n := n + 1) (by unfold fn_run; rw [h]; exact hn)
  | none =>
    cases hx : fnl f x with
    | none => rfl
    | some r =>
      obtain ⟨n, hn⟩ := fnl_run hx
      cases n with
      | zero => cases hn
      | succ n =>
        unfold fn_run at hn
        rw [h] at hn
        rw [fnl_of hn] at hy
        cases hy
theorem fnl_out {σ ρ : Type} {f : σ → Option (σ ⊕ ρ)} {x : σ} {r : ρ} (h : f x = some (.inr r)) : fnl f x = some r := fnl_of (n := 1) (by unfold fn_run; rw [h])
/-- what holds by every last answer, holds before every step -/
theorem fnl_ind {σ ρ : Type} {f : σ → Option (σ ⊕ ρ)} {r : ρ} (P : σ → Prop) (hP : ∀ x, (∃ w, f x = some w ∧ Sum.elim P (fun q => q = r) w) → P x) {x : σ} (h : fnl f x = some r) : P x := by
  obtain ⟨n, hn⟩ := fnl_run h
  clear h
  induction n generalizing x with
  | zero => cases hn
  | succ n ih =>
    unfold fn_run at hn
    cases hf : f x with
    | none => rw [hf] at hn; cases hn
    | some w =>
      rw [hf] at hn
      cases w with
      | inl y => exact hP x ⟨_, hf, ih hn⟩
      | inr q => exact hP x ⟨_, hf, Option.some.inj hn⟩
/-! THE WORLD: which words hold, how a memory lies in a heap -/
def isNest : Cond → Bool
  | .fieldLinkNest .. => true
  | .methodLinkNest .. => true
  | _ => false
def BG : List Cond := lw_tbl.filter goodWord
def NSW : List Cond := lw_tbl.filter isNest
theorem bg_at {w : Cond} (i : Nat) (h : lw_tbl[i]? = some w) (hg : goodWord w = true) : w ∈ BG := List.mem_filter.mpr ⟨List.mem_of_getElem? h, hg⟩
theorem ns_at {w : Cond} (i : Nat) (h : lw_tbl[i]? = some w) (hg : isNest w = true) : w ∈ NSW := List.mem_filter.mpr ⟨List.mem_of_getElem? h, hg⟩
theorem bg_good {w : Cond} (h : w ∈ BG) : GoodIn BG (w :: BG) := by
  intro v hv
  have hm : v ∈ BG := by
    rcases List.mem_cons.mp hv with e | e
    · rw [e]; exact h
    · exact e
  exact ⟨hm, good_of_word (List.mem_filter.mp hm).2⟩
theorem nest_warm {w : Cond} (h : isNest w = true) {s U : State} (hW : s.WarmedH U.vm) (hZ : va_Nw w s) : va_Nw w U := by
  cases w <;> first | (simp [isNest] at h; done) | exact va_Nw.warmF hW hZ | exact va_Nw.warmM hW hZ
theorem nest_same {w : Cond} (h : isNest w = true) {s U : State} (hW : s.vm = U.vm) (hZ : va_Nw w s) : va_Nw w U := by
  cases w <;> first | (simp [isNest] at h; done) | exact va_Nw.same rfl hW hZ
abbrev GX : Type := va_G × (Nat → Nat) × (Nat → ClassId) × (Nat → Prop)
abbrev SB : Type := (Program × Launch × Env × Room × State × MethodId × Array Value × List Frame × Method × Code) × GX × (State → Prop) × Nat × Nat × Nat
abbrev rf (g : GX) (a : Nat) : Value := .ref (g.2.1 a)
def VK (g : GX) (U : State) : Prop := va_K g.1 vwCl (tysW g.2.2.1) U ∧ ∀ w ∈ NSW, va_Nw w U
/-- the two static arrays -/
def let1 (k : Nat) : Int32 := [112, 103, 116, 98, 109, 99].getD k 0
def par1 (k : Nat) : Int32 := [0, 0, 0, 0, 1, 2].getD k 0
def ZA (g : GX) (k : Nat) (nm : String) (f : Nat → Int32) (U : State) (H : Heap) : Prop := va_Z "CrumbWood" nm "[I" (rf g (NW + k)) g.2.2.2 U H ∧ va_T .int (g.2.1 (NW + k)) 6 (fun j => .int (f j)) g.2.2.2 U H
def ZK (g : GX) (U : State) (H : Heap) : Prop := ZA g 0 "LETTERS" let1 U H ∧ ZA g 1 "PARENTS" par1 U H
def IJ (g : GX) : Prop := (∀ i j, i < NW → j < NW → g.2.1 i = g.2.1 j → i = j) ∧ ∀ i, i < NW → g.2.2.2 (g.2.1 i)
def PW (g : GX) (M : Mm) (H : Heap) : Prop := va_P g.1 vwCl (wsM g.2.1 g.2.2.1 M) H
theorem VK.warm {g : GX} {s U : State} (hW : s.WarmedH U.vm) (h : VK g s) : VK g U := ⟨va_K.moved hW.alike h.1, fun w hw => nest_warm (List.mem_filter.mp hw).2 hW (h.2 w hw)⟩
theorem VK.same {g : GX} {s U : State} (hW : s.vm = U.vm) (h : VK g s) : VK g U := ⟨va_K.moved (by rw [hW]; exact Vm.Alike.refl _) h.1, fun w hw => nest_same (List.mem_filter.mp hw).2 hW (h.2 w hw)⟩
theorem ZA.to {g : GX} {k : Nat} {nm : String} {f : Nat → Int32} {s U : State} {H H1 : Heap} (hvm : s.vm.Alike U.vm) (hq : ∀ a : Nat, a < H.size → ¬ g.2.2.2 a → H1[a]? = H[a]?) (h : ZA g k nm f s H) : ZA g k nm f U H1 := ⟨va_Z.kept (va_Z.moved hvm h.1) hq, va_T.kept (va_T.moved hvm h.2) hq⟩
theorem ZK.to {g : GX} {s U : State} {H H1 : Heap} (hvm : s.vm.Alike U.vm) (hq : ∀ a : Nat, a < H.size → ¬ g.2.2.2 a → H1[a]? = H[a]?) (h : ZK g s H) : ZK g U H1 := ⟨h.1.to hvm hq, h.2.to hvm hq⟩
theorem wsM_D {g : GX} (hJ : IJ g) (M : Mm) : va_D g.2.2.2 (wsM g.2.1 g.2.2.1 M) := by
  have key : ∀ (i : Nat) (p : Nat × va_E), (wsM g.2.1 g.2.2.1 M)[i]? = some p → i < NW ∧ p.1 = g.2.1 i := by
    intro i p hp
    have hi : i < NW := by
      have := (List.getElem?_eq_some_iff.mp hp).1
      simpa [wsM] using this
    rw [wsM_at _ _ _ hi] at hp
    exact ⟨hi, by rw [← Option.some.inj hp]⟩
  refine ⟨fun i j p q hp hq h => ?_, fun k q hk => ?_⟩
  · obtain ⟨h1, e1⟩ := key i p hp
    obtain ⟨h2, e2⟩ := key j q hq
    exact hJ.1 i j h1 h2 (by rw [← e1, ← e2]; exact h)
  · obtain ⟨h1, e1⟩ := key k q hk
    rw [e1]
    exact hJ.2 k h1
def rmd (d : Nat) : Room := { frames := d, cells := 0, slots := 0, locals := 39 * d }
def wy (y : MethodName) (cc : ByteArray) (maxL : Nat) (ret : Option FieldType) : List Cond := .code y cc maxL ret :: BG
def Pm (g : GX) (As : List Value) (M : Mm) : Array Value → State → Prop := va_Pc As (fun U => PW g M U.heap ∧ VK g U ∧ ZK g U U.heap)
def Qm (g : GX) (rv : Option Value) (M1 : Mm) : Array Value → State → Outcome → State → Prop := fun _ st oc t => oc = .returned rv ∧ PW g M1 t.heap ∧ va_F g.2.2.2 st t
/-- a method's contract: what its function answers, the machine answers -/
def CT {α : Type} (l : Launch) (g : GX) (y : MethodName) (cc : ByteArray) (maxL : Nat) (ret : Option FieldType) (d : Nat) (As : List Value) (M : Mm) (f : Option (α × Mm)) (mk : α → Option Value) : Prop :=
  ∀ r M1, f = some (r, M1) → Met l y (wy y cc maxL ret) (rmd d) (Pm g As M) (Qm g (mk r) M1) 0 0 g.2.2.2
def CX (x : SB) (cc : ByteArray) (own : String) (d : Nat) : Prop := match x with
  | ((p, l, e, R, s, m, args, below, meth, c), g, Q, nL, cells, slots) => p.tables.exec = Jvm.exec ∧ c.code = cc ∧ c.maxLocals = nL ∧ s.vm.findClass own = some m.cls ∧ (∀ w ∈ BG, w.before args s = true) ∧ (d ≤ R.frames ∧ 39 * d ≤ R.locals ∧ cells ≤ R.cells ∧ slots ≤ R.slots) ∧ VK g s ∧ ZK g s s.heap ∧ IJ g
def SW (x : SB) (H : Heap) (locs : List Loc) (pc : Nat) (ls : Array Slot) (st : List Value) : Prop := match x with
  | ((p, l, e, R, s, m, args, below, meth, c), g, Q, nL, cells, slots) => W p l e R s m args below meth c H locs cells slots Q (F0 m pc ls st)
def SH (x : SB) (H : Heap) (locs : List Loc) : Prop := va_S x.2.1.2.2.2 x.1.2.2.2.2.1.heap H locs
def SIM {α : Type} (x : SB) (F : α → Prop) (o : Option α) (pc : Nat) (lv : List (Nat × Value)) (st : List Value) (M : Mm) : Prop :=
  (∃ w, o = some w ∧ F w) → ∀ (ls : Array Slot) (H : Heap) (locs : List Loc), lv_has ls x.2.2.2.1 lv → PW x.2.1 M H → SH x H locs → SW x H locs pc ls st
theorem CX.J {x : SB} {cc : ByteArray} {own : String} {d : Nat} (X : CX x cc own d) : IJ x.2.1 := X.2.2.2.2.2.2.2.2

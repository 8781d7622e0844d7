/-! a number gets a name -/
def ltI {α : Type} (v : Int32) (K : Int32 → Option α) : Option α := K v
def ltJ {α : Type} (v : Int64) (K : Int64 → Option α) : Option α := K v
theorem r_letI {α : Type} {x : SB} {F : α → Prop} {pc : Nat} {lv : List (Nat × Value)} {st : List Value} {M : Mm} {v : Int32} {K : Int32 → Option α} (kk : ∀ v, SIM x F (K v) pc lv (.int v :: st) M) : SIM x F (ltI v K) pc lv (.int v :: st) M := kk v
theorem r_letJ {α : Type} {x : SB} {F : α → Prop} {pc : Nat} {lv : List (Nat × Value)} {st : List Value} {M : Mm} {v : Int64} {K : Int64 → Option α} (kk : ∀ v, SIM x F (K v) pc lv (.long v :: st) M) : SIM x F (ltJ v K) pc lv (.long v :: st) M := kk v

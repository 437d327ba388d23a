/-! THE ENGINE, types. An abstract machine over an abstract heap: cells at numbers 0, 1, .. (as they are made), constants from 1000 on. -/
/-- a value: ints, longs, cells by their numbers; or a Token (by its ordinal) or null -/
abbrev aV : Type := Value ⊕ Option Nat
/-- the store: ints, longs, Tokens by cell and slot -/
abbrev aS : Type := (Nat → Nat → Int32) × (Nat → Nat → Int64) × (Nat → Nat → Option Nat)
/-- the skeleton: of each cell its kind, its length, its fixed references (9999: null) -/
abbrev aK : Type := List (Nat × Nat × List Nat)
/-- an instruction, its length, three numbers -/
abbrev aO : Type := Instr × Nat × Nat × Nat × Nat
/-- a method: its number, the kind of its answer, its locals, its instructions by place -/
abbrev aM : Type := Nat × Nat × Nat × List (Nat × aO)
abbrev aL : Type := List (Option aV)
abbrev aF : Type := aM × Nat × aL × List aV
abbrev aR : Type := (aF × aK × aS) ⊕ ((Nat × List aV × aF) ⊕ Option aV)
/-- words that any method may use -/
def a_LW : List Cond := lw_tbl.filter goodWord
theorem a_LW_mem {w : Cond} {i : Nat} (h : lw_tbl[i]? = some w) (hg : goodWord w = true) : w ∈ a_LW := List.mem_filter.mpr ⟨List.mem_of_getElem? h, hg⟩
theorem a_LW_good {w : Cond} (h : w ∈ a_LW) : w ∈ lw_tbl ∧ goodWord w = true := List.mem_filter.mp h

/-! the reference: its operations -/
section ZQ2
variable {G : zG} {d : Nat} {σ : zMem} {hm : Nat} {A : Nat → Nat} {N : Int → Int}
def hrow (σ : zMem) (A : Nat → Nat) (k : Int) : Int → Int := fun j => if 0 ≤ j ∧ j < 312 then zia σ (A 3) (312 * k + j) else 0
end ZQ2

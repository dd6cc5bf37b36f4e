/-! doubles and floats: no NaN comes where whole numbers are divided -/
section ZFP
/-! the rules -/
variable {G : zG} {M : zMeth} {d pc : Nat} {ls : List (Nat × zV)} {st : List zV} {σ : zMem} {Q : zRes → zMem → Prop}
end ZFP
section ZFQ
variable {G : zG} {d : Nat} {σ : zMem} {B : Nat → Nat} {N : Int → Int}
/-- every screen has seats and shows -/
def mCp (N : Int → Int) : Prop := ∀ s, 0 ≤ s → s < N 1 → 1 ≤ mCap N s
end ZFQ

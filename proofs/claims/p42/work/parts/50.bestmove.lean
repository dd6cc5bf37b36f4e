/-! the class: the best move -/
section ZC15
variable {G : zG} {d : Nat} {σ : zMem} {B : Nat → Nat} {N : Int → Int}
theorem zia_N {h h2 : Nat} {i j v : Int} (e : h2 ≠ h) : zia (zsi σ h i v) h2 j = zia σ h2 j := zsi_N e rfl
end ZC15

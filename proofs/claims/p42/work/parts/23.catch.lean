/-! calls under handlers -/
section ZCT
theorem zadd0 {s y : Int} (e : 0 = y) : s = s + y := by omega
theorem zsub_s {a s x y : Int} (e : x = y) : a - s - x = a - (s + y) := by omega
theorem zsub_s0 {a s y : Int} (e : 0 = y) : a - s = a - (s + y) := by omega
variable {G : zG} {M : zMeth} {d pc : Nat} {ls : List (Nat × zV)} {st : List zV} {σ : zMem} {Q : zRes → zMem → Prop}
end ZCT

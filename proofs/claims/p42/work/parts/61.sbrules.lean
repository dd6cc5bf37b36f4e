/-! rules for StringBuilder: private and super calls, copies of bytes, things that are made below -/
section ZSB
def zwl (n : Nat) : List zV → Prop
  | [] => True
  | v :: l => zwv n v ∧ zwl n l
theorem zwl_m {n : Nat} : ∀ {l : List zV}, zwl n l → ∀ v ∈ l, zwv n v := fun {l} => by
  induction l with
  | nil => intro _ v hv; exact nomatch hv
  | cons a l ih =>
    intro h v hv
    rcases List.mem_cons.mp hv with e | e
    · subst e; exact h.1
    · exact ih h.2 v e
theorem zwl_q {n : Nat} {l : List (Nat × zV)} (h : zwl n (l.map (·.2))) : ∀ q ∈ l, zwv n q.2 := fun q hq => zwl_m h q.2 (List.mem_map.mpr ⟨q, hq, rfl⟩)
theorem zwR {n h : Nat} (k : h < n) : zwv n (zR h) := fun x hx => by
  have : h = x := Option.some.inj hx
  omega
variable {G : zG} {M : zMeth} {d pc : Nat} {ls : List (Nat × zV)} {st : List zV} {σ : zMem} {Q : zRes → zMem → Prop}
end ZSB

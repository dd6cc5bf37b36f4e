/-! a memory grown by a StringBuilder's row -/
section ZGB
variable {σ σ1 σ2 : zMem} {B : Nat → Nat} {N : Int → Int} {vv vv1 cap cap1 : Nat} {l : List Int}
/-- all but the StringBuilder stays -/
def zGb (B : Nat → Nat) (σ σ1 : zMem) : Prop := zn σ ≤ zn σ1 ∧ ∀ k, k ≠ 11 → zkd σ1 (B k) = zkd σ (B k) ∧ zra σ1 (B k) = zra σ (B k) ∧ zia σ1 (B k) = zia σ (B k)
/-- the StringBuilder's row is no handle of ours, and there is room -/
def cSb (σ : zMem) (B : Nat → Nat) (vv : Nat) : Prop := (∀ k, B k ≠ vv) ∧ (∀ k, B k < zn σ ∨ zbg ≤ B k) ∧ zn σ + 6 < zbg
theorem cSb.z (b : cSb σ B vv) (s : sbS σ σ1 (B 11) vv vv1 cap cap1) : zn σ1 + 5 < zbg := by
  have := s.n
  have := b.2.2
  omega
theorem cSb.nx (b : cSb σ B vv) (s : sbS σ σ1 (B 11) vv vv1 cap cap1) : ∀ k, B k ≠ vv1 := fun k => by
  have h2 := b.1 k
  have h3 := b.2.1 k
  have h4 := b.2.2
  rcases s.2.2.2 with q | q <;> omega
theorem cSb.st (b : cSb σ B vv) (s : sbS σ σ1 (B 11) vv vv1 cap cap1) (h6 : zn σ1 + 6 < zbg) : cSb σ1 B vv1 := ⟨b.nx s, fun k => by have := b.2.1 k; have := s.n; omega, h6⟩
theorem zGb.lt (g : zGb B σ σ1) {x : Nat} (h : x < zn σ) : x < zn σ1 := Nat.lt_of_lt_of_le h g.1
end ZGB
section ZGC
variable {G : zG} {d : Nat} {σ : zMem} {B : Nat → Nat} {N : Int → Int} {vv cap : Nat} {l : List Int}
end ZGC

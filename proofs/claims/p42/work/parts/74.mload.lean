/-! the reference: a chain's text -/
section ZML
variable {G : zG} {d : Nat} {σ σ0 : zMem} {hm : Nat} {A : Nat → Nat} {t : Int → Int} {L : Nat} {s : tS} {D : Int → Int}
theorem mCn_b2 {h : Int} {n : Nat} : 0 ≤ mCn D h n ∧ mCn D h n ≤ n := by
  induction n with
  | zero => exact ⟨Int.le_refl _, Int.le_refl _⟩
  | succ n ih =>
    have e : mCn D h (n + 1) = mCn D h n + zb (mS D n 0 = h) := rfl
    have b := zb01 (mS D n 0 = h)
    rw [e]
    push_cast
    omega
end ZML

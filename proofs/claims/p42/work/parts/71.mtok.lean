/-! the reference: its tokens -/
section ZMT
variable {G : zG} {d : Nat} {σ σ0 : zMem} {hm : Nat} {A : Nat → Nat} {t : Int → Int} {L : Nat} {s : tS}
/-- the text that the reference holds -/
def mTx (σ : zMem) (A : Nat → Nat) (t : Int → Int) (L : Nat) : Prop := L ≤ 700 ∧ ∀ j : Int, 0 ≤ j → j < (L : Int) → zia σ (A 18) j = t j % 256 ∧ -128 ≤ t j ∧ t j < 128
theorem mTx.b (h : mTx σ A t L) : ∀ j : Int, 0 ≤ j → j < (L : Int) → -128 ≤ t j ∧ t j < 128 := fun j a b => (h.2 j a b).2
end ZMT

/-! the reference: its operations -/
section ZQ2
variable {G : zG} {d : Nat} {σ : zMem} {hm : Nat} {A : Nat → Nat} {N : Int → Int}
def mAr : List Nat := [0, 3, 7, 8, 9, 10, 11, 14, 15]
def hrow (σ : zMem) (A : Nat → Nat) (k : Int) : Int → Int := fun j => if 0 ≤ j ∧ j < 312 then zia σ (A 3) (312 * k + j) else 0
theorem mMv_eq {f p q : Int} (pq : p ≠ q) (h : 0 ≤ f ∧ -1 ≤ p ∧ -1 ≤ q) {x y z : Int} (ex : x = mP N f p - 1) (ey : y = mSet N (154 + 5 * f + p + 1) x (154 + 5 * f + q + 1) + 1) (ez : z = mSet (mSet N (154 + 5 * f + p + 1) x) (154 + 5 * f + q + 1) y 5 + 1) : mSet (mSet (mSet N (154 + 5 * f + p + 1) x) (154 + 5 * f + q + 1) y) 5 z = mMv N f p q := by
  rw [mSet_o (by omega)] at ey
  rw [mSet_o (by omega), mSet_o (by omega)] at ez
  subst ex
  subst ey
  subst ez
  rfl
theorem gTake_c {gg : Int → Int} (hg : gOK N gg) {s x : Int} (h0 : 0 ≤ s) (h1 : s < 10) (e : x = gTake N gg s) : x = cTake N s := e.trans (gTake_eq hg h0 h1)
end ZQ2

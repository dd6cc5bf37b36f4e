/-! the reference: the whole week is laid -/
section ZT
variable {G : zG} {d : Nat} {σ : zMem} {hm : Nat} {A : Nat → Nat}
/-- what a load makes sure of -/
def mW (N : Int → Int) : Prop := ∀ s, 0 ≤ s → s < N 1 → mS N s 0 < N 0 ∧ mS N s 4 < N 2 ∧ mS N s 5 < N 2
/-- the visitors of all screens and days -/
def gOK (N gg : Int → Int) : Prop := ∀ s dd : Int, 0 ≤ s → s < 10 → 0 ≤ dd → dd < 7 → gg (7 * s + dd) = gv N s dd
theorem gv_b {N : Int → Int} (hV : mV N) {s : Int} (h0 : 0 ≤ s) (h1 : s < 10) (dd : Int) : 0 ≤ gv N s dd ∧ gv N s dd ≤ 3000 := by
  have := mCap_b hV h0 h1
  unfold gv
  split <;> omega
theorem gOK_V {N gg : Int → Int} (hV : mV N) (h : gOK N gg) : gV gg := fun j a b => by
  have e : j = 7 * (j / 7) + j % 7 := by omega
  rw [e, h (j / 7) (j % 7) (by omega) (by omega) (by omega) (by omega)]
  exact gv_b hV (by omega) (by omega) _
end ZT

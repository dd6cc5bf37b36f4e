/-! the reference: a week's visitors -/
section ZV
variable {G : zG} {d : Nat} {σ : zMem} {hm : Nat} {A : Nat → Nat}
theorem zsum_upd {f g : Int → Int} {j : Nat} : ∀ {n : Nat}, j < n → (∀ i : Nat, i < n → i ≠ j → g i = f i) → zsum g n = zsum f n + (g j - f j) := by
  intro n
  induction n with
  | zero => intro h; exact absurd h (Nat.not_lt_zero _)
  | succ n ih =>
    intro h e
    show zsum g n + g n = zsum f n + f n + (g j - f j)
    by_cases q : j = n
    · subst q
      rw [zsum_congr fun i hi => e i (by omega) (by omega)]
      omega
    · rw [ih (by omega) fun i hi => e i (by omega), e n (by omega) (fun z => q z.symm)]
      omega
def gvS (N : Int → Int) (s day : Int) (n : Nat) : Int := zsum (fun o => if o ≠ s ∧ mS N o 0 = mS N s 0 ∧ (mCap N s < mCap N o ∨ (mCap N o = mCap N s ∧ o < s)) ∧ mSh N o day = mSh N s day then mCap N o else 0) n
def gv (N : Int → Int) (s day : Int) : Int := if 0 ≤ s ∧ s < N 1 ∧ 0 ≤ mSh N s day ∧ mSh N s day < N 2 then max 0 (min (mDem N (mSh N s day) - gvS N s day (nS N)) (mCap N s)) else 0
end ZV

/-! the reference: load -/
section ZMV
variable {G : zG} {d : Nat} {σ σ0 : zMem} {hm : Nat} {A : Nat → Nat} {t : Int → Int} {L : Nat} {s : tS} {D : Int → Int}
/-- how far a reading still has to go -/
def ldM (t : Int → Int) (L : Nat) (x : ldS) (n : Nat) : Nat := if (ldI t L x n).1.2 = 0 then L + 1 - (ldI t L x n).1.1 else 0
theorem ldM_dec {x : ldS} {n : Nat} (h : x.1.1 ≤ L) (h0 : (ldI t L x n).1.2 = 0) : ldM t L x (n + 1) < ldM t L x n := by
  unfold ldM
  have hp := (ldI_p (t := t) h n).resolve_right (fun y => y h0)
  rw [if_pos h0]
  by_cases e : (ldI t L x (n + 1)).1.2 = 0
  · rw [if_pos e]
    have := ldC_p (D := (ldI t L x n).2) hp h0 e
    have e2 : (ldI t L x (n + 1)).1.1 = (ldC t L ((ldI t L x n).1, (ldI t L x n).2)).1.1 := rfl
    omega
  · rw [if_neg e]; omega
/-- the texts read up to here -/
def ldW (t : Int → Int) (L : Nat) (x : ldS) (n : Nat) : Prop := (∀ m, m < n → tKd t L (ldI t L x m).1 ≠ 0) ∧ ((ldI t L x n).1.2 = 0 → ldV (ldI t L x n).2)
end ZMV

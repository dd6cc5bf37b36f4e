/-! the reference: close -/
section ZK3
variable {G : zG} {d : Nat} {σ : zMem} {hm : Nat} {A : Nat → Nat} {N gg : Int → Int}
theorem shN_agr (x : Nat) (hx : x ≤ 95) : agr N (shN N x) := fun j hj => shN_a x hx j (by omega)
theorem clN_212 : clN N 212 = clA N 0 := by
  rw [clN_hi (by omega) (by omega)]
  unfold kwN
  rw [if_neg (by omega), if_pos (by omega)]
  rfl
def oClV (N : Int → Int) : Int := if N 3 = 60 then -2 else clA N 0
def oClS (S : zS) : zS := if S.1 3 = 60 then S else sRec S (clN S.1)
end ZK3

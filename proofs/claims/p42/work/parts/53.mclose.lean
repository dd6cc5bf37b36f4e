/-! the reference: close -/
section ZK3
variable {G : zG} {d : Nat} {σ : zMem} {hm : Nat} {A : Nat → Nat} {N gg : Int → Int}
def oClV (N : Int → Int) : Int := if N 3 = 60 then -2 else clA N 0
def oClS (S : zS) : zS := if S.1 3 = 60 then S else sRec S (clN S.1)
end ZK3

/-! the reference: bookings, copies, the record -/
section ZO
variable {G : zG} {d : Nat} {σ : zMem} {hm : Nat} {A : Nat → Nat}
def mBook (N : Int → Int) (s a b c e : Int) : Int → Int := fun j => if j = 14 + 8 * s + 7 then e else if j = 14 + 8 * s + 6 then c else if j = 14 + 8 * s + 5 then b else if j = 14 + 8 * s + 4 then a else N j
end ZO

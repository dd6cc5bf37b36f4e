/-! the reference: its questions -/
section ZQ
variable {G : zG} {d : Nat} {σ : zMem} {hm : Nat} {A : Nat → Nat} {N : Int → Int}
theorem zFr_F {P : Nat → Int → Prop} {σ1 σ2 : zMem} {h : Nat} {j v : Int} (k : zFr P σ1 σ2) (hp : ¬ P h j) (e : zia σ1 h j = v) : zia σ2 h j = v := (k.2.2.2.2.2 h j hp).trans e
end ZQ

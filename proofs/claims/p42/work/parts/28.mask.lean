/-! the reference: its questions -/
section ZQ
variable {G : zG} {d : Nat} {σ : zMem} {hm : Nat} {A : Nat → Nat} {N : Int → Int}
theorem zFr_F {P : Nat → Int → Prop} {σ1 σ2 : zMem} {h : Nat} {j v : Int} (k : zFr P σ1 σ2) (hp : ¬ P h j) (e : zia σ1 h j = v) : zia σ2 h j = v := (k.2.2.2.2.2 h j hp).trans e
def mBkN (N : Int → Int) (b : Int) (n : Nat) : Int := zsum (fun s => if b ≠ 0 then mS N s 7 else zb (mS N s 4 ≠ -1)) n
theorem mBk0 : mBkN N 0 (nS N) = cBkN N (nS N) := zsum_congr fun s _ => if_neg (fun h => h rfl)
theorem mBk1 : mBkN N 1 (nS N) = cHdN N (nS N) := zsum_congr fun s _ => if_pos (by decide)
end ZQ

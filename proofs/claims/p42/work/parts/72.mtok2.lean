/-! the reference: taking tokens -/
section ZMU
variable {G : zG} {d : Nat} {σ σ0 : zMem} {hm : Nat} {A : Nat → Nat} {t : Int → Int} {L : Nat} {s : tS}
theorem tWd_0 {w : List Int} (h : tWd t L w s) : s.2 = 0 := tKd_z (t := t) (L := L) (by have := h.1; omega)
theorem tSg_0 {c : Int} (h : tSg t L c s) : s.2 = 0 := tKd_z (t := t) (L := L) (by have := h.1; omega)
variable {M : zMeth} {pc : Nat} {ls : List (Nat × zV)} {st : List zV} {Q : zRes → zMem → Prop}
/-- a word that must come -/
def tWdS (t : Int → Int) (L : Nat) (w : List Int) (s : tS) : tS := if tWd t L w s then tAdv t L s else tFail 1 s
end ZMU

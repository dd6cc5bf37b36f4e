/-! rules for StringBuilder: private and super calls, copies of bytes, things that are made below -/
section ZSB
def zwl (n : Nat) : List zV → Prop
  | [] => True
  | v :: l => zwv n v ∧ zwl n l
theorem zwl_m {n : Nat} : ∀ {l : List zV}, zwl n l → ∀ v ∈ l, zwv n v := fun {l} => by
  induction l with
  | nil => intro _ v hv; exact nomatch hv
  | cons a l ih =>
    intro h v hv
    rcases List.mem_cons.mp hv with e | e
    · subst e; exact h.1
    · exact ih h.2 v e
theorem zwl_q {n : Nat} {l : List (Nat × zV)} (h : zwl n (l.map (·.2))) : ∀ q ∈ l, zwv n q.2 := fun q hq => zwl_m h q.2 (List.mem_map.mpr ⟨q, hq, rfl⟩)
theorem zwR {n h : Nat} (k : h < n) : zwv n (zR h) := fun x hx => by
  have : h = x := Option.some.inj hx
  omega
variable {G : zG} {M : zMeth} {d pc : Nat} {ls : List (Nat × zV)} {st : List zV} {σ : zMem} {Q : zRes → zMem → Prop}
theorem zF_callVnn (pc' : Nat) {M2 : zMeth} {d2 idx n ci h : Nat} {C : vw_C} {stk as rest : List zV} (hd : decode M.2.1 pc = .ok (.invokevirtual idx, 3)) (hp : pc + 3 = pc') (hcl : zCL M.1.cls idx M2 n) (hin : Cond.instanceMethod M2.1 ∈ lw_all) (hc : zcl[ci]? = some C) (hse : Cond.selects C.1 M2.1 M2.1 ∈ lw_all) (hdd : d2 + 1 ≤ d) (hkd : zkd σ h = (0, ci)) (hh : h < zn σ) (hn : as.length = n) (hs : stk = as.reverse ++ zR h :: rest) (hcat : (rest.map zcat).sum ≤ 8)
    (hw1 : zwl (zn σ) (ls.map (·.2))) (hw2 : zwl (zn σ) rest)
    (k : zE G M2 d2 (zR h :: as) σ (fun r σ1 => match r with | .inl v => zF G M d pc' ls (v.toList ++ rest) σ1 Q | .inr E => M.1.cls ≠ RL ∧ Q (.inr E) σ1)) : zF G M d pc ls stk σ Q := zF_callVn pc' hd hp hcl hin hc hse hdd hkd hh hn hs hcat (zwl_q hw1) (zwl_m hw2) k
theorem zF_callSn (pc' : Nat) {M2 : zMeth} {d2 idx n : Nat} {stk as rest : List zV} (hd : decode M.2.1 pc = .ok (.invokestatic idx, 3)) (hp : pc + 3 = pc') (hcl : zCL M.1.cls idx M2 n) (hst : Cond.static M2.1 ∈ lw_all) (hdd : d2 + 1 ≤ d) (hn : as.length = n) (hs : stk = as.reverse ++ rest) (hcat : (rest.map zcat).sum ≤ 8)
    (hw1 : zwl (zn σ) (ls.map (·.2))) (hw2 : zwl (zn σ) rest)
    (k : zE G M2 d2 as σ (fun r σ1 => match r with | .inl v => zF G M d pc' ls (v.toList ++ rest) σ1 Q | .inr E => M.1.cls ≠ RL ∧ Q (.inr E) σ1)) : zF G M d pc ls stk σ Q := by
  subst hp
  exact zF_callS0 hd hcl hst hdd hn hs hcat (k.mono fun r σ1 h => ⟨zkeepn (zwl_q hw1) (zwl_m hw2), h⟩)
end ZSB

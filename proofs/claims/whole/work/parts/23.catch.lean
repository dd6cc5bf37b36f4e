/-! calls under handlers -/
section ZCT
theorem zadd0 {s y : Int} (e : 0 = y) : s = s + y := by omega
theorem zsub_s {a s x y : Int} (e : x = y) : a - s - x = a - (s + y) := by omega
theorem zsub_s0 {a s y : Int} (e : 0 = y) : a - s = a - (s + y) := by omega
def zst0 (i : Nat) (ls : List (Nat × zV)) : List (Nat × zV) := ls.filter (fun q => !(q.1 == i) && !(q.1 + 1 == i && zcat q.2 == 2))
def zen (z : Nat × Nat × Nat × Nat) : ExceptionTableEntry := ⟨z.1, z.2.1, z.2.2.1, z.2.2.2⟩
/-- who catches E at pc: the handler's pc, the local it stores to, the pc behind -/
def zhand (G : zG) (M : zMeth) (pc : Nat) (E : String) (j np : Nat) : Prop :=
  ∃ bytes mx ret hh pre x suf nm hpc, Cond.codeWith M.1 bytes mx ret hh ∈ lw_all ∧ hh = pre ++ x :: suf ∧ (∀ z ∈ pre, covers (zen z) pc = false ∨ (z.2.2.2 ≠ 0 ∧ ∃ nm2, Cond.classLink M.1.cls z.2.2.2 nm2 ∈ lw_all ∧ va_Nc E nm2 G.2.2.2.1)) ∧
    covers (zen x) pc = true ∧ x.2.2.1 = hpc ∧ x.2.2.2 ≠ 0 ∧ Cond.classLink M.1.cls x.2.2.2 nm ∈ lw_all ∧ Cond.castable E nm ∈ lw_nest ∧ j < M.2.2.1 ∧
    ((decode M.2.1 hpc = .ok (.astore j, 2) ∧ hpc + 2 = np) ∨ ∃ k : Fin 4, decode M.2.1 hpc = .ok (.astore_n k, 1) ∧ (k : Nat) = j ∧ hpc + 1 = np)
theorem lv_has_sub {lsA : Array Slot} {nL : Nat} {l l' : List (Nat × Value)} (h : lv_has lsA nL l) (hs : ∀ q ∈ l', q ∈ l) : lv_has lsA nL l' := ⟨h.1, h.2.1, fun q hq => h.2.2 q (hs q hq)⟩
theorem zLs_st0 (ρ : Nat → Nat) (i : Nat) (ls : List (Nat × zV)) : zLs ρ (zst0 i ls) = (zLs ρ ls).filter (fun q => !(q.1 == i) && !(q.1 + 1 == i && q.2.category == 2)) := by
  unfold zLs zst0
  rw [List.filter_map]
  congr 1
  refine List.filter_congr fun q _ => ?_
  show _ = (!(q.1 == i) && !(q.1 + 1 == i && (ztr ρ q.2).category == 2))
  rw [ztr_cat]
theorem zcatch {G : zG} {M : zMeth} {d pc j np : Nat} {ls : List (Nat × zV)} {ρ : Nat → Nat} {E : String} {p : Program} {e : Env} {R : Room} {s : State} {m : MethodId} {args : Array Value} {below : List Frame} {meth : Method} {c : Code} {H : Heap} {locs : List Loc} {cells slots q : Nat} {lsA : Array Slot} {ce : Cell} {rest : List Value} {Qm : State → Prop}
    (hC : zCx G M d p R s m args meth c) (hh : zhand G M pc E j np) (hL : lv_has lsA M.2.2.1 (zLs ρ ls)) (hce : H[q]? = some ce) (hcv : ce.vm = .none) (hcl : s.vm.findClass E = some ce.cls)
    (kk : ∀ lsA1 : Array Slot, lv_has lsA1 M.2.2.1 (zLs ρ (zst0 j ls)) → W p G.1 e R s m args below meth c H locs cells slots Qm (F0 m np lsA1 [])) :
    vx_W p G.1 e R s m args below meth c H locs cells slots Qm (F0 m pc lsA rest) q := by
  obtain ⟨bytes, mx, ret, hh, pre, x, suf, nm, hpc, hw, es, hpre, hcov, ehp, hx0, hlk, hcast, hj, hast⟩ := hh
  have hts := hC.2.2.2.2.1
  have hnx := hC.2.2.2.2.2.2.2.2.2.2.2.2.2.2
  have hal := hC.2.2.2.2.2.2.2.2.2.2.2.2.1
  have htab := hC.2.2.2.2.2.2.2.2.1.2 bytes mx ret hh hw
  have htab2 : c.exceptionTable.toList = pre.map zen ++ zen x :: suf.map zen := by
    rw [htab, es]
    unfold tableOf
    rw [List.map_append, List.map_cons]
    rfl
  refine vx_catch hC.2.2.2.1 (pre.map zen) (zen x) (suf.map zen) htab2 (fun z hz => ?_) hcov hx0 (hts _ hlk) (va_Nw.use rfl (hnx.1 _ hcast)) hce hcv hcl ?_
  · obtain ⟨z0, hz0, ez⟩ := List.mem_map.mp hz
    subst ez
    rcases hpre z0 hz0 with h | ⟨h1, nm2, h2, h3⟩
    · exact Or.inl h
    · exact Or.inr ⟨h1, nm2, hts _ h2, va_Nc.moved hal h3⟩
  · show W p G.1 e R s m args below meth c H locs cells slots Qm (F0 m x.2.2.1 lsA [.ref q])
    rw [ehp]
    rcases hast with ⟨hd, en⟩ | ⟨k, hd, ek, en⟩
    · subst en
      exact lv_astore hC.1 hC.2.1 hd hL hj rfl fun l1 h1 => kk l1 (lv_has_sub h1 fun z hz => List.mem_cons_of_mem _ (by rw [zLs_st0] at hz; exact hz))
    · subst en
      exact lv_astore_n hC.1 hC.2.1 hd ek hL hj rfl fun l1 h1 => kk l1 (lv_has_sub h1 fun z hz => List.mem_cons_of_mem _ (by rw [zLs_st0] at hz; exact hz))
variable {G : zG} {M : zMeth} {d pc : Nat} {ls : List (Nat × zV)} {st : List zV} {σ : zMem} {Q : zRes → zMem → Prop}
theorem zF_callVH {M2 : zMeth} {d2 idx n ci h : Nat} {C : vw_C} {stk as rest : List zV} (hd : decode M.2.1 pc = .ok (.invokevirtual idx, 3)) (hcl : zCL M.1.cls idx M2 n) (hin : Cond.instanceMethod M2.1 ∈ lw_all) (hc : zcl[ci]? = some C) (hse : Cond.selects C.1 M2.1 M2.1 ∈ lw_all) (hdd : d2 + 1 ≤ d) (hkd : zkd σ h = (0, ci)) (hh : h < zn σ) (hn : as.length = n) (hs : stk = as.reverse ++ zR h :: rest) (hcat : (rest.map zcat).sum ≤ 8)
    (k : zE G M2 d2 (zR h :: as) σ (fun r σ1 => zn σ1 = zn σ ∧ match r with | .inl v => zF G M d (pc + 3) ls (v.toList ++ rest) σ1 Q | .inr E => ∃ j np, zhand G M pc E j np ∧ zF G M d np (zst0 j ls) [] σ1 Q)) : zF G M d pc ls stk σ Q := by
  obtain ⟨r1, σ1, ⟨hag, hm⟩, hu, hM⟩ := k
  have hrun : ∀ (ρ : Nat → Nat) (p : Program) (e : Env) (R : Room) (s : State) (m : MethodId) (args : Array Value) (below : List Frame) (meth : Method) (c : Code), zCx G M d p R s m args meth c → ∀ (H : Heap) (locs : List Loc) (cells slots : Nat) (lsA : Array Slot), zSt G M ρ σ ls s H locs lsA → cells + (zcs σ1 - zcs σ) ≤ R.cells → slots + (zss σ1 - zss σ) ≤ R.slots →
      vx_Run p G.1 e R s m args below meth c H locs cells slots (zcs σ1 - zcs σ) (zss σ1 - zss σ) (F0 m pc lsA (stk.map (ztr ρ))) (rest.map (ztr ρ)) (zQc G ρ (zn σ) r1 σ1 ((zR h :: as).map (ztr ρ)).toArray) (zXc G ρ (zn σ) r1 σ1) (zA G) := by
    intro ρ p e R s m args below meth c hC H locs cells slots lsA hS h1 h2
    have hts := hC.2.2.2.2.1
    have hB := zcallB (σ := σ) (σ1 := σ1) hcl hts hC.2.2.2.2.2.2.2.2.2.1 hC.2.2.2.2.2.2.2.2.2.2.1 hdd
    have hat := hS.1.1 h _ (zws_get hh)
    rw [zcell_o hkd] at hat
    obtain ⟨rC, hrC, hOB⟩ := hat
    have eC : rC = C := Option.some.inj (hrC.symm.trans hc)
    subst eC
    have hKn := (zcx_K hC).1 ci _ hc
    obtain ⟨cell, q1, q2, q3, q4⟩ := hOB
    refine vx_runV (Ts := lw_all) (C := rC.1) (b := ρ h) (As := as.map (ztr ρ)) (rest := rest.map (ztr ρ)) ⟨hC.1, hC.2.1, hC.2.2.1, hC.2.2.2.1, hts⟩ (hM ρ) ⟨hB, hts _ hin, hts _ hse⟩ ⟨zPc_blind, ⟨cell, q1, by rw [q3]; rfl, by rw [q2]; exact hKn.2.1⟩, zPreS (as := zR h :: as) hC hS⟩ rfl (by rw [List.length_map]; exact hn) hS.2.2.1 ?_ (lv_room (by rw [zcat_sum]; exact hcat)) hd ⟨h1, h2⟩
    show stk.map (ztr ρ) = _
    rw [hs, List.map_append, List.map_reverse, List.map_cons]
    rfl
  rcases r1 with v | E
  · obtain ⟨r, σ', hq, hu1, hF⟩ := hm
    refine ⟨r, σ', hq, hu.tr hu1, ?_⟩
    intro ρ p e R s m args below meth c hC H locs cells slots lsA hS h1 h2
    have b1 := hu.2.1
    have b2 := hu.2.2
    have b3 := hu1.2.1
    have b4 := hu1.2.2
    exact zcall hC hS hu (hrun ρ p e R s m args below meth c hC H locs cells slots lsA hS (by omega) (by omega)) (zkeep hag ρ) h1 h2 ⟨hu1, hF⟩
  · obtain ⟨j, np, hhd, r, σ', hq, hu1, hF⟩ := hm
    refine ⟨r, σ', hq, hu.tr hu1, ?_⟩
    intro ρ p e R s m args below meth c hC H locs cells slots lsA hS h1 h2
    have b1 := hu.2.1
    have b2 := hu.2.2
    have b3 := hu1.2.1
    have b4 := hu1.2.2
    intro T hT X
    rcases hrun ρ p e R s m args below meth c hC H locs cells slots lsA hS (by omega) (by omega) T hT X with ⟨v, st₀, t, T', L, h0, X', hL, e1, e2, ⟨⟨v1, er, _⟩, hF⟩, stp⟩ | ⟨q, st₀, t, T', L, E2, ce, h0, X', hL, e1, e2, ⟨⟨er, ρ', ha, hW⟩, hF2⟩, hce, hcv, hcl2, stp⟩
    · cases er
    · have eE : E2 = E := by injection er.symm
      subst eE
      have eρ : ρ' = ρ := ha.eq (by omega)
      subst eρ
      obtain ⟨k1, k2, k3⟩ := vx_keep h0 e1 hS.2.1 (fun q _ h => h) (fun q h => h) hL hF2
      have w := zcatch (rest := rest.map (ztr ρ')) (Qm := vx_MQ below (zQc G ρ' (zn σ) r σ') (zXc G ρ' (zn σ) r σ') args s R.cells R.slots (zA G)) (H := T'.heap) (locs := locs ++ L) (cells := cells + (zcs σ1 - zcs σ)) (slots := slots + (zss σ1 - zss σ)) (e := e) (below := below) hC hhd hS.2.2 (by rw [e1]; exact hce) hcv hcl2 fun lsA1 hl1 => by
        have w1 := hF ρ' p e R s m args below meth c hC T'.heap (locs ++ L) (cells + (zcs σ1 - zcs σ)) (slots + (zss σ1 - zss σ)) lsA1 ⟨by rw [e1]; exact hW, k3, hl1⟩ (by omega) (by omega)
        rw [hag] at w1
        exact w1
      obtain ⟨t2, a1, c1⟩ := w T' rfl X'
      exact ⟨t2, stp.trans a1, c1⟩
end ZCT

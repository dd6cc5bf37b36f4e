/-! the law's helpers: rules -/
section ZLH
variable {G : zG} {M : zMeth} {d pc : Nat} {ls : List (Nat × zV)} {st : List zV} {σ : zMem} {Q : zRes → zMem → Prop}
/-- a virtual call that may make new things, out of a method with handlers -/
theorem zF_callVHn (pc' : Nat) {M2 : zMeth} {d2 idx n ci h : Nat} {C : vw_C} {stk as rest : List zV} (hd : decode M.2.1 pc = .ok (.invokevirtual idx, 3)) (hp : pc + 3 = pc') (hcl : zCL M.1.cls idx M2 n) (hin : Cond.instanceMethod M2.1 ∈ lw_all) (hc : zcl[ci]? = some C) (hse : Cond.selects C.1 M2.1 M2.1 ∈ lw_all) (hdd : d2 + 1 ≤ d) (hkd : zkd σ h = (0, ci)) (hh : h < zn σ) (hn : as.length = n) (hs : stk = as.reverse ++ zR h :: rest) (hcat : (rest.map zcat).sum ≤ 8)
    (hw1 : zwl (zn σ) (ls.map (·.2))) (hw2 : zwl (zn σ) rest)
    (k : zE G M2 d2 (zR h :: as) σ (fun r σ1 => match r with | .inl v => zF G M d pc' ls (v.toList ++ rest) σ1 Q | .inr E => zn σ1 = zn σ ∧ ∃ j np, zhand G M pc E j np ∧ zF G M d np (zst0 j ls) [] σ1 Q)) : zF G M d pc ls stk σ Q := by
  subst hp
  obtain ⟨r1, σ1, hm, hu, hM⟩ := k
  rcases r1 with v | E
  · exact zF_callVn (pc + 3) hd rfl hcl hin hc hse hdd hkd hh hn hs hcat (zwl_q hw1) (zwl_m hw2) ⟨.inl v, σ1, hm, hu, hM⟩
  · exact zF_callVH hd hcl hin hc hse hdd hkd hh hn hs hcat ⟨.inr E, σ1, ⟨hm.1, hm.2⟩, hu, hM⟩
/-- a call of a method with handlers -/
def zCLH (own : String) (idx : Nat) (M2 : zMeth) (hh : List (Nat × Nat × Nat × Nat)) (n : Nat) : Prop := Cond.methodLink own idx M2.1 ∈ lw_all ∧ Cond.codeWith M2.1 M2.2.1 M2.2.2.1 M2.2.2.2 hh ∈ lw_all ∧ Cond.initialized M2.1.cls ∈ lw_all ∧ (M2.1.cls ≠ "java/lang/invoke/MethodHandle" ∧ M2.1.cls ≠ "java/lang/invoke/VarHandle" ∧ (parseMethodDescriptor M2.1.desc).map (fun d => d.parameters.length) = some n) ∧ M2.2.2.1 ≤ 45
theorem zwH_good {M2 : zMeth} {hh : List (Nat × Nat × Nat × Nat)} (h : Cond.codeWith M2.1 M2.2.1 M2.2.2.1 M2.2.2.2 hh ∈ lw_all) : GoodIn lw_all (zwH M2 hh) := fun w hw => by
  rcases List.mem_cons.mp hw with e | e
  · subst e; exact lw_all_in _ h
  · exact lw_all_in _ e
theorem zcallBH {own : String} {idx n d d2 : Nat} {M2 : zMeth} {hh : List (Nat × Nat × Nat × Nat)} {R : Room} {s : State} {args : Array Value} {σ σ1 : zMem} (hcl : zCLH own idx M2 hh n) (hst : Cond.static M2.1 ∈ lw_all) (hts : ∀ w ∈ lw_all, w.before args s = true) (hf : R.frames = d) (hl : R.locals = 64 * d) (hd : d2 + 1 ≤ d) :
    vx_CSW R s args own idx M2.1 M2.2.1 M2.2.2.1 M2.2.2.2 hh (zwH M2 hh) (zrm d2 σ σ1) (zcs σ1 - zcs σ) (zss σ1 - zss σ) n := by
  refine ⟨⟨rfl, rfl, by rw [hf]; exact hd, by rw [hl]; show 8 + (M2.2.2.1 + 11) + 64 * d2 ≤ 64 * d; have := hcl.2.2.2.2; omega, pay_in hts (zwH_good hcl.2.1), List.mem_cons_self⟩, hts _ hcl.2.1, hts _ hcl.2.2.1, ⟨hcl.2.2.2.1.1, hcl.2.2.2.1.2.1⟩, fun sig h => ?_, hts _ hcl.1, hts _ hst⟩
  have h2 := hcl.2.2.2.1.2.2
  rw [h] at h2
  exact (Option.some.inj h2).symm
theorem zF_callSH (pc' : Nat) {M2 : zMeth} {hh : List (Nat × Nat × Nat × Nat)} {d2 idx n : Nat} {stk as rest : List zV} (hd : decode M.2.1 pc = .ok (.invokestatic idx, 3)) (hp : pc + 3 = pc') (hcl : zCLH M.1.cls idx M2 hh n) (hst : Cond.static M2.1 ∈ lw_all) (hdd : d2 + 1 ≤ d) (hn : as.length = n) (hs : stk = as.reverse ++ rest) (hcat : (rest.map zcat).sum ≤ 8)
    (hw1 : zwl (zn σ) (ls.map (·.2))) (hw2 : zwl (zn σ) rest)
    (k : zEH G M2 hh d2 as σ (fun r σ1 => ∃ v, r = .inl v ∧ zF G M d pc' ls (v.toList ++ rest) σ1 Q)) : zF G M d pc ls stk σ Q := by
  subst hp
  obtain ⟨r1, σ1, ⟨v, er, hm⟩, hu, hM⟩ := k
  subst er
  obtain ⟨r, σ', hq, hu1, hF⟩ := hm
  refine ⟨r, σ', hq, hu.tr hu1, ?_⟩
  intro ρ p e R s m args below meth c hC H locs cells slots lsA hS h1 h2
  have b1 := hu.2.1
  have b2 := hu.2.2
  have b3 := hu1.2.1
  have b4 := hu1.2.2
  have hts := hC.2.2.2.2.1
  have hB := zcallBH (σ := σ) (σ1 := σ1) hcl hst hts hC.2.2.2.2.2.2.2.2.2.1 hC.2.2.2.2.2.2.2.2.2.2.1 hdd
  refine zcall (r1 := .inl v) (σ1 := σ1) (av := (as.map (ztr ρ)).toArray) hC hS hu ?_ (zkeepn (zwl_q hw1) (zwl_m hw2) ρ) h1 h2 ⟨hu1, hF⟩
  refine vx_runSX (Ts := lw_all) (As := as.map (ztr ρ)) (rest := rest.map (ztr ρ)) ⟨hC.1, hC.2.1, hC.2.2.1, hC.2.2.2.1, hts⟩ (hM ρ) hB ⟨zPc_blind, zPreS hC hS⟩ rfl (by rw [List.length_map]; exact hn) hS.2.2.1 ?_ (lv_room (by rw [zcat_sum]; exact hcat)) hd ⟨by omega, by omega⟩
  show stk.map (ztr ρ) = _
  rw [hs, List.map_append, List.map_reverse]
/-- an int row read with its cells brought into range -/
def zcp (σ : zMem) (r : Nat) : zMem := (σ.1, σ.2.1, fun h j => if h = r then (Int32.ofInt (zia σ h j)).toInt else zia σ h j, σ.2.2.2.1, σ.2.2.2.2)
theorem zcp_at (σ : zMem) (r : Nat) (j : Int) : zia (zcp σ r) r j = (Int32.ofInt (zia σ r j)).toInt := if_pos rfl
theorem zcp_ne (σ : zMem) {r h : Nat} (j : Int) (q : h ≠ r) : zia (zcp σ r) h j = zia σ h j := if_neg q
theorem zcp_fr (σ : zMem) (r : Nat) : zFr (fun h _ => h = r) σ (zcp σ r) := ⟨rfl, rfl, rfl, rfl, rfl, fun h j q => zcp_ne σ j q⟩
theorem zcp_rg (σ : zMem) (r : Nat) (j : Int) : zrg (zia (zcp σ r) r j) := by
  rw [zcp_at]
  exact ⟨Int32.minValue_le_toInt _, Int32.toInt_lt _⟩
theorem zF_cp (r n : Nat) (hk : zkd σ r = (1, n)) (k : zF G M d pc ls st (zcp σ r) Q) : zF G M d pc ls st σ Q := by
  refine zF_step (σ1 := zcp σ r) rfl rfl rfl ?_ k
  intro ρ p e R s m args below meth c hC H locs cells slots lsA Qm hS h1 h2 kk
  have e1 : zws G ρ (zcp σ r) = zws G ρ σ := by
    show (List.range (zn σ)).map _ = (List.range (zn σ)).map _
    refine List.map_congr_left fun h _ => ?_
    congr 1
    by_cases q : h = r
    · subst q
      rw [zcell_1 (σ := zcp σ h) hk, zcell_1 hk]
      congr 4
      funext j
      rw [zcp_at, Int32.ofInt_toInt]
    · exact zcell_congr rfl (fun j => zcp_ne σ j q) (fun j => rfl)
  refine kk H locs lsA ⟨⟨?_, ?_, hS.1.2.2.1, hS.1.2.2.2⟩, hS.2⟩
  · rw [e1]; exact hS.1.1
  · rw [e1]; exact hS.1.2.1
/-- an exception that the law may catch -/
def zNx (G : zG) : Prop := va_Nc eIAE eNSE (zSt0 G)
def zw32 (a : Int) : Int := (Int32.ofInt a).toInt
theorem zw32_rg (a : Int) : zrg (zw32 a) := ⟨Int32.minValue_le_toInt _, Int32.toInt_lt _⟩
theorem zw32_L (a : Int) : zrgL (zw32 a) := by
  have h := zw32_rg a
  unfold zrg at h
  unfold zrgL
  omega
theorem zF_wI {a : Int} (k : zF G M d pc ls (zI (zw32 a) :: st) σ Q) : zF G M d pc ls (zI a :: st) σ Q := by
  refine zF_step rfl rfl rfl ?_ k
  intro ρ p e R s m args below meth c hC H locs cells slots lsA Qm hS hR1 hR2 kk
  have q := kk H locs lsA hS
  simp only [List.map_cons, ztr, zw32, Int32.ofInt_toInt] at q ⊢
  exact q
theorem zF_wI2 {a b : Int} (k : zF G M d pc ls (zI (zw32 b) :: zI (zw32 a) :: st) σ Q) : zF G M d pc ls (zI b :: zI a :: st) σ Q := by
  refine zF_step rfl rfl rfl ?_ k
  intro ρ p e R s m args below meth c hC H locs cells slots lsA Qm hS hR1 hR2 kk
  have q := kk H locs lsA hS
  simp only [List.map_cons, ztr, zw32, Int32.ofInt_toInt] at q ⊢
  exact q
end ZLH

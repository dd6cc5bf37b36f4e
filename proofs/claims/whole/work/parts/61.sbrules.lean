/-! rules for StringBuilder: private and super calls, copies of bytes, things that are made below -/
section ZSB
def zwl (n : Nat) : List zV → Prop
  | [] => True
  | v :: l => zwv n v ∧ zwl n l
theorem zwl_m {n : Nat} : ∀ {l : List zV}, zwl n l → ∀ v ∈ l, zwv n v := fun {l} => by
  induction l with
  | nil => intro _ v hv; exact nomatch hv
  | cons a l ih =>
    intro h v hv
    rcases List.mem_cons.mp hv with e | e
    · subst e; exact h.1
    · exact ih h.2 v e
theorem zwl_q {n : Nat} {l : List (Nat × zV)} (h : zwl n (l.map (·.2))) : ∀ q ∈ l, zwv n q.2 := fun q hq => zwl_m h q.2 (List.mem_map.mpr ⟨q, hq, rfl⟩)
theorem zwR {n h : Nat} (k : h < n) : zwv n (zR h) := fun x hx => by
  have : h = x := Option.some.inj hx
  omega
theorem zwO {n i : Nat} : zwv n (zR (zbg + i)) := fun x hx => by
  have : zbg + i = x := Option.some.inj hx
  omega
variable {G : zG} {M : zMeth} {d pc : Nat} {ls : List (Nat × zV)} {st : List zV} {σ : zMem} {Q : zRes → zMem → Prop}
theorem zsel_sb {y y2 : MethodName} {s : State} {args : Array Value} {c : ClassId} (hy : y.cls = RJ5) (hc : s.vm.findClass RJ4 = some c) (hy2 : y2.cls = RJ5) (hsup : (Cond.selects RJ4 y2 y2).before args s = true) (hpriv : (Cond.privateMethod y).before args s = true) (hinst : (Cond.instanceMethod y).before args s = true) : (Cond.selects RJ4 y y).before args s = true := by
  obtain ⟨_, _, m2, _, _, hm2, _, kp, hkp, hko⟩ := Cond.selects_spec hsup
  have hps : s.vm.findClass RJ5 = some m2.cls := by rw [← hy2]; exact findClass_of_methodNamed hm2
  obtain ⟨mk, methM, hnamed, hmethM, -, -⟩ := Cond.instanceMethod_spec hinst
  have hfound : s.methodFound? y.cls y.name y.desc = some mk := State.methodFound?_of_named hnamed (by rw [hy]; exact ⟨by decide, by decide⟩)
  have hsel : selectMethod {} s.vm c mk = .method mk := selectMethod_private hmethM (Cond.privateMethod_at hpriv mk methM hnamed hmethM)
  have hcls : mk.cls = m2.cls := Option.some.inj ((findClass_of_methodNamed hnamed).symm.trans (by rw [hy]; exact hps))
  simp only [Cond.before, Cond.holds, Cond.value, hc, hfound, hnamed, hsel, hcls, hkp]
  simp [hko]
theorem zsbl : Cond.selects RJ4 yJ5_isLatin1_aae02 yJ5_isLatin1_aae02 ∈ lw_all := zi6 168 rfl rfl
theorem eJ5_isLatin1_aae02 : Cond.selects RJ4 yJ5_isLatin1_aae02 yJ5_isLatin1_aae02 ∈ lw_all := zsbl
theorem eJ5_ensureCapacityInternal_d00df : Cond.selects RJ4 yJ5_ensureCapacityInternal_d00df yJ5_ensureCapacityInternal_d00df ∈ lw_all := lw_all_sb 0 rfl rfl
theorem eJ5_newCapacity_0f7a4 : Cond.selects RJ4 yJ5_newCapacity_0f7a4 yJ5_newCapacity_0f7a4 ∈ lw_all := lw_all_sb 1 rfl rfl
theorem eJ5_putStringAt_47b60 : Cond.selects RJ4 yJ5_putStringAt_47b60 yJ5_putStringAt_47b60 ∈ lw_all := lw_all_sb 2 rfl rfl
theorem eJ5_inflateIfNeededFor_a7421 : Cond.selects RJ4 yJ5_inflateIfNeededFor_a7421 yJ5_inflateIfNeededFor_a7421 ∈ lw_all := lw_all_sb 3 rfl rfl
theorem zF_callVnn (pc' : Nat) {M2 : zMeth} {d2 idx n ci h : Nat} {C : vw_C} {stk as rest : List zV} (hd : decode M.2.1 pc = .ok (.invokevirtual idx, 3)) (hp : pc + 3 = pc') (hcl : zCL M.1.cls idx M2 n) (hin : Cond.instanceMethod M2.1 ∈ lw_all) (hc : zcl[ci]? = some C) (hse : Cond.selects C.1 M2.1 M2.1 ∈ lw_all) (hdd : d2 + 1 ≤ d) (hkd : zkd σ h = (0, ci)) (hh : h < zn σ) (hn : as.length = n) (hs : stk = as.reverse ++ zR h :: rest) (hcat : (rest.map zcat).sum ≤ 8)
    (hw1 : zwl (zn σ) (ls.map (·.2))) (hw2 : zwl (zn σ) rest)
    (k : zE G M2 d2 (zR h :: as) σ (fun r σ1 => match r with | .inl v => zF G M d pc' ls (v.toList ++ rest) σ1 Q | .inr E => M.1.cls ≠ RL ∧ Q (.inr E) σ1)) : zF G M d pc ls stk σ Q := zF_callVn pc' hd hp hcl hin hc hse hdd hkd hh hn hs hcat (zwl_q hw1) (zwl_m hw2) k
theorem zF_callSn (pc' : Nat) {M2 : zMeth} {d2 idx n : Nat} {stk as rest : List zV} (hd : decode M.2.1 pc = .ok (.invokestatic idx, 3)) (hp : pc + 3 = pc') (hcl : zCL M.1.cls idx M2 n) (hst : Cond.static M2.1 ∈ lw_all) (hdd : d2 + 1 ≤ d) (hn : as.length = n) (hs : stk = as.reverse ++ rest) (hcat : (rest.map zcat).sum ≤ 8)
    (hw1 : zwl (zn σ) (ls.map (·.2))) (hw2 : zwl (zn σ) rest)
    (k : zE G M2 d2 as σ (fun r σ1 => match r with | .inl v => zF G M d pc' ls (v.toList ++ rest) σ1 Q | .inr E => M.1.cls ≠ RL ∧ Q (.inr E) σ1)) : zF G M d pc ls stk σ Q := by
  subst hp
  exact zF_callS0 hd hcl hst hdd hn hs hcat (k.mono fun r σ1 h => ⟨zkeepn (zwl_q hw1) (zwl_m hw2), h⟩)
/-- super.m(..) of StringBuilder -/
theorem zF_callSU0 {M2 : zMeth} {d2 idx n h : Nat} {v : Option zV} {stk as rest : List zV} (hd : decode M.2.1 pc = .ok (.invokespecial idx, 3)) (hcl : zCL M.1.cls idx M2 n) (hy : M.1.cls = RJ4) (hy2 : M2.1.cls = RJ5) (hno : M2.1.name ≠ "<init>") (hin : Cond.instanceMethod M2.1 ∈ lw_all) (hsm : Cond.sameMethod M2.1.cls M2.1.cls M2.1.name M2.1.desc ∈ lw_all) (hsu : Cond.superclass RJ4 RJ5 ∈ lw_all) (hdd : d2 + 1 ≤ d) (hkd : zkd σ h = (0, 13)) (hh : h < zn σ) (hn : as.length = n) (hs : stk = as.reverse ++ zR h :: rest) (hcat : (rest.map zcat).sum ≤ 8)
    (k : zE G M2 d2 (zR h :: as) σ (fun r σ1 => (∀ ρ ρ' : Nat → Nat, zAg (zn σ) (zn σ1) ρ ρ' → zn σ1 ≤ zbg → zLs ρ' ls = zLs ρ ls ∧ rest.map (ztr ρ') = rest.map (ztr ρ)) ∧ r = .inl v ∧ zF G M d (pc + 3) ls (v.toList ++ rest) σ1 Q)) : zF G M d pc ls stk σ Q := by
  refine zgoI (v := v) (fun σ1 hM hu ρ p e R s m args below meth c hC H locs cells slots lsA hS h1 h2 => ?_) k
  have hts := hC.2.2.2.2.1
  have hfr : R.frames = d := hC.2.2.2.2.2.2.2.2.2.1
  have hlo : R.locals = 64 * d := hC.2.2.2.2.2.2.2.2.2.2.1
  have hat := hS.1.1 h _ (zws_get hh)
  rw [zcell_o hkd] at hat
  obtain ⟨rC, hrC, hOB⟩ := hat
  have eC : rC = (RJ4, TJ4, 4) := (Option.some.inj hrC).symm
  subst eC
  have hKn := (zcx_K hC).1 13 _ rfl
  obtain ⟨cell, q1, q2, q3, q4⟩ := hOB
  obtain ⟨ps, kk, kp, hps, hkk, hkp, -, hkind, -, -⟩ := Cond.superclass_spec hKn.2.1 (hts _ hsu)
  have hmx := hcl.2.2.2.2
  have hcw : va_CS R s args RJ4 idx M2.1 M2.2.1 M2.2.2.1 M2.2.2.2 (zw M2) (zrm d2 σ σ1) (zcs σ1 - zcs σ) (zss σ1 - zss σ) n := by
    refine va_cwSU n hts ?_ rfl rfl rfl ⟨hno, hcl.2.2.2.1.2.2⟩ ⟨by rw [hfr]; exact hdd, by rw [hlo]; show 8 + (M2.2.2.1 + 11) + 64 * d2 ≤ 64 * d; omega⟩
    intro w hw
    rcases List.mem_append.mp hw with hw | hw
    · simp only [List.mem_cons, List.not_mem_nil, or_false] at hw
      rcases hw with e | e | e | e | e <;> subst e
      · exact lw_all_in _ (hy ▸ hcl.1)
      · exact lw_all_in _ hsm
      · exact lw_all_in _ (by rw [hy2]; exact hsu)
      · exact lw_all_in _ hin
      · exact lw_all_in _ hcl.2.2.1
    · exact zw_good hcl.2.1 w hw
  refine va_runSU (C := RJ4) (Ts := lw_all) (own := RJ4) (b := ρ h) (As := as.map (ztr ρ)) (rest := rest.map (ztr ρ)) ⟨hKn.2.1, kk, hkk, hkind⟩ ⟨hC.1, hC.2.1, hC.2.2.1, by rw [← hy]; exact hC.2.2.2.1, hts⟩ (zMet_of (hM ρ)) hcw ⟨zPc_blind, ⟨cell, q1, by rw [q3]; rfl, by rw [q2]; exact hKn.2.1⟩, zPreS (as := zR h :: as) hC hS⟩ rfl (by rw [List.length_map]; exact hn) hS.2.2.1 ?_ (lv_room (by rw [zcat_sum]; exact hcat)) hd ⟨h1, h2⟩
  show stk.map (ztr ρ) = _
  rw [hs, List.map_append, List.map_reverse, List.map_cons]
  rfl
theorem zF_callSUn (pc' : Nat) {M2 : zMeth} {d2 idx n h : Nat} {v : Option zV} {stk as rest : List zV} (hd : decode M.2.1 pc = .ok (.invokespecial idx, 3)) (hp : pc + 3 = pc') (hcl : zCL M.1.cls idx M2 n) (hy : M.1.cls = RJ4) (hy2 : M2.1.cls = RJ5) (hno : M2.1.name ≠ "<init>") (hin : Cond.instanceMethod M2.1 ∈ lw_all) (hsm : Cond.sameMethod M2.1.cls M2.1.cls M2.1.name M2.1.desc ∈ lw_all) (hsu : Cond.superclass RJ4 RJ5 ∈ lw_all) (hdd : d2 + 1 ≤ d) (hkd : zkd σ h = (0, 13)) (hh : h < zn σ) (hn : as.length = n) (hs : stk = as.reverse ++ zR h :: rest) (hcat : (rest.map zcat).sum ≤ 8)
    (hw1 : zwl (zn σ) (ls.map (·.2))) (hw2 : zwl (zn σ) rest)
    (k : zE G M2 d2 (zR h :: as) σ (fun r σ1 => r = .inl v ∧ zF G M d pc' ls (v.toList ++ rest) σ1 Q)) : zF G M d pc ls stk σ Q := by
  subst hp
  exact zF_callSU0 hd hcl hy hy2 hno hin hsm hsu hdd hkd hh hn hs hcat (k.mono fun r σ1 h => ⟨zkeepn (zwl_q hw1) (zwl_m hw2), h⟩)
/-- copies of bytes -/
def zcpo (σ : zMem) (t : Nat) (o n : Nat) (f : Int → Int) : zMem := (σ.1, σ.2.1, fun h j => if h = t ∧ (o : Int) ≤ j ∧ j < (o : Int) + n then f (j - o) else σ.2.2.1 h j, σ.2.2.2)
theorem zia_cpo (σ : zMem) (t : Nat) (o n : Nat) (f : Int → Int) (h : Nat) (j : Int) : zia (zcpo σ t o n f) h j = if h = t ∧ (o : Int) ≤ j ∧ j < (o : Int) + n then f (j - o) else zia σ h j := rfl
theorem zcpo_set {ρ : Nat → Nat} {t o n nt : Nat} {fs : Nat → Int32} {f : Int → Int} (hk : zkd σ t = (2, nt)) (hf : ∀ j : Nat, j < n → fs j = Int32.ofInt (f j)) : (zws G ρ σ).set t (ρ t, .inl (G.2.2.1 2, nt, .inl (va_cpy fs (fun j : Nat => Int32.ofInt (zia σ t j)) 0 o n))) = zws G ρ (zcpo σ t o n f) := by
  refine zws_set rfl (fun i hi => zcell_congr rfl (fun j => ?_) (fun j => rfl)) ?_
  · rw [zia_cpo, if_neg (fun q => hi q.1)]
  · rw [zcell_2 (σ := zcpo σ t o n f) hk]
    refine congrArg (fun g => (Sum.inl (G.2.2.1 2, nt, Sum.inl g) : va_E)) (funext fun j => ?_)
    rw [zia_cpo]
    unfold va_cpy
    by_cases c : o ≤ j ∧ j < o + n
    · rw [if_pos ⟨rfl, by omega, by omega⟩, if_pos c, hf _ (by omega)]
      congr 2
      omega
    · rw [if_neg (fun q => c (by omega)), if_neg c]
theorem zbf : ∀ a : Fin 256, fits .byte (.int (Int32.ofInt (((a : Nat) : Int) - 128))) = true := by decide +kernel
theorem zfitb {z : Int} (h : -128 ≤ z ∧ z < 128) : fits .byte (.int (Int32.ofInt z)) = true := by
  have e1 := zbf ⟨(z + 128).toNat, by omega⟩
  dsimp only at e1
  rw [show (((z + 128).toNat : Nat) : Int) - 128 = z by omega] at e1
  exact e1
theorem zF_acopyB (pc' : Nat) {idx f t nf nt n : Nat} (hd : decode M.2.1 pc = .ok (.invokestatic idx, 3)) (hp : pc + 3 = pc') (hlk : Cond.methodLink M.1.cls idx arraycopyName ∈ lw_all) (hkf : zkd σ f = (2, nf)) (hf : f < zn σ) (hkt : zkd σ t = (2, nt)) (ht : t < zn σ) (h1 : n ≤ nf) (h2 : n ≤ nt) (hsm : n < 1000000) (hb : ∀ j : Int, 0 ≤ j → j < n → -128 ≤ zia σ f j ∧ zia σ f j < 128) (hdd : 1 ≤ d) (hcat : (st.map zcat).sum ≤ 8)
    (kk : zF G M d pc' ls st (zcpo σ t 0 n (zia σ f)) Q) : zF G M d pc ls (zI n :: zI 0 :: zR t :: zI 0 :: zR f :: st) σ Q := by
  subst hp
  refine zF_step (σ1 := zcpo σ t 0 n (zia σ f)) rfl rfl rfl ?_ kk
  intro ρ p e R s m args below meth c0 hC H locs cells slots lsA Qm hS hR1 hR2 kk
  have hts := hC.2.2.2.2.1
  have hfr : R.frames = d := hC.2.2.2.2.2.2.2.2.2.1
  have hlo : R.locals = 64 * d := hC.2.2.2.2.2.2.2.2.2.2.1
  simp only [List.map_cons, ztr, Option.map, va_rf]
  have e0 : (Int32.ofInt 0).toNatClampNeg = 0 := by decide
  have en : (Int32.ofInt (n : Int)).toNatClampNeg = n := by rw [zcl0 (n : Int) (by omega) (by omega)]; rfl
  have n0 : ¬ Int32.ofInt 0 < 0 := by decide
  have nn : ¬ Int32.ofInt (n : Int) < 0 := fun q => (zin (z := (n : Int)) (n := n + 1) (by omega) (by omega) (by omega)) (Or.inl q)
  refine va_copyi (own := M.1.cls) (ty := .byte) hC.1 hC.2.1 (hC.2.2.1.trans hS.2.2.1.symm) hC.2.2.2.1 (hts _ hlk) (hts _ zacl.2.1) (hts _ zacl.2.2.1) (hts _ zacl.2.2.2) (zcx_K hC) hS.1.1 hS.1.2.1 hS.2.1 f t 1 1 (by rw [zws_get hf, zcell_2 hkf]) (by rw [zws_get ht, zcell_2 hkt]) rfl rfl rfl n0 n0 nn (by rw [e0, en]; omega) (by rw [e0, en]; omega) (fun i hi => ?_) (by omega) ?_ hd fun H1 locs1 p1 p2 p3 => ?_
  · rw [e0, Nat.zero_add]
    rw [en] at hi
    exact zfitb (hb i (by omega) (by omega))
  · have : ((st.map (ztr ρ)).map fun v => v.category).sum ≤ 8 := by rw [zcat_sum]; exact hcat
    have e2 : nativeFrameWords "java/lang/System" "arraycopy" 5 = 7 := by decide
    rw [e2, hlo]
    omega
  · rw [e0, en, zcpo_set (f := zia σ f) hkt (fun j _ => rfl)] at p1 p2
    exact kk H1 locs1 lsA ⟨⟨p1, p2, hS.1.2.2.1, hS.1.2.2.2⟩, p3, hS.2.2⟩
theorem zF_acopyO (pc' : Nat) {idx i t nt o N : Nat} {g : Nat → Int} (hd : decode M.2.1 pc = .ok (.invokestatic idx, 3)) (hp : pc + 3 = pc') (hlk : Cond.methodLink M.1.cls idx arraycopyName ∈ lw_all) (hf : va_T .byte (zAd G i) N (fun j => .int (Int32.ofInt (g j))) (zA G) (zSt0 G) (zSt0 G).heap) (hkt : zkd σ t = (2, nt)) (ht : t < zn σ) (h2 : o + N ≤ nt) (hsm : nt < 1000000) (hb : ∀ j, j < N → -128 ≤ g j ∧ g j < 128) (hdd : 1 ≤ d) (hcat : (st.map zcat).sum ≤ 8)
    (kk : zF G M d pc' ls st (zcpo σ t o N (fun j => g j.toNat)) Q) : zF G M d pc ls (zI N :: zI o :: zR t :: zI 0 :: zR (zbg + i) :: st) σ Q := by
  subst hp
  refine zF_step (σ1 := zcpo σ t o N (fun j => g j.toNat)) rfl rfl rfl ?_ kk
  intro ρ p e R s m args below meth c0 hC H locs cells slots lsA Qm hS hR1 hR2 kk
  have hts := hC.2.2.2.2.1
  have hfr : R.frames = d := hC.2.2.2.2.2.2.2.2.2.1
  have hlo : R.locals = 64 * d := hC.2.2.2.2.2.2.2.2.2.2.1
  simp only [List.map_cons, ztr, Option.map, va_rf, hS.1.2.2.2]
  have e0 : (Int32.ofInt 0).toNatClampNeg = 0 := by decide
  have en : (Int32.ofInt (N : Int)).toNatClampNeg = N := by rw [zcl0 (N : Int) (by omega) (by omega)]; rfl
  have eo : (Int32.ofInt (o : Int)).toNatClampNeg = o := by rw [zcl0 (o : Int) (by omega) (by omega)]; rfl
  have n0 : ¬ Int32.ofInt 0 < 0 := by decide
  have nn : ¬ Int32.ofInt (N : Int) < 0 := fun q => (zin (z := (N : Int)) (n := N + 1) (by omega) (by omega) (by omega)) (Or.inl q)
  have no : ¬ Int32.ofInt (o : Int) < 0 := fun q => (zin (z := (o : Int)) (n := o + 1) (by omega) (by omega) (by omega)) (Or.inl q)
  have z0' : (Int32.ofInt 0).toInt = 0 := by decide
  have zN : (Int32.ofInt (N : Int)).toInt = (N : Int) := zti (by constructor <;> omega)
  have zo : (Int32.ofInt (o : Int)).toInt = (o : Int) := zti (by constructor <;> omega)
  obtain ⟨scr, hs1, ⟨hs2, k0, hk0, cm0, hkk0⟩, hs3, hs4, hs5, hs6, hs7⟩ := zat_T hC hf
  have hP := hS.1.1
  have hD := hS.1.2.1
  have hVS := hS.2.1
  have ha1 : (zws G ρ σ)[t]? = some (ρ t, .inl (G.2.2.1 2, nt, .inl fun j => Int32.ofInt (zia σ t j))) := by rw [zws_get ht, zcell_2 hkt]
  intro T hT X
  have hc0 : H[zAd G i]? = some scr := by rw [hVS.2.1 _ (Array.getElem?_eq_some_iff.mp hs1).1 hs7]; exact hs1
  have hc1 : H[ρ t]? = some (vp_cell (G.2.2.1 2) (nt, .inl fun j => Int32.ofInt (zia σ t j))) := hP t _ ha1
  obtain ⟨-, k1, hk1, cm1, hkk1⟩ := ((zcx_K hC).2 1 (G.2.2.1 2, .byte) rfl).1 nt (fun j => .int (Int32.ofInt (zia σ t j)))
  have hsl : ∀ j : Nat, j < N → scr.slots[j]? = some (.int (Int32.ofInt (g j))) := hs6
  obtain ⟨vm', X', step⟩ := X.arraycopy hC.1 hC.2.2.2.1 (hts _ hlk) (hts _ zacl.2.1) (hts _ zacl.2.2.1) (hts _ zacl.2.2.2) (src := zAd G i) (dst := ρ t) (cs := scr) (cd := vp_cell (G.2.2.1 2) (nt, .inl fun j => Int32.ofInt (zia σ t j))) (srcPos := Int32.ofInt 0) (destPos := Int32.ofInt (o : Int)) (n := Int32.ofInt (N : Int)) (by rw [hT]; exact hc0) (by rw [hT]; exact hc1)
    hs2 (fun _ h => by cases h) hs3 (fun h => by cases h) hk0 hk1 hkk0 hkk1 (by simp [refKind]) n0 no nn
    (by rw [z0', zN]; omega)
    (by rw [zo, zN]; show ¬ _ > ((arrV (G.2.2.1 2) nt (fun j => .int (Int32.ofInt (zia σ t j)))).slots.size : Int); rw [arrV_size]; omega)
    (fun vm₁ _ i hi => by
      have e : scr.slots.getD ((Int32.ofInt 0).toNatClampNeg + i) .null = .int (Int32.ofInt (g i)) := by
        rw [e0, Nat.zero_add, Array.getD_eq_getD_getElem?, hsl _ (by rw [en] at hi; exact hi)]
        rfl
      refine ⟨?_, ?_⟩
      · rw [e]
        exact zfitb (hb i (by rw [en] at hi; exact hi))
      · rw [e]
        exact trivial)
    (g := F0 m pc lsA (.int (Int32.ofInt (N : Int)) :: .int (Int32.ofInt (o : Int)) :: .ref (ρ t) :: .int (Int32.ofInt 0) :: .ref (zAd G i) :: st.map (ztr ρ))) rfl (hS.2.2.1.trans hC.2.2.1.symm) (rest := st.map (ztr ρ)) rfl (by rw [hC.2.1]; exact hd) (by omega) (by
      have : ((st.map (ztr ρ)).map fun v => v.category).sum ≤ 8 := by rw [zcat_sum]; exact hcat
      have e2 : nativeFrameWords "java/lang/System" "arraycopy" 5 = 7 := by decide
      show 2 * 0 + _ + _ ≤ _
      rw [e2, hlo]
      omega)
  have e1 : copied scr (vp_cell (G.2.2.1 2) (nt, .inl fun j => Int32.ofInt (zia σ t j))) (Int32.ofInt 0) (Int32.ofInt (o : Int)) (Int32.ofInt (N : Int)) = vp_cell (G.2.2.1 2) (nt, .inl (va_cpy (fun j => Int32.ofInt (g j)) (fun j => Int32.ofInt (zia σ t j)) (Int32.ofInt 0).toNatClampNeg (Int32.ofInt (o : Int)).toNatClampNeg (Int32.ofInt (N : Int)).toNatClampNeg)) := va_copiedX (fun z => .int z) scr (G.2.2.1 2) (n0 := N) (fun j => Int32.ofInt (g j)) (fun j => Int32.ofInt (zia σ t j)) hsl (by rw [e0, en]; omega)
  rw [e1, e0, eo, en] at X' step
  have hl : ρ t < H.size := (Array.getElem?_eq_some_iff.mp hc1).1
  have es := zcpo_set (G := G) (σ := σ) (ρ := ρ) (t := t) (o := o) (n := N) (nt := nt) (fs := fun j => Int32.ofInt (g j)) (f := fun j => g j.toNat) hkt (fun j _ => rfl)
  have hheap : ((T.setVm vm').setCell (ρ t) (vp_cell (G.2.2.1 2) (nt, .inl (va_cpy (fun j => Int32.ofInt (g j)) (fun j => Int32.ofInt (zia σ t j)) 0 o N)))).heap = H.setIfInBounds (ρ t) (vp_cell (G.2.2.1 2) (nt, .inl (va_cpy (fun j => Int32.ofInt (g j)) (fun j => Int32.ofInt (zia σ t j)) 0 o N))) := by rw [← hT]; rfl
  have oq : ∀ q : Nat, q ≠ ρ t → (H.setIfInBounds (ρ t) (vp_cell (G.2.2.1 2) (nt, .inl (va_cpy (fun j => Int32.ofInt (g j)) (fun j => Int32.ofInt (zia σ t j)) 0 o N))))[q]? = H[q]? := fun q hq => by simp [Array.getElem?_setIfInBounds, Ne.symm hq]
  have p1 := hP.set hD ha1 (e := .inl (G.2.2.1 2, nt, .inl (va_cpy (fun j => Int32.ofInt (g j)) (fun j => Int32.ofInt (zia σ t j)) 0 o N))) (show (H.setIfInBounds (ρ t) _)[ρ t]? = some _ by simp [Array.getElem?_setIfInBounds, hl]) oq
  have p2 := hD.set (e := .inl (G.2.2.1 2, nt, .inl (va_cpy (fun j => Int32.ofInt (g j)) (fun j => Int32.ofInt (zia σ t j)) 0 o N))) ha1
  rw [es] at p1 p2
  obtain ⟨tt, a1, b1⟩ := kk _ (locs ++ _) lsA ⟨⟨p1, p2, hS.1.2.2.1, hS.1.2.2.2⟩, ⟨by simp; exact hVS.1, fun q g1 g2 => by
      rw [oq q (fun e => g2 (by rw [e]; exact hD.2 t _ ha1))]
      exact hVS.2.1 q g1 g2, fun q hq => by
      rcases List.mem_append.mp hq with h | h
      · exact hVS.2.2 q h
      · obtain ⟨z, -, hz⟩ := List.mem_map.mp h
        rw [← hz]
        exact hD.2 t _ ha1⟩, hS.2.2⟩ _ hheap X'
  exact ⟨tt, step tt a1, b1⟩
end ZSB

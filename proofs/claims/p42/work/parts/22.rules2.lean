/-! constructors, nest mates, strings, throws -/
section ZY
theorem zMet_of {G : zG} {l : Launch} {y : MethodName} {ws : List Cond} {rm : Room} {Pc : Array Value → State → Prop} {ρ : Nat → Nat} {n mc ms : Nat} {v : Option zV} {σ' : zMem} {A : Addr → Prop} (hM : vx_Met l y ws rm Pc (zQc G ρ n (.inl v) σ') (zXc G ρ n (.inl v) σ') mc ms A) : Met l y ws rm Pc (zQc G ρ n (.inl v) σ') mc ms A :=
  MetFree.mono hM (fun _ _ h => h) (fun _ _ _ _ _ h => h) fun a s o s' _ h => by
    rcases h with h | ⟨q, e, E, ce, L, ⟨⟨er, _⟩, _⟩, _⟩
    · exact h
    · cases er
variable {G : zG} {M : zMeth} {d pc : Nat} {ls : List (Nat × zV)} {st : List zV} {σ : zMem} {Q : zRes → zMem → Prop}
theorem zgoI {M2 : zMeth} {d2 : Nat} {v : Option zV} {stk rest as : List zV}
    (hrun : ∀ (σ1 : zMem), zSM G M2 d2 as σ (.inl v) σ1 → zUp σ σ1 → ∀ (ρ : Nat → Nat) (p : Program) (e : Env) (R : Room) (s : State) (m : MethodId) (args : Array Value) (below : List Frame) (meth : Method) (c : Code), zCx G M d p R s m args meth c → ∀ (H : Heap) (locs : List Loc) (cells slots : Nat) (lsA : Array Slot), zSt G M ρ σ ls s H locs lsA → cells + (zcs σ1 - zcs σ) ≤ R.cells → slots + (zss σ1 - zss σ) ≤ R.slots →
      va_Run p G.1 e R s m args below meth c H locs cells slots (zcs σ1 - zcs σ) (zss σ1 - zss σ) (F0 m pc lsA (stk.map (ztr ρ))) (rest.map (ztr ρ)) (zQc G ρ (zn σ) (.inl v) σ1 (as.map (ztr ρ)).toArray) (zA G))
    (k : zE G M2 d2 as σ (fun r σ1 => (∀ ρ ρ' : Nat → Nat, zAg (zn σ) (zn σ1) ρ ρ' → zn σ1 ≤ zbg → zLs ρ' ls = zLs ρ ls ∧ rest.map (ztr ρ') = rest.map (ztr ρ)) ∧ r = .inl v ∧ zF G M d (pc + 3) ls (v.toList ++ rest) σ1 Q)) :
    zF G M d pc ls stk σ Q := by
  obtain ⟨r1, σ1, ⟨hag, er, hm⟩, hu, hM⟩ := k
  subst er
  obtain ⟨r, σ', hq, hu1, hF⟩ := hm
  refine ⟨r, σ', hq, hu.tr hu1, ?_⟩
  intro ρ p e R s m args below meth c hC H locs cells slots lsA hS h1 h2
  have b1 := hu.2.1
  have b2 := hu.2.2
  have b3 := hu1.2.1
  have b4 := hu1.2.2
  have hr := hrun _ hM hu ρ p e R s m args below meth c hC H locs cells slots lsA hS (by omega) (by omega)
  exact zcall (r1 := .inl v) hC hS hu (fun T hT X => Or.inl (hr T hT X)) (hag ρ) h1 h2 ⟨hu1, hF⟩
theorem zF_callI0 {y2 : MethodName} {c2 : ByteArray} {mx2 d2 idx n h : Nat} {stk as rest : List zV} (hd : decode M.2.1 pc = .ok (.invokespecial idx, 3)) (hcl : zCL M.1.cls idx (y2, c2, mx2, none) n) (hnm : y2.name = "<init>") (hin : Cond.instanceMethod y2 ∈ lw_all) (hdd : d2 + 1 ≤ d) (hn : as.length = n) (hs : stk = as.reverse ++ zR h :: rest) (hcat : (rest.map zcat).sum ≤ 8)
    (k : zE G (y2, c2, mx2, none) d2 (zR h :: as) σ (fun r σ1 => (∀ ρ ρ' : Nat → Nat, zAg (zn σ) (zn σ1) ρ ρ' → zn σ1 ≤ zbg → zLs ρ' ls = zLs ρ ls ∧ rest.map (ztr ρ') = rest.map (ztr ρ)) ∧ r = .inl none ∧ zF G M d (pc + 3) ls rest σ1 Q)) : zF G M d pc ls stk σ Q := by
  refine zgoI (v := none) (fun σ1 hM hu ρ p e R s m args below meth c hC H locs cells slots lsA hS h1 h2 => ?_) k
  have hts := hC.2.2.2.2.1
  have hB := zcallB (σ := σ) (σ1 := σ1) hcl hts hC.2.2.2.2.2.2.2.2.2.1 hC.2.2.2.2.2.2.2.2.2.2.1 hdd
  refine va_runI (Ts := lw_all) (b := ρ h) (As := as.map (ztr ρ)) (rest := rest.map (ztr ρ)) ⟨hC.1, hC.2.1, hC.2.2.1, hC.2.2.2.1, hts⟩ (zMet_of (hM ρ)) ⟨hB, hnm, hts _ hin⟩ ⟨zPc_blind, zPreS (as := zR h :: as) hC hS⟩ rfl (by rw [List.length_map]; exact hn) hS.2.2.1 ?_ (lv_room (by rw [zcat_sum]; exact hcat)) hd ⟨h1, h2⟩
  show stk.map (ztr ρ) = _
  rw [hs, List.map_append, List.map_reverse, List.map_cons]
  rfl
def zCLN (own : String) (idx : Nat) (M2 : zMeth) (n : Nat) (host : String) : Prop := Cond.methodLinkNest own idx M2.1 host ∈ lw_nest ∧ Cond.code M2.1 M2.2.1 M2.2.2.1 M2.2.2.2 ∈ lw_all ∧ Cond.initialized M2.1.cls ∈ lw_all ∧ (M2.1.cls ≠ "java/lang/invoke/MethodHandle" ∧ M2.1.cls ≠ "java/lang/invoke/VarHandle" ∧ (parseMethodDescriptor M2.1.desc).map (fun d => d.parameters.length) = some n) ∧ M2.2.2.1 ≤ 18
theorem zcallN {own host : String} {idx n d d2 : Nat} {M2 : zMeth} {R : Room} {s : State} {args : Array Value} {σ σ1 : zMem} (hcl : zCLN own idx M2 n host) (hts : ∀ w ∈ lw_all, w.before args s = true) (hnx : zNs G s) (hf : R.frames = d) (hl : R.locals = 37 * d) (hd : d2 + 1 ≤ d) :
    va_CN R s args own idx M2.1 host M2.2.1 M2.2.2.1 M2.2.2.2 (zw M2) (zrm d2 σ σ1) (zcs σ1 - zcs σ) (zss σ1 - zss σ) n :=
  va_cnB n hts (zw_good hcl.2.1) rfl rfl rfl (hnx.1 _ hcl.1) (hts _ hcl.2.2.1) hcl.2.2.2.1 ⟨by rw [hf]; exact hd, by rw [hl]; show 8 + (M2.2.2.1 + 11) + 37 * d2 ≤ 37 * d; have := hcl.2.2.2.2; omega⟩
theorem zF_callIN0 {y2 : MethodName} {c2 : ByteArray} {host : String} {mx2 d2 idx n h : Nat} {stk as rest : List zV} (hd : decode M.2.1 pc = .ok (.invokespecial idx, 3)) (hcl : zCLN M.1.cls idx (y2, c2, mx2, none) n host) (hnm : y2.name = "<init>") (hin : Cond.instanceMethod y2 ∈ lw_all) (hdd : d2 + 1 ≤ d) (hn : as.length = n) (hs : stk = as.reverse ++ zR h :: rest) (hcat : (rest.map zcat).sum ≤ 8)
    (k : zE G (y2, c2, mx2, none) d2 (zR h :: as) σ (fun r σ1 => (∀ ρ ρ' : Nat → Nat, zAg (zn σ) (zn σ1) ρ ρ' → zn σ1 ≤ zbg → zLs ρ' ls = zLs ρ ls ∧ rest.map (ztr ρ') = rest.map (ztr ρ)) ∧ r = .inl none ∧ zF G M d (pc + 3) ls rest σ1 Q)) : zF G M d pc ls stk σ Q := by
  refine zgoI (v := none) (fun σ1 hM hu ρ p e R s m args below meth c hC H locs cells slots lsA hS h1 h2 => ?_) k
  have hts := hC.2.2.2.2.1
  have hB := zcallN (σ := σ) (σ1 := σ1) hcl hts hC.2.2.2.2.2.2.2.2.2.2.2.2.2.2 hC.2.2.2.2.2.2.2.2.2.1 hC.2.2.2.2.2.2.2.2.2.2.1 hdd
  refine va_runIN (Ts := lw_all) (b := ρ h) (As := as.map (ztr ρ)) (rest := rest.map (ztr ρ)) ⟨hC.1, hC.2.1, hC.2.2.1, hC.2.2.2.1, hts⟩ (zMet_of (hM ρ)) ⟨hB, hnm, hts _ hin⟩ ⟨zPc_blind, zPreS (as := zR h :: as) hC hS⟩ rfl (by rw [List.length_map]; exact hn) hS.2.2.1 ?_ (lv_room (by rw [zcat_sum]; exact hcat)) hd ⟨h1, h2⟩
  show stk.map (ztr ρ) = _
  rw [hs, List.map_append, List.map_reverse, List.map_cons]
  rfl
theorem zF_callSN0 {M2 : zMeth} {host : String} {d2 idx n : Nat} {v : Option zV} {stk as rest : List zV} (hd : decode M.2.1 pc = .ok (.invokestatic idx, 3)) (hcl : zCLN M.1.cls idx M2 n host) (hst : Cond.static M2.1 ∈ lw_all) (hdd : d2 + 1 ≤ d) (hn : as.length = n) (hs : stk = as.reverse ++ rest) (hcat : (rest.map zcat).sum ≤ 8)
    (k : zE G M2 d2 as σ (fun r σ1 => (∀ ρ ρ' : Nat → Nat, zAg (zn σ) (zn σ1) ρ ρ' → zn σ1 ≤ zbg → zLs ρ' ls = zLs ρ ls ∧ rest.map (ztr ρ') = rest.map (ztr ρ)) ∧ r = .inl v ∧ zF G M d (pc + 3) ls (v.toList ++ rest) σ1 Q)) : zF G M d pc ls stk σ Q := by
  refine zgoI (v := v) (fun σ1 hM hu ρ p e R s m args below meth c hC H locs cells slots lsA hS h1 h2 => ?_) k
  have hts := hC.2.2.2.2.1
  have hB := zcallN (σ := σ) (σ1 := σ1) hcl hts hC.2.2.2.2.2.2.2.2.2.2.2.2.2.2 hC.2.2.2.2.2.2.2.2.2.1 hC.2.2.2.2.2.2.2.2.2.2.1 hdd
  refine va_runSN (Ts := lw_all) (As := as.map (ztr ρ)) (rest := rest.map (ztr ρ)) ⟨hC.1, hC.2.1, hC.2.2.1, hC.2.2.2.1, hts⟩ (zMet_of (hM ρ)) ⟨hB, hts _ hst, trivial⟩ ⟨zPc_blind, zPreS hC hS⟩ rfl (by rw [List.length_map]; exact hn) hS.2.2.1 ?_ (lv_room (by rw [zcat_sum]; exact hcat)) hd ⟨h1, h2⟩
  show stk.map (ztr ρ) = _
  rw [hs, List.map_append, List.map_reverse]
theorem zF_obj (pc' : Nat) {idx h : Nat} (hd : decode M.2.1 pc = .ok (.invokespecial idx, 3)) (hp : pc + 3 = pc') (hl : Cond.methodLink M.1.cls idx Lib.objectInit ∈ lw_all) (hi : Cond.instanceMethod Lib.objectInit ∈ lw_all) (hc : Cond.code Lib.objectInit ⟨#[0xb1]⟩ 1 none ∈ lw_all) (hdd : 1 ≤ d) (hcat : (st.map zcat).sum ≤ 8) (k : zF G M d pc' ls st σ Q) : zF G M d pc ls (zR h :: st) σ Q := by
  subst hp
  refine zF_step rfl rfl rfl ?_ k
  intro ρ p e R s m args below meth c hC H locs cells slots lsA Qm hS hR1 hR2 kk
  have q := kk H locs lsA hS
  have hts := hC.2.2.2.2.1
  have hf := hC.2.2.2.2.2.2.2.2.2.1
  have hlo := hC.2.2.2.2.2.2.2.2.2.2.1
  exact W.objInit hC.1 hC.2.1 hC.2.2.2.1 (hts _ hl) (hts _ hi) (hts _ hc) (g := F0 m pc lsA (.ref (ρ h) :: st.map (ztr ρ))) rfl (by rw [hC.2.2.1]; exact hS.2.2.1) rfl hd (by rw [hf]; exact hdd) (by rw [zcat_sum, hlo]; show 2 * 0 + _ + 12 ≤ _; omega) q
theorem zF_ldcS (pc' : Nat) {idx i : Nat} {tx : String} (hd : decode M.2.1 pc = .ok (.ldc idx, 2)) (hp : pc + 2 = pc') (hi : zstr[i]? = some (M.1.cls, idx, tx)) (k : zF G M d pc' ls (zR (zbg + i) :: st) σ Q) : zF G M d pc ls st σ Q := by
  subst hp
  refine zF_step rfl rfl rfl ?_ k
  intro ρ p e R s m args below meth c hC H locs cells slots lsA Qm hS hR1 hR2 kk
  have q := kk H locs lsA hS
  have hz := hC.2.2.2.2.2.2.2.2.2.2.2.2.2.2.2 i _ hi
  have e1 := hS.1.2.2.2 i
  have e2 : (zR (zbg + i) :: st).map (ztr ρ) = .ref (G.2.2.2.2 i) :: st.map (ztr ρ) := by
    show Value.ref (ρ (zbg + i)) :: _ = _
    rw [e1]
  rw [e2] at q
  exact va_ldcS hC.1 hC.2.1 hC.2.2.2.1 hz hd q
/-- what the launch and the law's start make sure of -/
def zGd (G : zG) : Prop := G.1.stackTraces = false ∧ vx_Zq Bundle.tN "UNASSIGNED_STACK" Bundle.steD (zA G) G.2.2.2.1 G.2.2.2.1.heap ∧ vx_Zq Bundle.tN "SUPPRESSED_SENTINEL" Bundle.listD (zA G) G.2.2.2.1 G.2.2.2.1.heap
theorem zGd_at {G : zG} {C n dd : String} {s : State} (h : vx_Zq C n dd (zA G) G.2.2.2.1 G.2.2.2.1.heap) (ho : zOld G s.heap) (hal : G.2.2.2.1.vm.Alike s.vm) : vx_Zq C n dd (zA G) s s.heap := vx_Zq.moved hal (vx_Zq.kept h fun a h1 _ => ho.2 a h1)
theorem znest_tab {w : Cond} (h : znest w = true) : w.onTables = true := by
  cases w <;> first | rfl | cases h
theorem zot {w : Cond} (h : w ∈ lw_all ∨ w ∈ lw_nest) : vx_ot w = true := by
  unfold vx_ot
  rw [Bool.or_eq_true]
  rcases h with h | h
  · exact Or.inr (List.mem_filter.mp h).2
  · exact Or.inl (znest_tab (List.mem_filter.mp h).2)
theorem zotb {s : State} {args : Array Value} {w : Cond} (hts : ∀ w ∈ lw_all, w.before args s = true) (hnx : zNs G s) (h : w ∈ lw_all ∨ w ∈ lw_nest) : w.before args s = true := by
  rcases h with h | h
  · exact hts w h
  · exact va_Nw.use (znest_tab (List.mem_filter.mp h).2) (hnx.1 w h)
theorem zthrow_end {cls : String} {ρ : Nat → Nat} {p : Program} {e : Env} {R : Room} {s : State} {m : MethodId} {args : Array Value} {below : List Frame} {meth : Method} {c : Code} {H H1 : Heap} {locs : List Loc} {cells slots q : Nat} {lsA : Array Slot} {ce : Cell} {rest : List Value} {pc9 : Nat}
    (hC : zCx G M d p R s m args meth c) (hS : zSt G M ρ σ ls s H locs lsA) (d9 : decode M.2.1 pc9 = .ok (.athrow, 1)) (hce : H1[q]? = some ce) (hcv : ce.vm = .none) (hcl : s.vm.findClass cls = some ce.cls) (hz : H.size ≤ H1.size) (hk : ∀ x : Nat, x < H.size → H1[x]? = H[x]?) (h1 : cells + 1 ≤ R.cells) (h2 : slots + 6 ≤ R.slots) (hRL : M.1.cls ≠ RL) :
    W p G.1 e R s m args below meth c H1 locs (cells + 1) (slots + 6) (vx_MQ below (zQc G ρ (zn σ) (.inr cls) (zus σ 1 6)) (zXc G ρ (zn σ) (.inr cls) (zus σ 1 6)) args s R.cells R.slots (zA G)) (F0 m pc9 lsA (.ref q :: rest)) := by
  have hS1 : va_S (zA G) s.heap H1 locs := ⟨Nat.le_trans hS.2.1.1 hz, fun x a b => (hk x (Nat.lt_of_lt_of_le a hS.2.1.1)).trans (hS.2.1.2.1 x a b), hS.2.1.2.2⟩
  have hW1 : zWd G ρ (zus σ 1 6) H1 := ⟨hS.1.1.kept fun k x hx => hk x.1 ((hS.1.1 k x hx).lt), hS.1.2.1, hS.1.2.2.1, hS.1.2.2.2⟩
  refine zx_athrow hC.1 hC.2.1 d9 ?_
  exact vx_out (fun x hx => absurd hx (hC.2.2.2.2.2.2.2.2.1.1 hRL x)) hC.2.2.2.2.2.2.1 hce hcv hcl (fun t3 ht _ => ⟨⟨rfl, ρ, zAg.rf _ _ _, by rw [ht]; exact hW1⟩, hS1.F ht⟩) hS1.2.2 h1 h2
theorem zus_up (σ : zMem) : zUp σ (zus σ 1 6) := ⟨Nat.le_refl _, by rw [zcs_us]; omega, by rw [zss_us]; omega⟩
theorem zF_throw {cls tx : String} {ik ic is ix i : Nat} {rx : ByteArray} {names : List String} (hG : zGd G) (hy : M.1.cls = RX11) (x0 : decode rx 0 = .ok (.aload_n 0, 1)) (x1 : decode rx 1 = .ok (.aload_n 1, 1)) (x2 : decode rx 2 = .ok (.invokespecial ix, 3)) (x5 : decode rx 5 = .ok (.return_, 1))
    (hat : ∀ w ∈ zOA RX11 ic cls ix rx names, vx_no w = true → w ∈ lw_all ∨ w ∈ lw_nest) (hck : Cond.classLink RX11 ik cls ∈ lw_all) (hin : Cond.initialized cls ∈ lw_all) (hfit : Bundle.fit cls = true) (hnm : ∀ n ∈ names, Bundle.fit n = true) (hln : names.length = 2) (hi : zstr[i]? = some (RX11, is, tx))
    (d0 : decode M.2.1 pc = .ok (.new ik, 3)) (d3 : decode M.2.1 (pc + 3) = .ok (.dup, 1)) (d4 : decode M.2.1 (pc + 4) = .ok (.ldc is, 2)) (d6 : decode M.2.1 (pc + 6) = .ok (.invokespecial ic, 3)) (d9 : decode M.2.1 (pc + 9) = .ok (.athrow, 1)) (hdd : 6 ≤ d) (hcat : (st.map zcat).sum ≤ 8)
    (hQ : Q (.inr cls) (zus σ 1 6)) : zF G M d pc ls st σ Q := by
  refine ⟨_, _, hQ, zus_up σ, ?_⟩
  intro ρ p e R s m args below meth c hC H locs cells slots lsA hS h1 h2
  rw [zcs_us] at h1
  rw [zss_us] at h2
  have hts := hC.2.2.2.2.1
  have hnx := hC.2.2.2.2.2.2.2.2.2.2.2.2.2.2
  have hf := hC.2.2.2.2.2.2.2.2.2.1
  have hlo := hC.2.2.2.2.2.2.2.2.2.2.1
  have ho := hC.2.2.2.2.2.2.2.2.2.2.2.1
  have hal := hC.2.2.2.2.2.2.2.2.2.2.2.2.1
  have hown : s.vm.findClass RX11 = some m.cls := by rw [← hy]; exact hC.2.2.2.1
  have hat2 : ∀ w ∈ (zOA RX11 ic cls ix rx names).filter vx_no, w ∈ lw_all ∨ w ∈ lw_nest := fun w hw => hat w (List.mem_filter.mp hw).1 (List.mem_filter.mp hw).2
  refine zx_make hC.1 hC.2.1 hG.1 x0 x1 x2 x5 hown hfit hnm (hts _ hck) (hts _ hin) (hnx.2 i _ hi) (fun w hw => zotb hts hnx (hat2 w hw)) (fun w hw => ?_) (zGd_at hG.2.1 ho hal) (zGd_at hG.2.2 ho hal) hS.2.1 (by rw [hC.2.2.1]; exact hS.2.2.1) d0 d3 d4 d6 (by rw [hln, hf]; omega) (by rw [hln, zcat_sum, hlo]; omega) (by omega) (by omega) fun q ce H1 g1 g2 g3 g4 g5 => ?_
  · rcases List.mem_cons.mp hw with e1 | hw
    · rw [e1]; exact zot (Or.inl hck)
    · rcases List.mem_cons.mp hw with e1 | hw
      · rw [e1]; exact zot (Or.inl hin)
      · exact zot (hat2 w hw)
  · exact zthrow_end hC hS d9 g1 g2 g3 g4 g5 (by omega) (by omega) (by rw [hy]; decide)
theorem zF_throwW {cls tx : String} {ik ic is ix i : Nat} {rx : ByteArray} {names : List String} (hG : zGd G) (hy : M.1.cls = RX11) (x0 : decode rx 0 = .ok (.aload_n 0, 1)) (x1 : decode rx 1 = .ok (.aload_n 1, 1)) (x2 : decode rx 2 = .ok (.invokespecial ix, 3)) (x5 : decode rx 5 = .ok (.return_, 1))
    (hat : ∀ w ∈ zOA RX11 ic cls ix rx names, vx_no w = true → w ∈ lw_all ∨ w ∈ lw_nest) (hck : Cond.classLink RX11 ik cls ∈ lw_all) (hin : Cond.initialized cls ∈ lw_all) (hfit : Bundle.fit cls = true) (hnm : ∀ n ∈ names, Bundle.fit n = true) (hln : names.length = 2) (hi : zstr[i]? = some (RX11, is, tx))
    (d0 : decode M.2.1 pc = .ok (.new ik, 3)) (d3 : decode M.2.1 (pc + 3) = .ok (.dup, 1)) (d4 : decode M.2.1 (pc + 4) = .ok (.ldc_w is, 3)) (d6 : decode M.2.1 (pc + 7) = .ok (.invokespecial ic, 3)) (d9 : decode M.2.1 (pc + 10) = .ok (.athrow, 1)) (hdd : 6 ≤ d) (hcat : (st.map zcat).sum ≤ 8)
    (hQ : Q (.inr cls) (zus σ 1 6)) : zF G M d pc ls st σ Q := by
  refine ⟨_, _, hQ, zus_up σ, ?_⟩
  intro ρ p e R s m args below meth c hC H locs cells slots lsA hS h1 h2
  rw [zcs_us] at h1
  rw [zss_us] at h2
  have hts := hC.2.2.2.2.1
  have hnx := hC.2.2.2.2.2.2.2.2.2.2.2.2.2.2
  have hf := hC.2.2.2.2.2.2.2.2.2.1
  have hlo := hC.2.2.2.2.2.2.2.2.2.2.1
  have ho := hC.2.2.2.2.2.2.2.2.2.2.2.1
  have hal := hC.2.2.2.2.2.2.2.2.2.2.2.2.1
  have hown : s.vm.findClass RX11 = some m.cls := by rw [← hy]; exact hC.2.2.2.1
  have hat2 : ∀ w ∈ (zOA RX11 ic cls ix rx names).filter vx_no, w ∈ lw_all ∨ w ∈ lw_nest := fun w hw => hat w (List.mem_filter.mp hw).1 (List.mem_filter.mp hw).2
  refine zx_makeW hC.1 hC.2.1 hG.1 x0 x1 x2 x5 hown hfit hnm (hts _ hck) (hts _ hin) (hnx.2 i _ hi) (fun w hw => zotb hts hnx (hat2 w hw)) (fun w hw => ?_) (zGd_at hG.2.1 ho hal) (zGd_at hG.2.2 ho hal) hS.2.1 (by rw [hC.2.2.1]; exact hS.2.2.1) d0 d3 d4 d6 (by rw [hln, hf]; omega) (by rw [hln, zcat_sum, hlo]; omega) (by omega) (by omega) fun q ce H1 g1 g2 g3 g4 g5 => ?_
  · rcases List.mem_cons.mp hw with e1 | hw
    · rw [e1]; exact zot (Or.inl hck)
    · rcases List.mem_cons.mp hw with e1 | hw
      · rw [e1]; exact zot (Or.inl hin)
      · exact zot (hat2 w hw)
  · exact zthrow_end hC hS d9 g1 g2 g3 g4 g5 (by omega) (by omega) (by rw [hy]; decide)
end ZY

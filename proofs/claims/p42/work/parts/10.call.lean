/-! returns, calls, new things -/
section ZK
theorem zAg.tr {n n1 n' : Nat} {ρ ρ' ρ2 : Nat → Nat} (a : zAg n n1 ρ ρ') (b : zAg n1 n' ρ' ρ2) (h1 : n ≤ n1) (h2 : n1 ≤ n') : zAg n n' ρ ρ2 := fun k hk => by
  rcases hk with h | h
  · rw [b k (Or.inl (by omega)), a k (Or.inl h)]
  · rw [b k (Or.inr h), a k (Or.inr (by omega))]
theorem zQ_mono {G : zG} {ρ ρ' : Nat → Nat} {n n1 : Nat} {r : zRes} {σ' : zMem} {p : Program} {l : Launch} {e : Env} {R : Room} {s : State} {m : MethodId} {args : Array Value} {below : List Frame} {meth : Method} {c : Code} {H : Heap} {locs : List Loc} {cells slots mc ms : Nat} {A : Addr → Prop} {g : JFrame}
    (ha : zAg n n1 ρ ρ') (h1 : n ≤ n1) (h2 : n1 ≤ zn σ') (w : W p l e R s m args below meth c H locs cells slots (vx_MQ below (zQc G ρ' n1 r σ') (zXc G ρ' n1 r σ') args s mc ms A) g) :
    W p l e R s m args below meth c H locs cells slots (vx_MQ below (zQc G ρ n r σ') (zXc G ρ n r σ') args s mc ms A) g := by
  intro T hT X
  obtain ⟨t, a, o, b1, b2, b3⟩ := w T hT X
  refine ⟨t, a, o, b1, b2, ?_⟩
  rcases b3 with ⟨⟨⟨v, er, ρ2, ha2, ho, hw⟩, hF⟩, hL⟩ | ⟨q, eq, E, ce, L, ⟨⟨er, ρ2, ha2, hw⟩, hF⟩, rr⟩
  · exact Or.inl ⟨⟨⟨v, er, ρ2, ha.tr ha2 h1 h2, ho, hw⟩, hF⟩, hL⟩
  · exact Or.inr ⟨q, eq, E, ce, L, ⟨⟨er, ρ2, ha.tr ha2 h1 h2, hw⟩, hF⟩, rr⟩
variable {G : zG} {M : zMeth} {d pc : Nat} {ls : List (Nat × zV)} {st : List zV} {σ : zMem} {Q : zRes → zMem → Prop}
theorem zF_ireturn {z : Int} (hd : decode M.2.1 pc = .ok (.ireturn, 1)) (hr : M.2.2.2 = some .int) (hQ : Q (.inl (some (zI z))) σ) : zF G M d pc ls [zI z] σ Q := by
  refine ⟨_, _, hQ, zUp.rf σ, ?_⟩
  intro ρ p e R s m args below meth c hC H locs cells slots lsA hS h1 h2
  refine W.widen (by omega : cells ≤ R.cells) (by omega : slots ≤ R.slots) (vx_ret ?_)
  exact W.iret hC.1 hC.2.1 (hC.2.2.2.2.2.1.trans hr) (fun t ht _ => ⟨⟨_, rfl, ρ, zAg.rf _ _ _, rfl, by rw [ht]; exact hS.1⟩, hS.2.1.F ht⟩) hS.2.1.2.2 hd hC.2.2.2.2.2.2.1
theorem zF_zreturn {z : Int} (hd : decode M.2.1 pc = .ok (.ireturn, 1)) (hr : M.2.2.2 = some .boolean) (hz : z = 0 ∨ z = 1) (hQ : Q (.inl (some (zI z))) σ) : zF G M d pc ls [zI z] σ Q := by
  refine ⟨_, _, hQ, zUp.rf σ, ?_⟩
  intro ρ p e R s m args below meth c hC H locs cells slots lsA hS h1 h2
  refine W.widen (by omega : cells ≤ R.cells) (by omega : slots ≤ R.slots) (vx_ret ?_)
  exact W.zret hC.1 hC.2.1 (hC.2.2.2.2.2.1.trans hr) (by rcases hz with e | e <;> subst e <;> decide) (fun t ht _ => ⟨⟨_, rfl, ρ, zAg.rf _ _ _, rfl, by rw [ht]; exact hS.1⟩, hS.2.1.F ht⟩) hS.2.1.2.2 hd hC.2.2.2.2.2.2.1
theorem zF_lreturn {z : Int} (hd : decode M.2.1 pc = .ok (.lreturn, 1)) (hr : M.2.2.2 = some .long) (hQ : Q (.inl (some (zL z))) σ) : zF G M d pc ls [zL z] σ Q := by
  refine ⟨_, _, hQ, zUp.rf σ, ?_⟩
  intro ρ p e R s m args below meth c hC H locs cells slots lsA hS h1 h2
  refine W.widen (by omega : cells ≤ R.cells) (by omega : slots ≤ R.slots) (vx_ret ?_)
  exact W.lret hC.1 hC.2.1 (hC.2.2.2.2.2.1.trans hr) (fun t ht _ => ⟨⟨_, rfl, ρ, zAg.rf _ _ _, rfl, by rw [ht]; exact hS.1⟩, hS.2.1.F ht⟩) hS.2.1.2.2 hd hC.2.2.2.2.2.2.1
theorem zF_return (hd : decode M.2.1 pc = .ok (.return_, 1)) (hr : M.2.2.2 = none) (hQ : Q (.inl none) σ) : zF G M d pc ls [] σ Q := by
  refine ⟨_, _, hQ, zUp.rf σ, ?_⟩
  intro ρ p e R s m args below meth c hC H locs cells slots lsA hS h1 h2
  refine W.widen (by omega : cells ≤ R.cells) (by omega : slots ≤ R.slots) (vx_ret ?_)
  exact W.vret hC.1 hC.2.1 (hC.2.2.2.2.2.1.trans hr) (fun t ht _ => ⟨⟨_, rfl, ρ, zAg.rf _ _ _, rfl, by rw [ht]; exact hS.1⟩, hS.2.1.F ht⟩) hS.2.1.2.2 hd hC.2.2.2.2.2.2.1
def zrt (t : Option FieldType) : Bool := match t with
  | some (.object _) => true
  | some (.array _) => true
  | _ => false
theorem zF_areturn {r : Option Nat} (hd : decode M.2.1 pc = .ok (.areturn, 1)) (hr : zrt M.2.2.2 = true) (hQ : Q (.inl (some (zO r))) σ) : zF G M d pc ls [zO r] σ Q := by
  refine ⟨_, _, hQ, zUp.rf σ, ?_⟩
  intro ρ p e R s m args below meth c hC H locs cells slots lsA hS h1 h2
  refine W.widen (by omega : cells ≤ R.cells) (by omega : slots ≤ R.slots) (vx_ret ?_)
  have hv : ∀ r : Option Nat, va_rf r = .null ∨ ∃ a, va_rf r = .ref a := by
    intro r
    cases r with
    | none => exact Or.inl rfl
    | some a => exact Or.inr ⟨a, rfl⟩
  cases hM : M.2.2.2 with
  | none => rw [hM] at hr; cases hr
  | some rt =>
    refine W.aret hC.1 hC.2.1 (hC.2.2.2.2.2.1.trans hM) (rt := rt) ?_ (hv _) (fun t ht _ => ⟨⟨_, rfl, ρ, zAg.rf _ _ _, rfl, by rw [ht]; exact hS.1⟩, hS.2.1.F ht⟩) hS.2.1.2.2 hd hC.2.2.2.2.2.2.1
    rw [hM] at hr
    cases rt with
    | object n => exact Or.inl ⟨_, rfl⟩
    | array t => exact Or.inr ⟨_, rfl⟩
    | _ => cases hr
/-- behind a call -/
theorem zcall {G : zG} {M : zMeth} {d pc : Nat} {ls : List (Nat × zV)} {σ σ1 σ' : zMem} {r r1 : zRes} {rest : List zV} {stk : List Value} {av : Array Value} {ρ : Nat → Nat} {p : Program} {e : Env} {R : Room} {s : State} {m : MethodId} {args : Array Value} {below : List Frame} {meth : Method} {c : Code} {H : Heap} {locs : List Loc} {cells slots : Nat} {lsA : Array Slot}
    (hC : zCx G M d p R s m args meth c) (hS : zSt G M ρ σ ls s H locs lsA) (hu : zUp σ σ1)
    (hr : vx_Run p G.1 e R s m args below meth c H locs cells slots (zcs σ1 - zcs σ) (zss σ1 - zss σ) (F0 m pc lsA stk) (rest.map (ztr ρ)) (zQc G ρ (zn σ) r1 σ1 av) (zXc G ρ (zn σ) r1 σ1) (zA G))
    (hag : ∀ ρ', zAg (zn σ) (zn σ1) ρ ρ' → zn σ1 ≤ zbg → zLs ρ' ls = zLs ρ ls ∧ rest.map (ztr ρ') = rest.map (ztr ρ))
    (h1 : cells + (zcs σ' - zcs σ) ≤ R.cells) (h2 : slots + (zss σ' - zss σ) ≤ R.slots)
    (hx : match r1 with | .inl v => zUp σ1 σ' ∧ zSF G M d (pc + 3) ls (v.toList ++ rest) σ1 r σ' | .inr E => M.1.cls ≠ RL ∧ r = .inr E ∧ σ' = σ1) :
    W p G.1 e R s m args below meth c H locs cells slots (vx_MQ below (zQc G ρ (zn σ) r σ') (zXc G ρ (zn σ) r σ') args s R.cells R.slots (zA G)) (F0 m pc lsA stk) := by
  intro T hT X
  rcases hr T hT X with ⟨v, st₀, t, T', L, h0, X', hL, e1, e2, ⟨⟨v1, er, ρ', ha, ho, hW⟩, hF⟩, stp⟩ | ⟨q, st₀, t, T', L, E, ce, h0, X', hL, e1, e2, ⟨⟨er, ρ', ha, hW⟩, hF⟩, hce, hcv, hcl, stp⟩
  · subst er
    obtain ⟨hu1, hx⟩ := hx
    obtain ⟨k1, k2, k3⟩ := vx_keep h0 e1 hS.2.1 (fun q _ h => h) (fun q h => h) hL hF
    obtain ⟨g1, g2⟩ := hag ρ' ha hW.2.2.1.1
    have hS1 : zSt G M ρ' σ1 ls s T'.heap (locs ++ L) lsA := ⟨by rw [e1]; exact hW, k3, by rw [g1]; exact hS.2.2⟩
    have b1 := hu.2.1
    have b2 := hu.2.2
    have b3 := hu1.2.1
    have b4 := hu1.2.2
    have w := hx ρ' p e R s m args below meth c hC T'.heap (locs ++ L) (cells + (zcs σ1 - zcs σ)) (slots + (zss σ1 - zss σ)) lsA hS1 (by omega) (by omega)
    obtain ⟨t2, a1, c1⟩ := zQ_mono ha hu.1 hu1.1 w T' rfl X'
    have ev : v = v1.map (ztr ρ') := by injection ho
    subst ev
    have es : (v1.map (ztr ρ')).toList ++ rest.map (ztr ρ) = (v1.toList ++ rest).map (ztr ρ') := by
      rw [List.map_append, g2]
      cases v1 <;> rfl
    refine ⟨t2, stp t2 ?_, c1⟩
    show Steps p.tables e below (T'.setTop (F0 m (pc + 3) lsA ((v1.map (ztr ρ')).toList ++ rest.map (ztr ρ)))) t2
    rw [es]
    exact a1
  · subst er
    obtain ⟨hRL, er, es⟩ := hx
    subst er
    subst es
    obtain ⟨k1, k2, k3⟩ := vx_keep h0 e1 hS.2.1 (fun q _ h => h) (fun q h => h) hL hF
    have w : vx_W p G.1 e R s m args below meth c T'.heap (locs ++ L) (cells + (zcs σ' - zcs σ)) (slots + (zss σ' - zss σ)) (vx_MQ below (zQc G ρ (zn σ) (.inr E) σ') (zXc G ρ (zn σ) (.inr E) σ') args s R.cells R.slots (zA G)) (F0 m pc lsA (rest.map (ztr ρ))) q :=
      vx_out (fun x hx => absurd hx (hC.2.2.2.2.2.2.2.2.1.1 hRL x)) hC.2.2.2.2.2.2.1 (by rw [e1]; exact hce) hcv hcl (fun t3 ht _ => ⟨⟨rfl, ρ', ha, by rw [ht, e1]; exact hW⟩, k3.F ht⟩) k3.2.2 h1 h2
    obtain ⟨t2, a1, c1⟩ := w T' rfl X'
    exact ⟨t2, stp.trans a1, c1⟩
def zCL (own : String) (idx : Nat) (M2 : zMeth) (n : Nat) : Prop := Cond.methodLink own idx M2.1 ∈ lw_all ∧ Cond.code M2.1 M2.2.1 M2.2.2.1 M2.2.2.2 ∈ lw_all ∧ Cond.initialized M2.1.cls ∈ lw_all ∧ (M2.1.cls ≠ "java/lang/invoke/MethodHandle" ∧ M2.1.cls ≠ "java/lang/invoke/VarHandle" ∧ (parseMethodDescriptor M2.1.desc).map (fun d => d.parameters.length) = some n) ∧ M2.2.2.1 ≤ 18
theorem zw_good {M2 : zMeth} (h : Cond.code M2.1 M2.2.1 M2.2.2.1 M2.2.2.2 ∈ lw_all) : GoodIn lw_all (zw M2) := fun w hw => by
  rcases List.mem_cons.mp hw with e | e
  · subst e; exact lw_all_in _ h
  · exact lw_all_in _ e
theorem zcallB {own : String} {idx n d d2 : Nat} {M2 : zMeth} {R : Room} {s : State} {args : Array Value} {σ σ1 : zMem} (hcl : zCL own idx M2 n) (hts : ∀ w ∈ lw_all, w.before args s = true) (hf : R.frames = d) (hl : R.locals = 37 * d) (hd : d2 + 1 ≤ d) :
    CallB R s args own idx M2.1 M2.2.1 M2.2.2.1 M2.2.2.2 (zw M2) (zrm d2 σ σ1) (zcs σ1 - zcs σ) (zss σ1 - zss σ) n :=
  callB_of n hts (zw_good hcl.2.1) rfl rfl rfl (hts _ hcl.2.2.1) (hts _ hcl.1) hcl.2.2.2.1 ⟨by rw [hf]; exact hd, by rw [hl]; show 8 + (M2.2.2.1 + 11) + 37 * d2 ≤ 37 * d; have := hcl.2.2.2.2; omega⟩
theorem zPreS {G : zG} {M : zMeth} {d : Nat} {p : Program} {R : Room} {s : State} {m : MethodId} {args : Array Value} {meth : Method} {c : Code} {ρ : Nat → Nat} {σ : zMem} {ls : List (Nat × zV)} {H : Heap} {locs : List Loc} {lsA : Array Slot} {as : List zV} (hC : zCx G M d p R s m args meth c) (hS : zSt G M ρ σ ls s H locs lsA) :
    ∀ U : State, U.heap = H → s.WarmedH U.vm → zPc G ρ as σ (as.map (ztr ρ)).toArray U := by
  intro U hU hW
  have ho := hC.2.2.2.2.2.2.2.2.2.2.2.1
  have hal := hC.2.2.2.2.2.2.2.2.2.2.2.2.1
  refine ⟨rfl, by rw [hU]; exact hS.1, ?_, hal.trans hW.alike, (zcx_K hC).moved hW.alike, zNs_warm hW hC.2.2.2.2.2.2.2.2.2.2.2.2.2.2⟩
  rw [hU]
  refine ⟨Nat.le_trans ho.1 hS.2.1.1, fun q hq => ?_⟩
  rw [hS.2.1.2.1 q (Nat.lt_of_lt_of_le hq ho.1) (fun z => absurd hq (Nat.not_lt.mpr z))]
  exact ho.2 q hq
theorem zgo {G : zG} {M M2 : zMeth} {d d2 pc : Nat} {ls : List (Nat × zV)} {stk rest as : List zV} {σ : zMem} {Q : zRes → zMem → Prop}
    (hrun : ∀ (r1 : zRes) (σ1 : zMem), zSM G M2 d2 as σ r1 σ1 → zUp σ σ1 → ∀ (ρ : Nat → Nat) (p : Program) (e : Env) (R : Room) (s : State) (m : MethodId) (args : Array Value) (below : List Frame) (meth : Method) (c : Code), zCx G M d p R s m args meth c → ∀ (H : Heap) (locs : List Loc) (cells slots : Nat) (lsA : Array Slot), zSt G M ρ σ ls s H locs lsA → cells + (zcs σ1 - zcs σ) ≤ R.cells → slots + (zss σ1 - zss σ) ≤ R.slots →
      vx_Run p G.1 e R s m args below meth c H locs cells slots (zcs σ1 - zcs σ) (zss σ1 - zss σ) (F0 m pc lsA (stk.map (ztr ρ))) (rest.map (ztr ρ)) (zQc G ρ (zn σ) r1 σ1 (as.map (ztr ρ)).toArray) (zXc G ρ (zn σ) r1 σ1) (zA G))
    (k : zE G M2 d2 as σ (fun r σ1 => (∀ ρ ρ' : Nat → Nat, zAg (zn σ) (zn σ1) ρ ρ' → zn σ1 ≤ zbg → zLs ρ' ls = zLs ρ ls ∧ rest.map (ztr ρ') = rest.map (ztr ρ)) ∧ match r with | .inl v => zF G M d (pc + 3) ls (v.toList ++ rest) σ1 Q | .inr E => M.1.cls ≠ RL ∧ Q (.inr E) σ1)) :
    zF G M d pc ls stk σ Q := by
  obtain ⟨r1, σ1, ⟨hag, hm⟩, hu, hM⟩ := k
  rcases r1 with v | E
  · obtain ⟨r, σ', hq, hu1, hF⟩ := hm
    refine ⟨r, σ', hq, hu.tr hu1, ?_⟩
    intro ρ p e R s m args below meth c hC H locs cells slots lsA hS h1 h2
    have b1 := hu.2.1
    have b2 := hu.2.2
    have b3 := hu1.2.1
    have b4 := hu1.2.2
    exact zcall hC hS hu (hrun _ _ hM hu ρ p e R s m args below meth c hC H locs cells slots lsA hS (by omega) (by omega)) (hag ρ) h1 h2 ⟨hu1, hF⟩
  · obtain ⟨hRL, hm⟩ := hm
    refine ⟨.inr E, σ1, hm, hu, ?_⟩
    intro ρ p e R s m args below meth c hC H locs cells slots lsA hS h1 h2
    exact zcall hC hS hu (hrun _ _ hM hu ρ p e R s m args below meth c hC H locs cells slots lsA hS h1 h2) (hag ρ) h1 h2 ⟨hRL, rfl, rfl⟩
theorem zcat_sum (ρ : Nat → Nat) (l : List zV) : ((l.map (ztr ρ)).map fun v => v.category).sum = (l.map zcat).sum := by
  induction l with
  | nil => rfl
  | cons v vs ih => simp only [List.map_cons, List.sum_cons, ih, ztr_cat]
theorem zkeep {σ σ1 : zMem} {ls : List (Nat × zV)} {rest : List zV} (h : zn σ1 = zn σ) : ∀ ρ ρ' : Nat → Nat, zAg (zn σ) (zn σ1) ρ ρ' → zn σ1 ≤ zbg → zLs ρ' ls = zLs ρ ls ∧ rest.map (ztr ρ') = rest.map (ztr ρ) := by
  intro ρ ρ' ha _
  rw [ha.eq (by omega)]
  exact ⟨rfl, rfl⟩
def zwv (n : Nat) (v : zV) : Prop := match v with
  | .inr (.inr (.inl r)) => zwf n r
  | _ => True
theorem ztr_ag {n n' : Nat} {ρ ρ' : Nat → Nat} {v : zV} (ha : zAg n n' ρ ρ') (hb : n' ≤ zbg) (hv : zwv n v) : ztr ρ' v = ztr ρ v := by
  rcases v with z | z | r | v
  · rfl
  · rfl
  · cases r with
    | none => rfl
    | some x =>
      show va_rf (some (ρ' x)) = va_rf (some (ρ x))
      rw [ha x (by rcases hv x rfl with h | h; exact Or.inl h; exact Or.inr (by omega))]
  · rfl
theorem zkeepn {σ σ1 : zMem} {ls : List (Nat × zV)} {rest : List zV} (h1 : ∀ q ∈ ls, zwv (zn σ) q.2) (h2 : ∀ v ∈ rest, zwv (zn σ) v) : ∀ ρ ρ' : Nat → Nat, zAg (zn σ) (zn σ1) ρ ρ' → zn σ1 ≤ zbg → zLs ρ' ls = zLs ρ ls ∧ rest.map (ztr ρ') = rest.map (ztr ρ) := by
  intro ρ ρ' ha hb
  refine ⟨List.map_congr_left fun q hq => ?_, List.map_congr_left fun v hv => ztr_ag ha hb (h2 v hv)⟩
  rw [ztr_ag ha hb (h1 q hq)]
theorem zF_callS0 {M2 : zMeth} {d2 idx n : Nat} {stk as rest : List zV} (hd : decode M.2.1 pc = .ok (.invokestatic idx, 3)) (hcl : zCL M.1.cls idx M2 n) (hst : Cond.static M2.1 ∈ lw_all) (hdd : d2 + 1 ≤ d) (hn : as.length = n) (hs : stk = as.reverse ++ rest) (hcat : (rest.map zcat).sum ≤ 8)
    (k : zE G M2 d2 as σ (fun r σ1 => (∀ ρ ρ' : Nat → Nat, zAg (zn σ) (zn σ1) ρ ρ' → zn σ1 ≤ zbg → zLs ρ' ls = zLs ρ ls ∧ rest.map (ztr ρ') = rest.map (ztr ρ)) ∧ match r with | .inl v => zF G M d (pc + 3) ls (v.toList ++ rest) σ1 Q | .inr E => M.1.cls ≠ RL ∧ Q (.inr E) σ1)) : zF G M d pc ls stk σ Q := by
  refine zgo (fun r1 σ1 hM hu ρ p e R s m args below meth c hC H locs cells slots lsA hS h1 h2 => ?_) k
  have hts := hC.2.2.2.2.1
  have hB := zcallB (σ := σ) (σ1 := σ1) hcl hts hC.2.2.2.2.2.2.2.2.2.1 hC.2.2.2.2.2.2.2.2.2.2.1 hdd
  refine vx_runS (Ts := lw_all) (As := as.map (ztr ρ)) (rest := rest.map (ztr ρ)) ⟨hC.1, hC.2.1, hC.2.2.1, hC.2.2.2.1, hts⟩ (hM ρ) ⟨hB, hts _ hst⟩ ⟨zPc_blind, zPreS hC hS⟩ rfl (by rw [List.length_map]; exact hn) hS.2.2.1 ?_ (lv_room (by rw [zcat_sum]; exact hcat)) hd ⟨h1, h2⟩
  show stk.map (ztr ρ) = _
  rw [hs, List.map_append, List.map_reverse]
theorem zF_callV0 {M2 : zMeth} {d2 idx n ci h : Nat} {C : vw_C} {stk as rest : List zV} (hd : decode M.2.1 pc = .ok (.invokevirtual idx, 3)) (hcl : zCL M.1.cls idx M2 n) (hin : Cond.instanceMethod M2.1 ∈ lw_all) (hc : zcl[ci]? = some C) (hse : Cond.selects C.1 M2.1 M2.1 ∈ lw_all) (hdd : d2 + 1 ≤ d) (hkd : zkd σ h = (0, ci)) (hh : h < zn σ) (hn : as.length = n) (hs : stk = as.reverse ++ zR h :: rest) (hcat : (rest.map zcat).sum ≤ 8)
    (k : zE G M2 d2 (zR h :: as) σ (fun r σ1 => (∀ ρ ρ' : Nat → Nat, zAg (zn σ) (zn σ1) ρ ρ' → zn σ1 ≤ zbg → zLs ρ' ls = zLs ρ ls ∧ rest.map (ztr ρ') = rest.map (ztr ρ)) ∧ match r with | .inl v => zF G M d (pc + 3) ls (v.toList ++ rest) σ1 Q | .inr E => M.1.cls ≠ RL ∧ Q (.inr E) σ1)) : zF G M d pc ls stk σ Q := by
  refine zgo (fun r1 σ1 hM hu ρ p e R s m args below meth c hC H locs cells slots lsA hS h1 h2 => ?_) k
  have hts := hC.2.2.2.2.1
  have hB := zcallB (σ := σ) (σ1 := σ1) hcl hts hC.2.2.2.2.2.2.2.2.2.1 hC.2.2.2.2.2.2.2.2.2.2.1 hdd
  have hat := hS.1.1 h _ (zws_get hh)
  rw [zcell_o hkd] at hat
  obtain ⟨rC, hrC, hOB⟩ := hat
  have eC : rC = C := Option.some.inj (hrC.symm.trans hc)
  subst eC
  have hKn := (zcx_K hC).1 ci _ hc
  obtain ⟨cell, q1, q2, q3, q4⟩ := hOB
  refine vx_runV (Ts := lw_all) (C := rC.1) (b := ρ h) (As := as.map (ztr ρ)) (rest := rest.map (ztr ρ)) ⟨hC.1, hC.2.1, hC.2.2.1, hC.2.2.2.1, hts⟩ (hM ρ) ⟨hB, hts _ hin, hts _ hse⟩ ⟨zPc_blind, ⟨cell, q1, by rw [q3]; rfl, by rw [q2]; exact hKn.2.1⟩, zPreS (as := zR h :: as) hC hS⟩ rfl (by rw [List.length_map]; exact hn) hS.2.2.1 ?_ (lv_room (by rw [zcat_sum]; exact hcat)) hd ⟨h1, h2⟩
  show stk.map (ztr ρ) = _
  rw [hs, List.map_append, List.map_reverse, List.map_cons]
  rfl
/-- calls that make no handle -/
theorem zF_callS (pc' : Nat) {M2 : zMeth} {d2 idx n : Nat} {stk as rest : List zV} (hd : decode M.2.1 pc = .ok (.invokestatic idx, 3)) (hp : pc + 3 = pc') (hcl : zCL M.1.cls idx M2 n) (hst : Cond.static M2.1 ∈ lw_all) (hdd : d2 + 1 ≤ d) (hn : as.length = n) (hs : stk = as.reverse ++ rest) (hcat : (rest.map zcat).sum ≤ 8)
    (k : zE G M2 d2 as σ (fun r σ1 => zn σ1 = zn σ ∧ match r with | .inl v => zF G M d pc' ls (v.toList ++ rest) σ1 Q | .inr E => M.1.cls ≠ RL ∧ Q (.inr E) σ1)) : zF G M d pc ls stk σ Q := by
  subst hp
  exact zF_callS0 hd hcl hst hdd hn hs hcat (k.mono fun r σ1 h => ⟨zkeep h.1, h.2⟩)
theorem zF_callV (pc' : Nat) {M2 : zMeth} {d2 idx n ci h : Nat} {C : vw_C} {stk as rest : List zV} (hd : decode M.2.1 pc = .ok (.invokevirtual idx, 3)) (hp : pc + 3 = pc') (hcl : zCL M.1.cls idx M2 n) (hin : Cond.instanceMethod M2.1 ∈ lw_all) (hc : zcl[ci]? = some C) (hse : Cond.selects C.1 M2.1 M2.1 ∈ lw_all) (hdd : d2 + 1 ≤ d) (hkd : zkd σ h = (0, ci)) (hh : h < zn σ) (hn : as.length = n) (hs : stk = as.reverse ++ zR h :: rest) (hcat : (rest.map zcat).sum ≤ 8)
    (k : zE G M2 d2 (zR h :: as) σ (fun r σ1 => zn σ1 = zn σ ∧ match r with | .inl v => zF G M d pc' ls (v.toList ++ rest) σ1 Q | .inr E => M.1.cls ≠ RL ∧ Q (.inr E) σ1)) : zF G M d pc ls stk σ Q := by
  subst hp
  exact zF_callV0 hd hcl hin hc hse hdd hkd hh hn hs hcat (k.mono fun r σ1 h => ⟨zkeep h.1, h.2⟩)
theorem zF_callVn (pc' : Nat) {M2 : zMeth} {d2 idx n ci h : Nat} {C : vw_C} {stk as rest : List zV} (hd : decode M.2.1 pc = .ok (.invokevirtual idx, 3)) (hp : pc + 3 = pc') (hcl : zCL M.1.cls idx M2 n) (hin : Cond.instanceMethod M2.1 ∈ lw_all) (hc : zcl[ci]? = some C) (hse : Cond.selects C.1 M2.1 M2.1 ∈ lw_all) (hdd : d2 + 1 ≤ d) (hkd : zkd σ h = (0, ci)) (hh : h < zn σ) (hn : as.length = n) (hs : stk = as.reverse ++ zR h :: rest) (hcat : (rest.map zcat).sum ≤ 8)
    (hw1 : ∀ q ∈ ls, zwv (zn σ) q.2) (hw2 : ∀ v ∈ rest, zwv (zn σ) v)
    (k : zE G M2 d2 (zR h :: as) σ (fun r σ1 => match r with | .inl v => zF G M d pc' ls (v.toList ++ rest) σ1 Q | .inr E => M.1.cls ≠ RL ∧ Q (.inr E) σ1)) : zF G M d pc ls stk σ Q := by
  subst hp
  exact zF_callV0 hd hcl hin hc hse hdd hkd hh hn hs hcat (k.mono fun r σ1 h => ⟨zkeepn hw1 hw2, h⟩)
end ZK

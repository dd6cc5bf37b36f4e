/-! arrays of arrays of ints, clones: rules for the law's own things -/
section ZAA
variable {G : zG} {M : zMeth} {d pc : Nat} {ls : List (Nat × zV)} {st : List zV} {σ : zMem} {Q : zRes → zMem → Prop}
theorem zAIw : Cond.arrayClass .int ∈ lw_all := zi1 152 rfl rfl
theorem zAA_moved {u U : State} (hvm : u.vm.Alike U.vm) (h : va_AOA .int u) : va_AOA .int U := by
  obtain ⟨comp, c, k, h1, h2, h3, h4, h5⟩ := arrayOverA_spec h
  obtain ⟨k', hk', he⟩ := hvm.2.2 _ _ h3
  have hi : (U.vm.classes.findIdx? fun (x : Class) => match x.kind with | .array component _ => component == comp | _ => false) = some c := by
    rw [hvm.findIdx?_eq _ (fun _ => rfl)]
    exact h2
  have q1 : k'.kind = .array comp (.array .int) := by rw [he]; exact h4
  have q2 : U.vm.findClass (FieldType.array .int).toString = some comp := by rw [hvm.findClass]; exact h1
  have q3 : U.vm.findClass ("[" ++ (FieldType.array .int).toString) = some c := by rw [hvm.findClass]; exact h5
  unfold va_AOA Cond.before Cond.holds
  simp only [Cond.value]
  rw [q2, Option.bind_some]
  refine (congrArg (fun o : Option Nat => (o.bind (fun c => (U.vm.classes[c]?).map fun (k : Class) => match k.kind with | .array _ ty => decide (ty = FieldType.array .int) && decide (U.vm.findClass ("[" ++ (FieldType.array .int).toString) = some c) | _ => false) == some true)) hi).trans ?_
  simp [hk', q1, q3]
theorem zAA_at {p : Program} {R : Room} {s : State} {m : MethodId} {args : Array Value} {meth : Method} {c : Code} (hAO : zAO G) (hC : zCx G M d p R s m args meth c) : va_AOA .int s := zAA_moved hC.2.2.2.2.2.2.2.2.2.2.2.2.1 hAO.2
theorem zF_aaldA (pc' : Nat) {h n : Nat} {i : Int} {r : Option Nat} (hd : decode M.2.1 pc = .ok (.aaload, 1)) (hp : pc + 1 = pc') (hk : zkd σ h = (6, n)) (hn : h < zn σ) (h0 : 0 ≤ i) (h1 : i < n) (hz : zra σ h i = r) (kk : zF G M d pc' ls (zO r :: st) σ Q) : zF G M d pc ls (zI i :: zR h :: st) σ Q := by
  subst hp
  subst hz
  refine zF_step rfl rfl rfl ?_ kk
  intro ρ p e R s m args below meth c0 hC H locs cells slots lsA Qm hS hR1 hR2 kk
  have q := kk H locs lsA hS
  have hb : n < 2147483648 := by have := hS.1.2.2.1.2.2 h; rw [hk] at this; exact this
  simp only [List.map_cons, ztr, Option.map, va_rf] at q ⊢
  have ha : (zws G ρ σ)[h]? = some (ρ h, .inl (G.2.2.1 6, n, .inr (.inr (.inr (.inr fun j : Nat => (zra σ h j).map ρ))))) := by rw [zws_get hn, zcell_6 hk]
  have hin := zin h0 h1 hb
  have hlt : (Int32.ofInt i).toNatClampNeg < n := Nat.not_le.mp fun q => hin (Or.inr q)
  have e0 : (Int32.ofInt i).toNatClampNeg = i.toNat := zcl0 i h0 (by omega)
  refine W.aald (v := va_rf ((zra σ h i).map ρ)) (ty := .array .int) hC.1 hC.2.1 (hS.1.1 h _ ha) (((zcx_K hC).2 5 (G.2.2.1 6, .array .int) rfl).1 n (fun j => va_rf ((zra σ h j).map ρ))) rfl (fun q => by cases q) ?_ ?_ rfl rfl hd ?_
  · show ¬ (_ < 0 ∨ (arrV _ _ _).slots.size ≤ _)
    rw [arrV_size]
    exact hin
  · show (arrV _ _ _).slots[_]? = _
    rw [arrV_read _ _ hlt, e0]
    show some (va_rf ((zra σ h ((i.toNat : Nat) : Int)).map ρ)) = _
    rw [zidx h0]
  · exact q
theorem zF_aastA (pc' : Nat) {h k n n2 : Nat} {i : Int} (hd : decode M.2.1 pc = .ok (.aastore, 1)) (hp : pc + 1 = pc') (hk : zkd σ h = (6, n)) (hn : h < zn σ) (hk2 : zkd σ k = (1, n2)) (hn2 : k < zn σ) (hAO : zAO G) (h0 : 0 ≤ i) (h1 : i < n) (kk : zF G M d pc' ls st (zsr σ h i (some k)) Q) : zF G M d pc ls (zR k :: zI i :: zR h :: st) σ Q := by
  subst hp
  refine zF_step (σ1 := zsr σ h i (some k)) rfl rfl rfl ?_ kk
  intro ρ p e R s m args below meth c0 hC H locs cells slots lsA Qm hS hR1 hR2 kk
  have hb : n < 2147483648 := by have := hS.1.2.2.1.2.2 h; rw [hk] at this; exact this
  simp only [List.map_cons, ztr, Option.map, va_rf]
  have e0 : (Int32.ofInt i).toNatClampNeg = i.toNat := zcl0 i h0 (by omega)
  have ha : (zws G ρ σ)[h]? = some (ρ h, .inl (G.2.2.1 6, n, .inr (.inr (.inr (.inr fun j : Nat => (zra σ h j).map ρ))))) := by rw [zws_get hn, zcell_6 hk]
  have hb2 : (zws G ρ σ)[k]? = some (ρ k, .inl (G.2.2.1 1, n2, .inl fun j => Int32.ofInt (zia σ k j))) := by rw [zws_get hn2, zcell_1 hk2]
  have e1 : (zws G ρ σ).set h (ρ h, .inl (G.2.2.1 6, n, .inr (.inr (.inr (.inr (va_up (fun j : Nat => (zra σ h j).map ρ) i.toNat (some (ρ k)))))))) = zws G ρ (zsr σ h i (some k)) := by
    refine zws_set rfl zsr_o ?_
    rw [zcell_6 (by rw [zkd_sr]; exact hk), zra_s1 (r := some k) h0 rfl]
  have hin := zin h0 h1 hb
  have hK := zcx_K hC
  obtain ⟨comp, cA2, kA, k3, -, k1, k2, k4⟩ := arrayOverA_spec (zAA_at hAO hC)
  have eA : cA2 = G.2.2.1 6 := Option.some.inj (k4.symm.trans (((hK.2 5 (G.2.2.1 6, .array .int) rfl).2 : s.vm.findClass ("[" ++ (FieldType.array .int).toString) = some (G.2.2.1 6))))
  have eC : comp = G.2.2.1 1 := Option.some.inj (k3.symm.trans (((hK.2 0 (G.2.2.1 1, .int) rfl).2 : s.vm.findClass _ = some (G.2.2.1 1))))
  subst eA
  subst eC
  obtain ⟨kE, hkE, -⟩ := Vm.findClass_spec k3
  refine W.aast (k := kA) (kv := kE) (kcomp := kE) (comp := G.2.2.1 1) (t := .array .int) hC.1 hC.2.1 (hS.1.1 h _ ha) (fun q h => by cases h) (fun h => by cases h) k1 k2 rfl hkE ⟨fun q => hin (Or.inl q), ?_⟩ (hS.1.1 k _ hb2) (fun q h => by cases h) hkE (va_asg _ _) rfl rfl hd fun H1 e z oq => ?_
  · show _ < (arrV _ _ _).slots.size
    rw [arrV_size]
    exact Nat.not_le.mp fun q => hin (Or.inr q)
  · have hset : H1[ρ h]? = some (vp_cell (G.2.2.1 6) (n, .inr (.inr (.inr (.inr (va_up (fun j : Nat => (zra σ h j).map ρ) i.toNat (some (ρ k)))))))) := by
      rw [e]
      show some ((vp_cell _ _).setSlot _ _) = _
      rw [vp_cell_q, vp_cell_q, arrV_store, e0]
      congr 2
      funext q
      by_cases hq : q = i.toNat
      · subst hq
        simp [updV, va_up, va_rf]
      · simp [updV, va_up, hq]
    have p1 := hS.1.1.set hS.1.2.1 ha (show va_at G.2.1 zcl (ρ h, .inl (G.2.2.1 6, n, .inr (.inr (.inr (.inr (va_up (fun j : Nat => (zra σ h j).map ρ) i.toNat (some (ρ k)))))))) H1 from hset) oq
    have p2 := hS.1.2.1.set (e := .inl (G.2.2.1 6, n, .inr (.inr (.inr (.inr (va_up (fun j : Nat => (zra σ h j).map ρ) i.toNat (some (ρ k)))))))) ha
    rw [e1] at p1 p2
    exact kk H1 _ lsA ⟨⟨p1, p2, zOK_sr hS.1.2.2.1 (fun x hx => by cases hx; exact Or.inl hn2), hS.1.2.2.2⟩, hS.2.1.put z oq (hS.1.2.1.2 h _ ha), hS.2.2⟩
theorem zF_anewA (pc' : Nat) {idx : Nat} {n : Int} (hd : decode M.2.1 pc = .ok (.anewarray idx, 3)) (hp : pc + 3 = pc') (hcl : Cond.classLink M.1.cls idx (FieldType.array .int).toString ∈ lw_all) (hAO : zAO G) (h0 : 0 ≤ n) (h1 : n ≤ 60000) (hbg : zn σ < zbg) (hw1 : ∀ q ∈ ls, zwv (zn σ) q.2) (hw2 : ∀ v ∈ st, zwv (zn σ) v)
    (kk : zF G M d pc' ls (zR (zn σ) :: st) (znw σ 6 n.toNat n.toNat) Q) : zF G M d pc ls (zI n :: st) σ Q := by
  subst hp
  refine zF_mk hbg (by omega) hw1 hw2 ?_ kk
  intro ρ p e R s m args below meth c0 hC H locs cells slots lsA Qm hS hR1 hR2 k1
  have hts := hC.2.2.2.2.1
  have ho := hC.2.2.2.2.2.2.2.2.2.2.2.1
  have hneg : ¬ Int32.ofInt n < 0 := by rw [z0, zclt ⟨by omega, by omega⟩ zrg0]; omega
  have hN : (Int32.ofInt n).toNatClampNeg = n.toNat := zcl0 n h0 (by omega)
  refine W.anewA hC.1 hC.2.1 hC.2.2.2.1 (hts _ hcl) (va_AOA.use (zAA_at hAO hC)) rfl hd rfl hneg (by omega) (by omega) (by rw [hN]; exact hR2) fun cA kA comp f1 f2 f3 f4 => ?_
  have ec : cA = G.2.2.1 6 := Option.some.inj (f1.symm.trans ((((zcx_K hC).2 5 (G.2.2.1 6, .array .int) rfl).2 : s.vm.findClass ("[" ++ (FieldType.array .int).toString) = some (G.2.2.1 6))))
  have ez : zcell G (zup1 ρ (zn σ) H.size) (znw σ 6 n.toNat n.toNat) (zn σ) = .inl (cA, n.toNat, .inr (.inr (.inr (.inr fun _ => none)))) := by
    rw [zcell_6 (by rw [zkd_nw, if_pos rfl]), ec]
    congr 7
    funext j
    rw [zra_nw, if_pos rfl]
    rfl
  generalize hH1 : H.push ({ cls := cA, slots := Array.replicate (Int32.ofInt n).toNatClampNeg .null, vm := .none } : Cell) = H1
  have y1 : H1.size = H.size + 1 := by rw [← hH1, Array.size_push]
  have y2 : H1[H.size]? = some (vp_cell cA (n.toNat, .inr (.inr (.inr (.inr fun _ => none))))) := by
    rw [← hH1, Array.getElem?_push_size, hN, vp_cell_q, ← arrV_new]
    rfl
  have y3 : ∀ q : Nat, q < H.size → H1[q]? = H[q]? := fun q hq => by rw [← hH1, Array.getElem?_push, if_neg (Nat.ne_of_lt hq)]
  have p1 : va_P G.2.1 zcl (zws G ρ σ ++ [(H.size, .inl (cA, n.toNat, .inr (.inr (.inr (.inr fun _ => none)))))]) H1 := by
    refine (hS.1.1.kept fun k x hx => y3 x.1 (hS.1.1 k x hx).lt).app fun k x hx => ?_
    cases k with
    | zero => cases hx; exact y2
    | succ k => cases hx
  have d1 : va_D (zA G) (zws G ρ σ ++ [(H.size, .inl (cA, n.toNat, .inr (.inr (.inr (.inr fun _ => none)))))]) := hS.1.2.1.push hS.1.1 rfl (Nat.le_trans ho.1 hS.2.1.1)
  have s1 : va_S (zA G) s.heap H1 locs := ⟨Nat.le_trans hS.2.1.1 (by omega), fun x h1 h2 => (y3 x (Nat.lt_of_lt_of_le h1 hS.2.1.1)).trans (hS.2.1.2.1 x h1 h2), hS.2.1.2.2⟩
  rw [← ez] at p1 d1
  have w := k1 H.size H1 p1 d1 s1
  rw [← hN] at w
  exact w
/-- N rows of K ints and the row of them, made at once -/
def zmm (σ : zMem) (N K : Nat) : zMem := (σ.1 + (1 + N), fun h => if h = σ.1 then (6, N) else if σ.1 < h ∧ h ≤ σ.1 + N then (1, K) else σ.2.1 h, fun h j => if σ.1 ≤ h ∧ h ≤ σ.1 + N then 0 else σ.2.2.1 h j, fun h j => if h = σ.1 then (if 0 ≤ j ∧ j < N then some (σ.1 + 1 + j.toNat) else none) else if σ.1 < h ∧ h ≤ σ.1 + N then none else σ.2.2.2.1 h j, σ.2.2.2.2.1 + (1 + N), σ.2.2.2.2.2 + (N + N * K))
theorem zn_mm (σ : zMem) (N K : Nat) : zn (zmm σ N K) = zn σ + (1 + N) := rfl
theorem zcs_mm (σ : zMem) (N K : Nat) : zcs (zmm σ N K) = zcs σ + (1 + N) := rfl
theorem zss_mm (σ : zMem) (N K : Nat) : zss (zmm σ N K) = zss σ + (N + N * K) := rfl
theorem zkd_mm (σ : zMem) (N K h : Nat) : zkd (zmm σ N K) h = if h = zn σ then (6, N) else if zn σ < h ∧ h ≤ zn σ + N then (1, K) else zkd σ h := rfl
theorem zia_mm (σ : zMem) (N K h : Nat) (j : Int) : zia (zmm σ N K) h j = if zn σ ≤ h ∧ h ≤ zn σ + N then 0 else zia σ h j := rfl
theorem zra_mm (σ : zMem) (N K h : Nat) (j : Int) : zra (zmm σ N K) h j = if h = zn σ then (if 0 ≤ j ∧ j < N then some (zn σ + 1 + j.toNat) else none) else if zn σ < h ∧ h ≤ zn σ + N then none else zra σ h j := rfl
def zupm (ρ : Nat → Nat) (n N q : Nat) (r : Nat → Nat) : Nat → Nat := fun x => if x = n then q else if n < x ∧ x ≤ n + N then r (x - n - 1) else ρ x
theorem zupm_old {ρ : Nat → Nat} {n N q : Nat} {r : Nat → Nat} {x : Nat} (h : x < n ∨ n + N < x) : zupm ρ n N q r x = ρ x := by
  unfold zupm
  rw [if_neg (by omega), if_neg (by omega)]
theorem zupm_at (ρ : Nat → Nat) (n N q : Nat) (r : Nat → Nat) : zupm ρ n N q r n = q := if_pos rfl
theorem zupm_in {ρ : Nat → Nat} {n N q : Nat} {r : Nat → Nat} {i : Nat} (h : i < N) : zupm ρ n N q r (n + 1 + i) = r i := by
  unfold zupm
  rw [if_neg (by omega), if_pos (by omega), show n + 1 + i - n - 1 = i by omega]
theorem zcell_mm {G : zG} {ρ ρ1 : Nat → Nat} {σ : zMem} {N K h : Nat} (hok : zOK σ) (hlt : h < zn σ) (hbg : zn σ + N < zbg) (hρ : ∀ x, x < zn σ ∨ zn σ + N < x → ρ1 x = ρ x) : zcell G ρ1 (zmm σ N K) h = zcell G ρ σ h := by
  have e0 : ∀ j, zra (zmm σ N K) h j = zra σ h j := fun j => by rw [zra_mm, if_neg (by omega), if_neg (by omega)]
  have e1 : ∀ j, zia (zmm σ N K) h j = zia σ h j := fun j => by rw [zia_mm, if_neg (by omega)]
  have e2 : zkd (zmm σ N K) h = zkd σ h := by rw [zkd_mm, if_neg (by omega), if_neg (by omega)]
  have e3 : ∀ j, (zra σ h j).map ρ1 = (zra σ h j).map ρ := fun j => by
    cases hr : zra σ h j with
    | none => rfl
    | some x =>
      have := hok.2.1 h j x hr
      show some (ρ1 x) = some (ρ x)
      rw [hρ x (by omega)]
  simp only [zcell, zobj, zfld, e0, e1, e2, e3]
theorem zOK_mm {σ : zMem} {N K : Nat} (hok : zOK σ) (hbg : zn σ + N < zbg) (hN : N < 2147483648) (hc : K < 2147483648) : zOK (zmm σ N K) := by
  refine ⟨by rw [zn_mm]; omega, fun h j x hx => ?_, fun h => ?_⟩
  · rw [zra_mm] at hx
    split at hx
    · split at hx
      · cases hx; rw [zn_mm]; omega
      · cases hx
    · split at hx
      · cases hx
      · have := hok.2.1 h j x hx
        rw [zn_mm]
        omega
  · rw [zkd_mm]
    split
    · exact hN
    · split
      · exact hc
      · exact hok.2.2 h
theorem zws_mm {G : zG} {ρ : Nat → Nat} {σ : zMem} {N K q : Nat} {r : Nat → Nat} (hok : zOK σ) (hbg : zn σ + N < zbg) : zws G (zupm ρ (zn σ) N q r) (zmm σ N K) = (zws G ρ σ ++ [(q, .inl (G.2.2.1 6, N, .inr (.inr (.inr (.inr fun i => if i < N then some (r i) else none)))))]) ++ (List.range N).map (fun i => (r i, (.inl (G.2.2.1 1, K, .inl fun _ => 0) : va_E))) := by
  unfold zws
  rw [zn_mm, List.range_add, List.map_append, show (1 + N) = N + 1 by omega, List.range_succ_eq_map, List.map_cons, List.map_cons, List.append_assoc]
  congr 1
  · refine List.map_congr_left fun h hh => ?_
    have hlt := List.mem_range.mp hh
    rw [zcell_mm hok hlt hbg fun x hx => zupm_old hx, zupm_old (Or.inl hlt)]
  · rw [List.singleton_append]
    congr 1
    · rw [Nat.add_zero, zupm_at, zcell_6 (by rw [zkd_mm, if_pos rfl])]
      congr 8
      funext i
      rw [zra_mm, if_pos rfl]
      by_cases hi : i < N
      · rw [if_pos hi, if_pos (by omega)]
        show some (zupm ρ (zn σ) N q r (zn σ + 1 + (i : Int).toNat)) = some (r i)
        rw [Int.toNat_natCast, zupm_in hi]
      · rw [if_neg hi, if_neg (by omega)]
        rfl
    · rw [List.map_map, List.map_map]
      refine List.map_congr_left fun i hi => ?_
      have hlt := List.mem_range.mp hi
      show (zupm ρ (zn σ) N q r (zn σ + (i + 1)), zcell G _ (zmm σ N K) (zn σ + (i + 1))) = _
      rw [show zn σ + (i + 1) = zn σ + 1 + i by omega, zupm_in hlt, zcell_1 (by rw [zkd_mm, if_neg (by omega), if_pos (by omega)])]
      congr 5
      funext j
      rw [zia_mm, if_pos (by omega)]
      rfl
theorem zF_mnaA (pc' : Nat) {idx N K : Nat} {nz kz : Int} (hd : decode M.2.1 pc = .ok (.multianewarray idx 2, 4)) (hp : pc + 4 = pc') (hcl : Cond.classLink M.1.cls idx ("[" ++ (FieldType.array .int).toString) ∈ lw_all) (hAO : zAO G) (hnz : nz = (N : Int)) (hkz : kz = (K : Int)) (hN1 : N ≤ 1000) (hK1 : K ≤ 1000) (hbg : zn σ + N < zbg) (hw1 : ∀ q ∈ ls, zwv (zn σ) q.2) (hw2 : ∀ v ∈ st, zwv (zn σ) v)
    (kk : zF G M d pc' ls (zR (zn σ) :: st) (zmm σ N K) Q) : zF G M d pc ls (zI kz :: zI nz :: st) σ Q := by
  subst hp
  obtain ⟨r, σ', hq, hu, hF⟩ := kk
  have u1 := hu.1
  have u2 := hu.2.1
  have u3 := hu.2.2
  rw [zn_mm] at u1
  rw [zcs_mm] at u2
  rw [zss_mm] at u3
  refine ⟨r, σ', hq, ⟨by omega, by omega, by omega⟩, ?_⟩
  intro ρ p e R s m args below meth c0 hC H locs cells slots lsA hS h1 h2
  have hts := hC.2.2.2.2.1
  have ho := hC.2.2.2.2.2.2.2.2.2.2.2.1
  have hN : (Int32.ofInt nz).toNatClampNeg = N := by rw [zcl0 nz (by omega) (by omega), hnz]; rfl
  have hK : (Int32.ofInt kz).toNatClampNeg = K := by rw [zcl0 kz (by omega) (by omega), hkz]; rfl
  have n0 : ¬ Int32.ofInt nz < 0 := by rw [z0, zclt ⟨by omega, by omega⟩ zrg0]; omega
  have k0 : ¬ Int32.ofInt kz < 0 := by rw [z0, zclt ⟨by omega, by omega⟩ zrg0]; omega
  have hA : ∀ q, s.heap.size ≤ q → zA G q := fun q hq => Nat.le_trans ho.1 hq
  have eC : s.vm.findClass (FieldType.array .int).toString = some (G.2.2.1 1) := (((zcx_K hC).2 0 (G.2.2.1 1, .int) rfl).2 : s.vm.findClass _ = some (G.2.2.1 1))
  have e0 : zws G ρ σ ++ va_pl [] (fun _ => (.inl (G.2.2.1 1, K, .inl fun _ => 0) : va_E)) = zws G ρ σ := List.append_nil _
  simp only [List.map_cons, ztr]
  refine va_mna (X := zws G ρ σ) (L := []) (f := fun _ => (.inl (G.2.2.1 1, K, .inl fun _ => 0) : va_E)) (z := (K, .inl fun _ => 0)) (ty := .int) (cy := G.2.2.1 1) (N' := N) (K' := K) hC.1 hC.2.1 hC.2.2.2.1 (hts _ hcl) (zAA_at hAO hC) (hts _ zAIw) eC (zcx_K hC) (by rw [e0]; exact hS.1.1) (by rw [e0]; exact hS.1.2.1) hS.2.1 hA n0 k0 hN hK (by omega) (by show K * 4 ≤ _; omega) (by omega) rfl rfl (by omega) (by omega) (fun c => arrV_new c K (.int 0)) hd fun q r2 cA H1 i1 i2 hK1 p1 d1 s1 => ?_
  have ec : cA = G.2.2.1 6 := Option.some.inj (((hK1.2 7 (cA, .array .int) rfl).2 : s.vm.findClass ("[" ++ (FieldType.array .int).toString) = some cA).symm.trans ((((zcx_K hC).2 5 (G.2.2.1 6, .array .int) rfl).2 : s.vm.findClass ("[" ++ (FieldType.array .int).toString) = some (G.2.2.1 6))))
  subst ec
  have ep : va_pl ([] ++ (List.range N).map r2) (vr_up (fun _ => (.inl (G.2.2.1 1, K, .inl fun _ => 0) : va_E)) ((List.range N).map r2) (.inl (G.2.2.1 1, K, .inl fun _ => 0))) = (List.range N).map (fun i => (r2 i, (.inl (G.2.2.1 1, K, .inl fun _ => 0) : va_E))) := by
    rw [List.nil_append]
    unfold va_pl
    rw [List.map_map]
    refine List.map_congr_left fun i hi => ?_
    show (r2 i, vr_up _ _ _ (r2 i)) = _
    unfold vr_up
    split <;> rfl
  rw [ep] at p1 d1
  have hag : zAg (zn σ) (zn σ + (1 + N)) ρ (zupm ρ (zn σ) N q r2) := fun k hk => zupm_old (by omega)
  rw [← zws_mm hS.1.2.2.1 hbg] at p1 d1
  have kp := zkeepn (σ := σ) (σ1 := zmm σ N K) hw1 hw2 ρ (zupm ρ (zn σ) N q r2) hag (by rw [zn_mm]; omega)
  have hS1 : zSt G M (zupm ρ (zn σ) N q r2) (zmm σ N K) ls s H1 locs lsA := ⟨⟨p1, d1, zOK_mm hS.1.2.2.1 hbg (by omega) (by omega), fun i => by rw [zupm_old (by omega), hS.1.2.2.2 i]⟩, s1, by rw [kp.1]; exact hS.2.2⟩
  have w := hF (zupm ρ (zn σ) N q r2) p e R s m args below meth c0 hC H1 locs (cells + (1 + N)) (slots + (N + N * K)) lsA hS1 (by rw [zcs_mm]; omega) (by rw [zss_mm]; omega)
  rw [zn_mm] at w
  have w2 := zQ_mono hag (by omega) u1 w
  have es : (zR (zn σ) :: st).map (ztr (zupm ρ (zn σ) N q r2)) = .ref q :: st.map (ztr ρ) := by
    rw [List.map_cons, kp.2]
    show Value.ref (zupm ρ (zn σ) N q r2 (zn σ)) :: _ = _
    rw [zupm_at]
  rw [es] at w2
  rw [show cells + 1 + N = cells + (1 + N) by omega, show slots + N + N * K = slots + (N + N * K) by omega]
  exact w2
/-- a row of ints copied -/
def zcln (σ : zMem) (h n : Nat) : zMem := (σ.1 + 1, fun x => if x = σ.1 then (1, n) else σ.2.1 x, fun x j => if x = σ.1 then σ.2.2.1 h j else σ.2.2.1 x j, fun x j => if x = σ.1 then none else σ.2.2.2.1 x j, σ.2.2.2.2.1 + 1, σ.2.2.2.2.2 + n)
theorem zn_cl (σ : zMem) (h n : Nat) : zn (zcln σ h n) = zn σ + 1 := rfl
theorem zcs_cl (σ : zMem) (h n : Nat) : zcs (zcln σ h n) = zcs σ + 1 := rfl
theorem zss_cl (σ : zMem) (h n : Nat) : zss (zcln σ h n) = zss σ + n := rfl
theorem zkd_cl (σ : zMem) (h n x : Nat) : zkd (zcln σ h n) x = if x = zn σ then (1, n) else zkd σ x := rfl
theorem zia_cl (σ : zMem) (h n x : Nat) (j : Int) : zia (zcln σ h n) x j = if x = zn σ then zia σ h j else zia σ x j := rfl
theorem zra_cl (σ : zMem) (h n x : Nat) (j : Int) : zra (zcln σ h n) x j = if x = zn σ then none else zra σ x j := rfl
theorem zcell_cl {G : zG} {ρ ρ1 : Nat → Nat} {σ : zMem} {h n x : Nat} (hok : zOK σ) (hlt : x < zn σ) (hbg : zn σ < zbg) (hρ : ∀ x, x ≠ zn σ → ρ1 x = ρ x) : zcell G ρ1 (zcln σ h n) x = zcell G ρ σ x := by
  have e0 : ∀ j, zra (zcln σ h n) x j = zra σ x j := fun j => by rw [zra_cl, if_neg (Nat.ne_of_lt hlt)]
  have e1 : ∀ j, zia (zcln σ h n) x j = zia σ x j := fun j => by rw [zia_cl, if_neg (Nat.ne_of_lt hlt)]
  have e2 : zkd (zcln σ h n) x = zkd σ x := by rw [zkd_cl, if_neg (Nat.ne_of_lt hlt)]
  have e3 : ∀ j, (zra σ x j).map ρ1 = (zra σ x j).map ρ := fun j => by
    cases hr : zra σ x j with
    | none => rfl
    | some y =>
      have := hok.2.1 x j y hr
      show some (ρ1 y) = some (ρ y)
      rw [hρ y (by omega)]
  simp only [zcell, zobj, zfld, e0, e1, e2, e3]
theorem zws_cl {G : zG} {ρ ρ1 : Nat → Nat} {σ : zMem} {h n : Nat} (hok : zOK σ) (hbg : zn σ < zbg) (hρ : ∀ x, x ≠ zn σ → ρ1 x = ρ x) : zws G ρ1 (zcln σ h n) = zws G ρ σ ++ [(ρ1 (zn σ), .inl (G.2.2.1 1, n, .inl fun j => Int32.ofInt (zia σ h j)))] := by
  unfold zws
  rw [zn_cl, List.range_succ, List.map_append]
  congr 1
  · refine List.map_congr_left fun x hx => ?_
    have hlt := List.mem_range.mp hx
    rw [zcell_cl hok hlt hbg hρ, hρ x (Nat.ne_of_lt hlt)]
  · rw [List.map_cons, List.map_nil, zcell_1 (by rw [zkd_cl, if_pos rfl])]
    congr 6
    funext j
    rw [zia_cl, if_pos rfl]
theorem zOK_cl {σ : zMem} {h n : Nat} (hok : zOK σ) (hbg : zn σ < zbg) (hc : n < 2147483648) : zOK (zcln σ h n) := by
  refine ⟨by rw [zn_cl]; omega, fun x j y hx => ?_, fun x => ?_⟩
  · rw [zra_cl] at hx
    split at hx
    · cases hx
    · have := hok.2.1 x j y hx
      rw [zn_cl]
      omega
  · rw [zkd_cl]
    split
    · exact hc
    · exact hok.2.2 x
theorem zF_cloneA (pc' : Nat) {idx h n : Nat} (hd : decode M.2.1 pc = .ok (.invokevirtual idx, 3)) (hp : pc + 3 = pc') (hl : Cond.methodLink M.1.cls idx ⟨"[I", "clone", "()Ljava/lang/Object;"⟩ ∈ lw_all) (hk : zkd σ h = (1, n)) (hn : h < zn σ) (hbg : zn σ < zbg) (hd1 : 1 ≤ d) (hcat : (st.map zcat).sum ≤ 8) (hw1 : ∀ q ∈ ls, zwv (zn σ) q.2) (hw2 : ∀ v ∈ st, zwv (zn σ) v)
    (kk : zF G M d pc' ls (zR (zn σ) :: st) (zcln σ h n) Q) : zF G M d pc ls (zR h :: st) σ Q := by
  subst hp
  obtain ⟨r, σ', hq, hu, hF⟩ := kk
  have u1 := hu.1
  have u2 := hu.2.1
  have u3 := hu.2.2
  rw [zn_cl] at u1
  rw [zcs_cl] at u2
  rw [zss_cl] at u3
  refine ⟨r, σ', hq, ⟨by omega, by omega, by omega⟩, ?_⟩
  intro ρ p e R s m args below meth c0 hC H locs cells slots lsA hS h1 h2
  have hts := hC.2.2.2.2.1
  have hfr : R.frames = d := hC.2.2.2.2.2.2.2.2.2.1
  have hlo : R.locals = 37 * d := hC.2.2.2.2.2.2.2.2.2.2.1
  have ho := hC.2.2.2.2.2.2.2.2.2.2.2.1
  have hNs := hC.2.2.2.2.2.2.2.2.2.2.2.2.2.2
  have hA : ∀ q, s.heap.size ≤ q → zA G q := fun q hq => Nat.le_trans ho.1 hq
  have hb : n < 2147483648 := by have := hS.1.2.2.1.2.2 h; rw [hk] at this; exact this
  have ha : (zws G ρ σ)[h]? = some (ρ h, .inl (G.2.2.1 1, n, .inl fun j => Int32.ofInt (zia σ h j))) := by rw [zws_get hn, zcell_1 hk]
  have eC : s.vm.findClass "[I" = some (G.2.2.1 1) := (((zcx_K hC).2 0 (G.2.2.1 1, .int) rfl).2 : s.vm.findClass _ = some (G.2.2.1 1))
  simp only [List.map_cons, ztr, Option.map, va_rf]
  refine va_clone (x := (n, .inl fun j => Int32.ofInt (zia σ h j))) (cA := G.2.2.1 1) (ty := .int) hC.1 hC.2.1 (by rw [hC.2.2.1, hS.2.2.1]) hC.2.2.2.1 (hts _ hl) (hts _ (zi6 71 rfl rfl)) (hts _ (zi6 72 rfl rfl)) (hts _ (zi6 73 rfl rfl)) (hts _ (zi6 74 rfl rfl)) (hNs.1 _ (zj6 75 rfl rfl)) (zcx_K hC) hS.1.1 hS.1.2.1 hS.2.1 hA h 0 ha rfl eC ?_ (by omega) (by rw [zcat_sum, hlo]; omega) (by omega) (by show slots + n ≤ _; omega) hd fun q H1 hK1 p1 d1 s1 => ?_
  · intro i v hv
    rw [vp_cell_i] at hv
    by_cases hi : i < n
    · rw [arrV_read _ _ hi] at hv
      cases hv
      rfl
    · rw [Array.getElem?_eq_none (by rw [arrV_size]; omega)] at hv
      cases hv
  · have ew := zws_cl (G := G) (ρ := ρ) (h := h) (n := n) hS.1.2.2.1 hbg (zup1_ne ρ (zn σ) q)
    rw [zup1_at] at ew
    rw [← ew] at p1 d1
    have hag := zup1_ag ρ (zn σ) q
    have kp := zkeepn (σ := σ) (σ1 := zcln σ h n) hw1 hw2 ρ (zup1 ρ (zn σ) q) hag (by rw [zn_cl]; omega)
    have hS1 : zSt G M (zup1 ρ (zn σ) q) (zcln σ h n) ls s H1 locs lsA := ⟨⟨p1, d1, zOK_cl hS.1.2.2.1 hbg hb, fun i => by rw [zup1_ne _ _ _ _ (by omega), hS.1.2.2.2 i]⟩, s1, by rw [kp.1]; exact hS.2.2⟩
    have w := hF (zup1 ρ (zn σ) q) p e R s m args below meth c0 hC H1 locs (cells + 1) (slots + n) lsA hS1 (by rw [zcs_cl]; omega) (by rw [zss_cl]; omega)
    rw [zn_cl] at w
    have w2 := zQ_mono hag (by omega) u1 w
    have es : (zR (zn σ) :: st).map (ztr (zup1 ρ (zn σ) q)) = .ref q :: st.map (ztr ρ) := by
      rw [List.map_cons, kp.2]
      show Value.ref (zup1 ρ (zn σ) q (zn σ)) :: _ = _
      rw [zup1_at]
    rw [es] at w2
    exact w2
theorem zF_castA (pc' : Nat) {idx h n : Nat} (hd : decode M.2.1 pc = .ok (.checkcast idx, 3)) (hp : pc + 3 = pc') (hl : Cond.classLink M.1.cls idx "[I" ∈ lw_all) (hk : zkd σ h = (1, n)) (hn : h < zn σ) (kk : zF G M d pc' ls (zR h :: st) σ Q) : zF G M d pc ls (zR h :: st) σ Q := by
  subst hp
  refine zF_step rfl rfl rfl ?_ kk
  intro ρ p e R s m args below meth c0 hC H locs cells slots lsA Qm hS hR1 hR2 kk
  have q := kk H locs lsA hS
  have ha : (zws G ρ σ)[h]? = some (ρ h, .inl (G.2.2.1 1, n, .inl fun j => Int32.ofInt (zia σ h j))) := by rw [zws_get hn, zcell_1 hk]
  have eC : s.vm.findClass "[I" = some (G.2.2.1 1) := (((zcx_K hC).2 0 (G.2.2.1 1, .int) rfl).2 : s.vm.findClass _ = some (G.2.2.1 1))
  simp only [List.map_cons, ztr, Option.map, va_rf] at q ⊢
  exact va_castA hC.1 hC.2.1 hC.2.2.2.1 (hC.2.2.2.2.1 _ hl) hS.1.1 h ha eC hd q
end ZAA

/-! new things in constructors -/
section ZNA
variable {G : zG} {M : zMeth} {d pc : Nat} {ls : List (Nat × zV)} {st : List zV} {σ : zMem} {Q : zRes → zMem → Prop}
/-- the classes whose arrays are made -/
def zAO (G : zG) : Prop := va_AO "CinemaChain$State" (zSt0 G) ∧ va_AOA .int (zSt0 G)
theorem zra_one {s : State} {C : String} {c1 c2 : ClassId} (a1 : va_RA s c1 (.object C)) (a2 : va_RA s c2 (.object C)) : c1 = c2 := by
  obtain ⟨kA, comp, f2, f3, f4, f1⟩ := a1
  obtain ⟨kB, comp2, g2, g3, g4, g1⟩ := a2
  cases f4.symm.trans g4
  exact Option.some.inj (f1.symm.trans g1)
theorem zF_anewS (pc' : Nat) {idx : Nat} {n : Int} (hd : decode M.2.1 pc = .ok (.anewarray idx, 3)) (hp : pc + 3 = pc') (hcl : Cond.classLink M.1.cls idx "CinemaChain$State" ∈ lw_all) (hAO : zAO G) (h0 : 0 ≤ n) (h1 : n ≤ 60000) (hbg : zn σ < zbg) (hw1 : ∀ q ∈ ls, zwv (zn σ) q.2) (hw2 : ∀ v ∈ st, zwv (zn σ) v)
    (kk : zF G M d pc' ls (zR (zn σ) :: st) (znw σ 5 n.toNat n.toNat) Q) : zF G M d pc ls (zI n :: st) σ Q := by
  subst hp
  refine zF_mk hbg (by omega) hw1 hw2 ?_ kk
  intro ρ p e R s m args below meth c0 hC H locs cells slots lsA Qm hS hR1 hR2 k1
  have hts := hC.2.2.2.2.1
  have ho := hC.2.2.2.2.2.2.2.2.2.2.2.1
  have hal := hC.2.2.2.2.2.2.2.2.2.2.2.2.1
  have hneg : ¬ Int32.ofInt n < 0 := by rw [z0, zclt ⟨by omega, by omega⟩ zrg0]; omega
  have hN : (Int32.ofInt n).toNatClampNeg = n.toNat := zcl0 n h0 (by omega)
  have hA : ∀ q, s.heap.size ≤ q → zA G q := fun q hq => Nat.le_trans ho.1 hq
  refine va_newq hC.1 hC.2.1 hC.2.2.2.1 (hts _ hcl) (va_AO.moved hal hAO.1) (zcx_K hC) hS.1.1 hS.1.2.1 hS.2.1 hA hneg hN (by omega) hR1 hR2 hd fun q cA H1 hK1 p1 d1 s1 => ?_
  have ec : cA = G.2.2.1 5 := zra_one (hK1.2 7 (cA, .object "CinemaChain$State") rfl).2 (((zcx_K hC).2 4 (G.2.2.1 5, .object RX8) rfl).2)
  have ez : zcell G (zup1 ρ (zn σ) q) (znw σ 5 n.toNat n.toNat) (zn σ) = .inl (cA, n.toNat, .inr (.inr (.inr (.inr fun _ => none)))) := by
    rw [zcell_5 (by rw [zkd_nw, if_pos rfl]), ec]
    congr 7
    funext j
    rw [zra_nw, if_pos rfl]
    rfl
  exact k1 q H1 (by rw [ez]; exact p1) (by rw [ez]; exact d1) s1
theorem zra_s1 {ρ : Nat → Nat} {h : Nat} {i : Int} {r : Option Nat} (h0 : 0 ≤ i) {v : Nat} (hv : r.map ρ = some v) : (va_up (fun j : Nat => (zra σ h j).map ρ) i.toNat (some v)) = fun j : Nat => (zra (zsr σ h i r) h j).map ρ := by
  funext j
  unfold va_up
  rw [zra_sr]
  by_cases q : j = i.toNat
  · rw [if_pos q, if_pos ⟨rfl, by omega⟩, hv]
  · rw [if_neg q, if_neg (fun z => q (by have := z.2; omega))]
theorem zF_aastS (pc' : Nat) {h k n : Nat} {i : Int} (hd : decode M.2.1 pc = .ok (.aastore, 1)) (hp : pc + 1 = pc') (hk : zkd σ h = (5, n)) (hn : h < zn σ) (hk2 : zkd σ k = (0, 8)) (hn2 : k < zn σ) (h0 : 0 ≤ i) (h1 : i < n) (kk : zF G M d pc' ls st (zsr σ h i (some k)) Q) : zF G M d pc ls (zR k :: zI i :: zR h :: st) σ Q := by
  subst hp
  refine zF_step (σ1 := zsr σ h i (some k)) rfl rfl rfl ?_ kk
  intro ρ p e R s m args below meth c0 hC H locs cells slots lsA Qm hS hR1 hR2 kk
  have hb : n < 2147483648 := by have := hS.1.2.2.1.2.2 h; rw [hk] at this; exact this
  simp only [List.map_cons, ztr, Option.map, va_rf]
  have e0 : (Int32.ofInt i).toNatClampNeg = i.toNat := zcl0 i h0 (by omega)
  have e1 : (zws G ρ σ).set h (ρ h, .inl (G.2.2.1 5, n, .inr (.inr (.inr (.inr (va_up (fun j : Nat => (zra σ h j).map ρ) (Int32.ofInt i).toNatClampNeg (some (ρ k)))))))) = zws G ρ (zsr σ h i (some k)) := by
    refine zws_set rfl zsr_o ?_
    rw [zcell_5 (by rw [zkd_sr]; exact hk), e0, zra_s1 (r := some k) h0 rfl]
  refine va_astq hC.1 hC.2.1 (zcx_K hC) hS.1.1 hS.1.2.1 hS.2.1 h 4 k 8 (by rw [zws_get hn, zcell_5 hk]) rfl (by rw [zws_get hn2, zcell_o hk2]) rfl (zin h0 h1 hb) hd fun H1 locs1 p1 p2 p3 => ?_
  rw [e1] at p1 p2
  exact kk H1 locs1 lsA ⟨⟨p1, p2, zOK_sr hS.1.2.2.1 (fun x hx => by cases hx; exact Or.inl hn2), hS.1.2.2.2⟩, p3, hS.2.2⟩
/-- a constructor called -/
theorem zF_callIn (pc' : Nat) {y2 : MethodName} {c2 : ByteArray} {mx2 d2 idx n h : Nat} {stk as rest : List zV} (hd : decode M.2.1 pc = .ok (.invokespecial idx, 3)) (hp : pc + 3 = pc') (hcl : zCL M.1.cls idx (y2, c2, mx2, none) n) (hnm : y2.name = "<init>") (hin : Cond.instanceMethod y2 ∈ lw_all) (hdd : d2 + 1 ≤ d) (hn : as.length = n) (hs : stk = as.reverse ++ zR h :: rest) (hcat : (rest.map zcat).sum ≤ 8)
    (hw1 : zwl (zn σ) (ls.map (·.2))) (hw2 : zwl (zn σ) rest)
    (k : zE G (y2, c2, mx2, none) d2 (zR h :: as) σ (fun r σ1 => r = .inl none ∧ zF G M d pc' ls rest σ1 Q)) : zF G M d pc ls stk σ Q := by
  subst hp
  exact zF_callI0 hd hcl hnm hin hdd hn hs hcat (k.mono fun r σ1 h => ⟨zkeepn (zwl_q hw1) (zwl_m hw2), h⟩)
theorem zF_callINn (pc' : Nat) {y2 : MethodName} {c2 : ByteArray} {host : String} {mx2 d2 idx n h : Nat} {stk as rest : List zV} (hd : decode M.2.1 pc = .ok (.invokespecial idx, 3)) (hp : pc + 3 = pc') (hcl : zCLN M.1.cls idx (y2, c2, mx2, none) n host) (hnm : y2.name = "<init>") (hin : Cond.instanceMethod y2 ∈ lw_all) (hdd : d2 + 1 ≤ d) (hn : as.length = n) (hs : stk = as.reverse ++ zR h :: rest) (hcat : (rest.map zcat).sum ≤ 8)
    (hw1 : zwl (zn σ) (ls.map (·.2))) (hw2 : zwl (zn σ) rest)
    (k : zE G (y2, c2, mx2, none) d2 (zR h :: as) σ (fun r σ1 => r = .inl none ∧ zF G M d pc' ls rest σ1 Q)) : zF G M d pc ls stk σ Q := by
  subst hp
  exact zF_callIN0 hd hcl hnm hin hdd hn hs hcat (k.mono fun r σ1 h => ⟨zkeepn (zwl_q hw1) (zwl_m hw2), h⟩)
/-- a field's array made: aload_0, its length, newarray, putfield -/
def zmk1 (σ : zMem) (h k t n : Nat) : zMem := zsr (znw σ t n n) h ((k : Nat) : Int) (some (zn σ))
end ZNA

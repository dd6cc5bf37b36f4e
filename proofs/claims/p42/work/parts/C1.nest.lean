/-! nest mates: the law reads and writes the private fields of its own class, and calls its private methods -/
section ZNM
variable {G : zG} {M : zMeth} {d pc : Nat} {ls : List (Nat × zV)} {st : List zV} {σ : zMem} {Q : zRes → zMem → Prop}
def zFLN (own : String) (idx ci k c : Nat) (host : String) : Prop := ∃ C T N ty, zCl ci C T N ty ∧ k < N ∧ zfc ci k = c ∧ Cond.fieldLinkNest own idx (T k).1 (T k).2.1 (T k).2.2.1 host ∈ lw_nest
def zFPN (own : String) (idx ci k c : Nat) (host : String) : Prop := ∃ C T N ty, zCl ci C T N ty ∧ k < N ∧ zfc ci k = c ∧ Cond.fieldLinkNest own idx (T k).1 (T k).2.1 (T k).2.2.1 host ∈ lw_nest ∧ (T k).2.2.2 = false
theorem znx_at {s : State} {args : Array Value} {w : Cond} (hnx : zNs G s) (h : w ∈ lw_nest) : w.before args s = true := va_Nw.use (znest_tab (List.mem_filter.mp h).2) (hnx.1 w h)
theorem zF_getIN (pc' : Nat) {idx ci k c h : Nat} {host : String} {z : Int} (hd : decode M.2.1 pc = .ok (.getfield idx, 3)) (hp : pc + 3 = pc') (hf : zFLN M.1.cls idx ci k c host) (h1 : c ≠ 1) (h2 : c ≠ 2) (hk : zkd σ h = (0, ci)) (hn : h < zn σ) (hz : zia σ h k = z) (kk : zF G M d pc' ls (zI z :: st) σ Q) : zF G M d pc ls (zR h :: st) σ Q := by
  subst hp
  subst hz
  refine zF_step rfl rfl rfl ?_ kk
  intro ρ p e R s m args below meth c0 hC H locs cells slots lsA Qm hS hR1 hR2 kk
  obtain ⟨C, T, N, ty, ⟨hcl, hlen, hws, hty, hfk, hnm⟩, hkN, hcd, hl⟩ := hf
  have q := kk H locs lsA hS
  simp only [List.map_cons, ztr, Option.map, va_rf] at q ⊢
  refine va_getN hC.1 hC.2.1 hC.2.2.2.2.1 hws hC.2.2.2.1 (zcx_K hC) hS.1.1 h (by rw [zws_get hn, zcell_o hk]) hcl k hkN (znx_at hC.2.2.2.2.2.2.2.2.2.2.2.2.2.2 hl) (fun _ x => x) ?_ hd q
  rw [zobj_get (by rw [hlen]; exact hkN), hcd, zfld_i h1 h2]
theorem zF_getRN (pc' : Nat) {idx ci k h : Nat} {host : String} {r : Option Nat} (hd : decode M.2.1 pc = .ok (.getfield idx, 3)) (hp : pc + 3 = pc') (hf : zFLN M.1.cls idx ci k 2 host) (hk : zkd σ h = (0, ci)) (hn : h < zn σ) (hz : zra σ h k = r) (kk : zF G M d pc' ls (zO r :: st) σ Q) : zF G M d pc ls (zR h :: st) σ Q := by
  subst hp
  subst hz
  refine zF_step rfl rfl rfl ?_ kk
  intro ρ p e R s m args below meth c0 hC H locs cells slots lsA Qm hS hR1 hR2 kk
  obtain ⟨C, T, N, ty, ⟨hcl, hlen, hws, hty, hfk, hnm⟩, hkN, hcd, hl⟩ := hf
  have q := kk H locs lsA hS
  simp only [List.map_cons, ztr, Option.map, va_rf] at q ⊢
  refine va_getN hC.1 hC.2.1 hC.2.2.2.2.1 hws hC.2.2.2.1 (zcx_K hC) hS.1.1 h (by rw [zws_get hn, zcell_o hk]) hcl k hkN (znx_at hC.2.2.2.2.2.2.2.2.2.2.2.2.2.2 hl) (fun _ x => x) ?_ hd q
  rw [zobj_get (by rw [hlen]; exact hkN), hcd]
  rfl
theorem zF_putIN (pc' : Nat) {idx ci k h : Nat} {host : String} {z : Int} (hd : decode M.2.1 pc = .ok (.putfield idx, 3)) (hp : pc + 3 = pc') (hf : zFPN M.1.cls idx ci k 0 host) (hk : zkd σ h = (0, ci)) (hn : h < zn σ) (kk : zF G M d pc' ls st (zsi σ h k z) Q) : zF G M d pc ls (zI z :: zR h :: st) σ Q := by
  subst hp
  refine zF_step (σ1 := zsi σ h k z) rfl rfl rfl ?_ kk
  intro ρ p e R s m args below meth c0 hC H locs cells slots lsA Qm hS hR1 hR2 kk
  simp only [List.map_cons, ztr, Option.map, va_rf]
  obtain ⟨C, T, N, ty, ⟨hcl, hlen, hws, hty, hfk, hnm⟩, hkN, hcd, hl, hfin⟩ := hf
  have hvk := zfkI (z := z) (by rw [← hcd]; exact hfk k hkN) (Or.inl rfl)
  have e1 := zws_si (G := G) (ρ := ρ) (z := z) hk hcd (by decide) (by decide)
  have hkl : k < (zobj ρ σ h ci).length := by rw [zobj_len, hlen]; exact hkN
  refine va_putN hC.1 hC.2.1 hC.2.2.2.2.1 hws ty hty hnm hC.2.2.2.1 (zcx_K hC) hS.1.1 hS.1.2.1 hS.2.1 h (by rw [zws_get hn, zcell_o hk]) hcl k hkN (znx_at hC.2.2.2.2.2.2.2.2.2.2.2.2.2.2 hl) (fun _ x => x) hfin (hty k hkN) hvk.1 hvk.2 hkl hd fun H1 locs1 p1 p2 p3 => ?_
  rw [e1] at p1 p2
  exact kk H1 locs1 lsA ⟨⟨p1, p2, zOK_si hS.1.2.2.1, hS.1.2.2.2⟩, p3, hS.2.2⟩
theorem zF_callVN0 {M2 : zMeth} {host : String} {d2 idx n ci h : Nat} {C : vw_C} {stk as rest : List zV} (hd : decode M.2.1 pc = .ok (.invokevirtual idx, 3)) (hcl : zCLN M.1.cls idx M2 n host) (hin : Cond.instanceMethod M2.1 ∈ lw_all) (hc : zcl[ci]? = some C) (hse : Cond.selects C.1 M2.1 M2.1 ∈ lw_all) (hdd : d2 + 1 ≤ d) (hkd : zkd σ h = (0, ci)) (hh : h < zn σ) (hn : as.length = n) (hs : stk = as.reverse ++ zR h :: rest) (hcat : (rest.map zcat).sum ≤ 8)
    (k : zE G M2 d2 (zR h :: as) σ (fun r σ1 => (∀ ρ ρ' : Nat → Nat, zAg (zn σ) (zn σ1) ρ ρ' → zn σ1 ≤ zbg → zLs ρ' ls = zLs ρ ls ∧ rest.map (ztr ρ') = rest.map (ztr ρ)) ∧ ∃ v, r = .inl v ∧ zF G M d (pc + 3) ls (v.toList ++ rest) σ1 Q)) : zF G M d pc ls stk σ Q := by
  obtain ⟨r1, σ1, ⟨hag, v, er, hm⟩, hu, hM⟩ := k
  refine zgoI (v := v) (M2 := M2) (d2 := d2) (as := zR h :: as) (rest := rest) (fun σ1 hM hu ρ p e R s m args below meth c hC H locs cells slots lsA hS h1 h2 => ?_) ⟨r1, σ1, ⟨hag, er, hm⟩, hu, hM⟩
  have hts := hC.2.2.2.2.1
  have hB := zcallN (σ := σ) (σ1 := σ1) hcl hts hC.2.2.2.2.2.2.2.2.2.2.2.2.2.2 hC.2.2.2.2.2.2.2.2.2.1 hC.2.2.2.2.2.2.2.2.2.2.1 hdd
  have hat := hS.1.1 h _ (zws_get hh)
  rw [zcell_o hkd] at hat
  obtain ⟨rC, hrC, hOB⟩ := hat
  have eC : rC = C := Option.some.inj (hrC.symm.trans hc)
  subst eC
  have hKn := (zcx_K hC).1 ci _ hc
  obtain ⟨cell, q1, q2, q3, q4⟩ := hOB
  refine va_runVN (Ts := lw_all) (C := rC.1) (b := ρ h) (As := as.map (ztr ρ)) (rest := rest.map (ztr ρ)) ⟨hC.1, hC.2.1, hC.2.2.1, hC.2.2.2.1, hts⟩ (zMet_of (hM ρ)) ⟨hB, hts _ hin, hts _ hse⟩ ⟨zPc_blind, ⟨cell, q1, by rw [q3]; rfl, by rw [q2]; exact hKn.2.1⟩, zPreS (as := zR h :: as) hC hS⟩ rfl (by rw [List.length_map]; exact hn) hS.2.2.1 ?_ (lv_room (by rw [zcat_sum]; exact hcat)) hd ⟨h1, h2⟩
  show stk.map (ztr ρ) = _
  rw [hs, List.map_append, List.map_reverse, List.map_cons]
  rfl
theorem zF_callVN (pc' : Nat) {M2 : zMeth} {host : String} {d2 idx n ci h : Nat} {C : vw_C} {stk as rest : List zV} (hd : decode M.2.1 pc = .ok (.invokevirtual idx, 3)) (hp : pc + 3 = pc') (hcl : zCLN M.1.cls idx M2 n host) (hin : Cond.instanceMethod M2.1 ∈ lw_all) (hc : zcl[ci]? = some C) (hse : Cond.selects C.1 M2.1 M2.1 ∈ lw_all) (hdd : d2 + 1 ≤ d) (hkd : zkd σ h = (0, ci)) (hh : h < zn σ) (hn : as.length = n) (hs : stk = as.reverse ++ zR h :: rest) (hcat : (rest.map zcat).sum ≤ 8)
    (hw1 : zwl (zn σ) (ls.map (·.2))) (hw2 : zwl (zn σ) rest)
    (k : zE G M2 d2 (zR h :: as) σ (fun r σ1 => ∃ v, r = .inl v ∧ zF G M d pc' ls (v.toList ++ rest) σ1 Q)) : zF G M d pc ls stk σ Q := by
  subst hp
  exact zF_callVN0 hd hcl hin hc hse hdd hkd hh hn hs hcat (k.mono fun r σ1 h => ⟨zkeepn (zwl_q hw1) (zwl_m hw2), h⟩)
end ZNM

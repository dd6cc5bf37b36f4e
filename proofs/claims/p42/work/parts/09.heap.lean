/-! fields and arrays -/
section ZH
theorem zws_get {G : zG} {ρ : Nat → Nat} {σ : zMem} {h : Nat} (hn : h < zn σ) : (zws G ρ σ)[h]? = some (ρ h, zcell G ρ σ h) := by
  unfold zws
  rw [List.getElem?_map, List.getElem?_range hn]
  rfl
theorem zws_none {G : zG} {ρ : Nat → Nat} {σ : zMem} {h : Nat} (hn : ¬ h < zn σ) : (zws G ρ σ)[h]? = none := by
  unfold zws
  rw [List.getElem?_eq_none]
  simp
  omega
theorem zws_len {G : zG} {ρ : Nat → Nat} {σ : zMem} : (zws G ρ σ).length = zn σ := by simp [zws]
theorem zcell_o {G : zG} {ρ : Nat → Nat} {σ : zMem} {h ci : Nat} (hk : zkd σ h = (0, ci)) : zcell G ρ σ h = .inr (ci, zobj ρ σ h ci) := by
  unfold zcell
  rw [hk]
  rfl
theorem zcell_1 {G : zG} {ρ : Nat → Nat} {σ : zMem} {h n : Nat} (hk : zkd σ h = (1, n)) : zcell G ρ σ h = .inl (G.2.2.1 1, n, .inl fun j => Int32.ofInt (zia σ h j)) := by
  unfold zcell
  rw [hk]
  rfl
theorem zcell_2 {G : zG} {ρ : Nat → Nat} {σ : zMem} {h n : Nat} (hk : zkd σ h = (2, n)) : zcell G ρ σ h = .inl (G.2.2.1 2, n, .inl fun j => Int32.ofInt (zia σ h j)) := by
  unfold zcell
  rw [hk]
  rfl
theorem zcell_3 {G : zG} {ρ : Nat → Nat} {σ : zMem} {h n : Nat} (hk : zkd σ h = (3, n)) : zcell G ρ σ h = .inl (G.2.2.1 3, n, .inl fun j => Int32.ofInt (zia σ h j)) := by
  unfold zcell
  rw [hk]
  rfl
theorem zcell_4 {G : zG} {ρ : Nat → Nat} {σ : zMem} {h n : Nat} (hk : zkd σ h = (4, n)) : zcell G ρ σ h = .inl (G.2.2.1 4, n, .inr (.inl fun j => Int64.ofInt (zia σ h j))) := by
  unfold zcell
  rw [hk]
  rfl
theorem zcell_5 {G : zG} {ρ : Nat → Nat} {σ : zMem} {h n : Nat} (hk : zkd σ h = (5, n)) : zcell G ρ σ h = .inl (G.2.2.1 5, n, .inr (.inr (.inr (.inr fun j => (zra σ h j).map ρ)))) := by
  unfold zcell
  rw [hk]
  rfl
theorem zcell_6 {G : zG} {ρ : Nat → Nat} {σ : zMem} {h n : Nat} (hk : zkd σ h = (6, n)) : zcell G ρ σ h = .inl (G.2.2.1 6, n, .inr (.inr (.inr (.inr fun j => (zra σ h j).map ρ)))) := by
  unfold zcell
  rw [hk]
  rfl
theorem zcell_7 {G : zG} {ρ : Nat → Nat} {σ : zMem} {h n : Nat} (hk : zkd σ h = (7, n)) : zcell G ρ σ h = .inl (G.2.2.1 7, n, .inr (.inr (.inr (.inr fun j => (zra σ h j).map ρ)))) := by
  unfold zcell
  rw [hk]
  rfl
theorem zcell_congr {G : zG} {ρ : Nat → Nat} {σ σ1 : zMem} {h : Nat} (h1 : zkd σ1 h = zkd σ h) (h2 : ∀ j, zia σ1 h j = zia σ h j) (h3 : ∀ j, zra σ1 h j = zra σ h j) : zcell G ρ σ1 h = zcell G ρ σ h := by
  simp only [zcell, zobj, zfld, h1, h2, h3]
theorem zws_set {G : zG} {ρ : Nat → Nat} {σ σ1 : zMem} {h : Nat} {c : va_E} (e : zn σ1 = zn σ) (ho : ∀ i, i ≠ h → zcell G ρ σ1 i = zcell G ρ σ i) (hh : zcell G ρ σ1 h = c) : (zws G ρ σ).set h (ρ h, c) = zws G ρ σ1 := by
  apply List.ext_getElem?
  intro i
  rw [List.getElem?_set]
  by_cases hi : h = i
  · subst hi
    rw [if_pos rfl]
    by_cases hl : h < zn σ
    · rw [if_pos (by rw [zws_len]; exact hl), zws_get (by rw [e]; exact hl), hh]
    · rw [if_neg (by rw [zws_len]; exact hl), zws_none (by rw [e]; exact hl)]
  · rw [if_neg hi]
    by_cases hl : i < zn σ
    · rw [zws_get hl, zws_get (by rw [e]; exact hl), ho i (fun q => hi q.symm)]
    · rw [zws_none hl, zws_none (by rw [e]; exact hl)]
theorem zobj_get {ρ : Nat → Nat} {σ : zMem} {h ci k : Nat} (hk : k < ((zfcs[ci]?).getD []).length) : (zobj ρ σ h ci)[k]? = some (zfld ρ σ h (zfc ci k) k) := by
  unfold zobj
  rw [List.getElem?_map, List.getElem?_range hk]
  rfl
theorem zobj_none {ρ : Nat → Nat} {σ : zMem} {h ci k : Nat} (hk : ¬ k < ((zfcs[ci]?).getD []).length) : (zobj ρ σ h ci)[k]? = none := by
  unfold zobj
  rw [List.getElem?_eq_none]
  simp
  omega
theorem zobj_len {ρ : Nat → Nat} {σ : zMem} {h ci : Nat} : (zobj ρ σ h ci).length = ((zfcs[ci]?).getD []).length := by simp [zobj]
theorem zfld_i {ρ : Nat → Nat} {σ : zMem} {h c k : Nat} (h1 : c ≠ 1) (h2 : c ≠ 2) : zfld ρ σ h c k = .int (Int32.ofInt (zia σ h k)) := by
  unfold zfld
  split
  · exact absurd rfl h1
  · exact absurd rfl h2
  · rfl
theorem zobj_set {ρ : Nat → Nat} {σ σ1 : zMem} {h ci k : Nat} {v : Value} (ho : ∀ i : Nat, i ≠ k → ∀ c, zfld ρ σ1 h c i = zfld ρ σ h c i) (hk : zfld ρ σ1 h (zfc ci k) k = v) : (zobj ρ σ h ci).set k v = zobj ρ σ1 h ci := by
  apply List.ext_getElem?
  intro i
  rw [List.getElem?_set]
  by_cases hi : k = i
  · subst hi
    rw [if_pos rfl]
    by_cases hl : k < ((zfcs[ci]?).getD []).length
    · rw [if_pos (by rw [zobj_len]; exact hl), zobj_get hl, hk]
    · rw [if_neg (by rw [zobj_len]; exact hl), zobj_none hl]
  · rw [if_neg hi]
    by_cases hl : i < ((zfcs[ci]?).getD []).length
    · rw [zobj_get hl, zobj_get hl, ho i (fun q => hi q.symm)]
    · rw [zobj_none hl, zobj_none hl]
def zfk (t : FieldType) (c : Nat) : Bool := match t, c with
  | .int, 0 => true
  | .long, 1 => true
  | .object _, 2 => true
  | .array _, 2 => true
  | .boolean, 3 => true
  | .byte, 4 => true
  | _, _ => false
def zCl (ci : Nat) (C : String) (T : u_T) (N : Nat) (ty : Nat → FieldType) : Prop :=
  zcl[ci]? = some (C, T, N) ∧ ((zfcs[ci]?).getD []).length = N ∧ (∀ w ∈ u_ws C T N, w ∈ lw_all) ∧ (∀ k, k < N → parseFieldDescriptor (T k).2.2.1 = some (ty k)) ∧ (∀ k, k < N → zfk (ty k) (zfc ci k) = true) ∧ ∀ a, a < N → ∀ b, b < N → a ≠ b → (T a).2.1 ≠ (T b).2.1
def zFL (own : String) (idx ci k c : Nat) : Prop := ∃ C T N ty, zCl ci C T N ty ∧ k < N ∧ zfc ci k = c ∧ Cond.fieldLink own idx (T k).1 (T k).2.1 (T k).2.2.1 ∈ lw_all
def zFP (y : MethodName) (idx ci k c : Nat) : Prop := ∃ C T N ty, zCl ci C T N ty ∧ k < N ∧ zfc ci k = c ∧ Cond.fieldLink y.cls idx (T k).1 (T k).2.1 (T k).2.2.1 ∈ lw_all ∧ ((T k).2.2.2 = false ∨ ((T k).2.2.2 = true ∧ y.name = "<init>" ∧ (T k).1 = y.cls))
theorem zfk0 {t : FieldType} (h : zfk t 0 = true) : t = .int := by
  cases t <;> simp [zfk] at h ⊢
theorem zfk3 {t : FieldType} (h : zfk t 3 = true) : t = .boolean := by
  cases t <;> simp [zfk] at h ⊢
theorem zfk2 {t : FieldType} (h : zfk t 2 = true) (r : Option Nat) : narrow t (va_rf r) = va_rf r ∧ fits t (va_rf r) = true := by
  cases t <;> simp [zfk] at h <;> cases r <;> exact ⟨rfl, rfl⟩
theorem zfkI {t : FieldType} {c : Nat} {z : Int} (h : zfk t c = true) (hc : c = 0 ∨ (c = 3 ∧ (z = 0 ∨ z = 1))) : narrow t (.int (Int32.ofInt z)) = .int (Int32.ofInt z) ∧ fits t (.int (Int32.ofInt z)) = true := by
  rcases hc with e | ⟨e, f | f⟩
  · subst e
    rw [zfk0 h]
    exact ⟨rfl, rfl⟩
  · subst e
    subst f
    rw [zfk3 h]
    exact ⟨by decide, by decide⟩
  · subst e
    subst f
    rw [zfk3 h]
    exact ⟨by decide, by decide⟩
theorem zcx_K {G : zG} {M : zMeth} {d : Nat} {p : Program} {R : Room} {s : State} {m : MethodId} {args : Array Value} {meth : Method} {c : Code} (hC : zCx G M d p R s m args meth c) : va_K G.2.1 zcl (ztys G) s := hC.2.2.2.2.2.2.2.2.2.2.2.2.2.1
theorem zOK_si {σ : zMem} {h : Nat} {j v : Int} (hk : zOK σ) : zOK (zsi σ h j v) := hk
theorem zOK_sr {σ : zMem} {h : Nat} {j : Int} {r : Option Nat} (hk : zOK σ) (hr : zwf (zn σ) r) : zOK (zsr σ h j r) := by
  refine ⟨hk.1, fun h' j' => ?_, hk.2.2⟩
  rw [zra_sr]
  split
  · exact hr
  · exact hk.2.1 h' j'
variable {G : zG} {M : zMeth} {d pc : Nat} {ls : List (Nat × zV)} {st : List zV} {σ : zMem} {Q : zRes → zMem → Prop}
theorem zF_getI (pc' : Nat) {idx ci k c h : Nat} {z : Int} (hd : decode M.2.1 pc = .ok (.getfield idx, 3)) (hp : pc + 3 = pc') (hf : zFL M.1.cls idx ci k c) (h1 : c ≠ 1) (h2 : c ≠ 2) (hk : zkd σ h = (0, ci)) (hn : h < zn σ) (hz : zia σ h k = z) (kk : zF G M d pc' ls (zI z :: st) σ Q) : zF G M d pc ls (zR h :: st) σ Q := by
  subst hp
  subst hz
  refine zF_step rfl rfl rfl ?_ kk
  intro ρ p e R s m args below meth c0 hC H locs cells slots lsA Qm hS hR1 hR2 kk
  obtain ⟨C, T, N, ty, ⟨hcl, hlen, hws, hty, hfk, hnm⟩, hkN, hcd, hl⟩ := hf
  have q := kk H locs lsA hS
  simp only [List.map_cons, ztr, Option.map, va_rf] at q ⊢
  refine va_get hC.1 hC.2.1 hC.2.2.2.2.1 hws hC.2.2.2.1 (zcx_K hC) hS.1.1 h (by rw [zws_get hn, zcell_o hk]) hcl k hkN (hC.2.2.2.2.1 _ hl) (fun _ x => x) ?_ hd q
  rw [zobj_get (by rw [hlen]; exact hkN), hcd, zfld_i h1 h2]
theorem zF_getR (pc' : Nat) {idx ci k h : Nat} {r : Option Nat} (hd : decode M.2.1 pc = .ok (.getfield idx, 3)) (hp : pc + 3 = pc') (hf : zFL M.1.cls idx ci k 2) (hk : zkd σ h = (0, ci)) (hn : h < zn σ) (hz : zra σ h k = r) (kk : zF G M d pc' ls (zO r :: st) σ Q) : zF G M d pc ls (zR h :: st) σ Q := by
  subst hp
  subst hz
  refine zF_step rfl rfl rfl ?_ kk
  intro ρ p e R s m args below meth c0 hC H locs cells slots lsA Qm hS hR1 hR2 kk
  obtain ⟨C, T, N, ty, ⟨hcl, hlen, hws, hty, hfk, hnm⟩, hkN, hcd, hl⟩ := hf
  have q := kk H locs lsA hS
  simp only [List.map_cons, ztr] at q ⊢
  refine va_get hC.1 hC.2.1 hC.2.2.2.2.1 hws hC.2.2.2.1 (zcx_K hC) hS.1.1 h (by rw [zws_get hn, zcell_o hk]) hcl k hkN (hC.2.2.2.2.1 _ hl) (fun _ x => x) ?_ hd q
  rw [zobj_get (by rw [hlen]; exact hkN), hcd]
  rfl
theorem zput {G : zG} {ρ : Nat → Nat} {p : Program} {e : Env} {R : Room} {s : State} {m : MethodId} {args : Array Value} {below : List Frame} {meth : Method} {c0 : Code} {σ1 : zMem} {v : Value} {rest : List Value} {H : Heap} {locs : List Loc} {cells slots : Nat} {lsA : Array Slot} {Qm : State → Prop} {idx ci k c h : Nat}
    (hd : decode M.2.1 pc = .ok (.putfield idx, 3)) (hf : zFP M.1 idx ci k c) (hk : zkd σ h = (0, ci)) (hn : h < zn σ) (hC : zCx G M d p R s m args meth c0) (hS : zSt G M ρ σ ls s H locs lsA)
    (hv : ∀ t, zfk t c = true → narrow t v = v ∧ fits t v = true) (e1 : (zws G ρ σ).set h (ρ h, .inr (ci, (zobj ρ σ h ci).set k v)) = zws G ρ σ1) (hok : zOK σ1)
    (kk : ∀ (H1 : Heap) (locs1 : List Loc), zSt G M ρ σ1 ls s H1 locs1 lsA → W p G.1 e R s m args below meth c0 H1 locs1 cells slots Qm (F0 m (pc + 3) lsA rest)) :
    W p G.1 e R s m args below meth c0 H locs cells slots Qm (F0 m pc lsA (v :: .ref (ρ h) :: rest)) := by
  obtain ⟨C, T, N, ty, ⟨hcl, hlen, hws, hty, hfk, hnm⟩, hkN, hcd, hl, hfin⟩ := hf
  have hvk := hv (ty k) (by rw [← hcd]; exact hfk k hkN)
  have hkl : k < (zobj ρ σ h ci).length := by rw [zobj_len, hlen]; exact hkN
  have hgo : ∀ (H1 : Heap) (locs1 : List Loc), va_P G.2.1 zcl ((zws G ρ σ).set h (ρ h, .inr (ci, (zobj ρ σ h ci).set k v))) H1 → va_D (zA G) ((zws G ρ σ).set h (ρ h, .inr (ci, (zobj ρ σ h ci).set k v))) → va_S (zA G) s.heap H1 locs1 → W p G.1 e R s m args below meth c0 H1 locs1 cells slots Qm (F0 m (pc + 3) lsA rest) := by
    intro H1 locs1 p1 p2 p3
    rw [e1] at p1 p2
    exact kk H1 locs1 ⟨⟨p1, p2, hok, hS.1.2.2.2⟩, p3, hS.2.2⟩
  rcases hfin with hf0 | ⟨hf1, hi, hdcl⟩
  · exact va_put hC.1 hC.2.1 hC.2.2.2.2.1 hws ty hty hnm hC.2.2.2.1 (zcx_K hC) hS.1.1 hS.1.2.1 hS.2.1 h (by rw [zws_get hn, zcell_o hk]) hcl k hkN (hC.2.2.2.2.1 _ hl) (fun _ x => x) hf0 (hty k hkN) hvk.1 hvk.2 hkl hd hgo
  · exact va_putF hC.1 hC.2.1 hC.2.2.2.2.1 hws ty hty hnm hC.2.2.2.1 (zcx_K hC) hS.1.1 hS.1.2.1 hS.2.1 h (by rw [zws_get hn, zcell_o hk]) hcl k hkN (hC.2.2.2.2.1 _ hl) (fun _ x => x) hf1 (hC.2.2.2.2.2.2.2.1.trans hi) hdcl (hty k hkN) hvk.1 hvk.2 hkl hd hgo
theorem zws_si {ρ : Nat → Nat} {h ci k c : Nat} {z : Int} (hk : zkd σ h = (0, ci)) (hc : zfc ci k = c) (h1 : c ≠ 1) (h2 : c ≠ 2) : (zws G ρ σ).set h (ρ h, .inr (ci, (zobj ρ σ h ci).set k (.int (Int32.ofInt z)))) = zws G ρ (zsi σ h k z) := by
  refine zws_set rfl (fun i hi => zcell_congr rfl (fun j => ?_) (fun j => rfl)) ?_
  · rw [zia_si, if_neg (fun q => hi q.1)]
  · rw [zcell_o (by rw [zkd_si]; exact hk)]
    congr 2
    refine (zobj_set (fun i hi c => ?_) ?_).symm
    · unfold zfld
      rw [zia_si, zra_si, if_neg (fun q => hi (by have := q.2; omega))]
    · rw [hc, zfld_i h1 h2, zia_si, if_pos ⟨rfl, rfl⟩]
theorem zws_sr {ρ : Nat → Nat} {h ci k : Nat} {r : Option Nat} (hk : zkd σ h = (0, ci)) (hc : zfc ci k = 2) : (zws G ρ σ).set h (ρ h, .inr (ci, (zobj ρ σ h ci).set k (va_rf (r.map ρ)))) = zws G ρ (zsr σ h k r) := by
  refine zws_set rfl (fun i hi => zcell_congr rfl (fun j => rfl) (fun j => ?_)) ?_
  · rw [zra_sr, if_neg (fun q => hi q.1)]
  · rw [zcell_o (by rw [zkd_sr]; exact hk)]
    congr 2
    refine (zobj_set (fun i hi c => ?_) ?_).symm
    · unfold zfld
      rw [zia_sr, zra_sr, if_neg (fun q => hi (by have := q.2; omega))]
    · rw [hc]
      unfold zfld
      rw [zra_sr, if_pos ⟨rfl, rfl⟩]
      rfl
theorem zF_putI (pc' : Nat) {idx ci k c h : Nat} {z : Int} (hd : decode M.2.1 pc = .ok (.putfield idx, 3)) (hp : pc + 3 = pc') (hf : zFP M.1 idx ci k c) (hc : c = 0 ∨ (c = 3 ∧ (z = 0 ∨ z = 1))) (hk : zkd σ h = (0, ci)) (hn : h < zn σ) (kk : zF G M d pc' ls st (zsi σ h k z) Q) : zF G M d pc ls (zI z :: zR h :: st) σ Q := by
  subst hp
  refine zF_step (σ1 := zsi σ h k z) rfl rfl rfl ?_ kk
  intro ρ p e R s m args below meth c0 hC H locs cells slots lsA Qm hS hR1 hR2 kk
  simp only [List.map_cons, ztr, Option.map, va_rf]
  have hf2 := hf
  obtain ⟨_, _, _, _, _, _, hcd, _⟩ := hf2
  refine zput hd hf hk hn hC hS (fun t ht => zfkI ht hc) (zws_si hk hcd (by omega) (by omega)) (zOK_si hS.1.2.2.1) fun H1 locs1 h1 => kk H1 locs1 lsA h1
theorem zF_putR (pc' : Nat) {idx ci k h : Nat} {r : Option Nat} (hd : decode M.2.1 pc = .ok (.putfield idx, 3)) (hp : pc + 3 = pc') (hf : zFP M.1 idx ci k 2) (hr : zwf (zn σ) r) (hk : zkd σ h = (0, ci)) (hn : h < zn σ) (kk : zF G M d pc' ls st (zsr σ h k r) Q) : zF G M d pc ls (zO r :: zR h :: st) σ Q := by
  subst hp
  refine zF_step (σ1 := zsr σ h k r) rfl rfl rfl ?_ kk
  intro ρ p e R s m args below meth c0 hC H locs cells slots lsA Qm hS hR1 hR2 kk
  simp only [List.map_cons, ztr]
  have hf2 := hf
  obtain ⟨_, _, _, _, _, _, hcd, _⟩ := hf2
  exact zput hd hf hk hn hC hS (fun t ht => zfk2 ht _) (zws_sr hk hcd) (zOK_sr hS.1.2.2.1 hr) fun H1 locs1 h1 => kk H1 locs1 lsA h1
theorem zidx {i : Int} (h : 0 ≤ i) : ((i.toNat : Nat) : Int) = i := Int.toNat_of_nonneg h
theorem zF_iaload (pc' : Nat) {h n : Nat} {i z : Int} (hd : decode M.2.1 pc = .ok (.iaload, 1)) (hp : pc + 1 = pc') (hk : zkd σ h = (1, n)) (hn : h < zn σ) (h0 : 0 ≤ i) (h1 : i < n) (hz : zia σ h i = z) (kk : zF G M d pc' ls (zI z :: st) σ Q) : zF G M d pc ls (zI i :: zR h :: st) σ Q := by
  subst hp
  subst hz
  refine zF_step rfl rfl rfl ?_ kk
  intro ρ p e R s m args below meth c0 hC H locs cells slots lsA Qm hS hR1 hR2 kk
  have q := kk H locs lsA hS
  have hb : n < 2147483648 := by have := hS.1.2.2.1.2.2 h; rw [hk] at this; exact this
  simp only [List.map_cons, ztr, Option.map, va_rf] at q ⊢
  refine va_iald hC.1 hC.2.1 (zcx_K hC) hS.1.1 h 0 (by rw [zws_get hn, zcell_1 hk]) rfl (zin h0 h1 hb) hd ?_
  rw [zcl0 i h0 (by omega), zidx h0]
  exact q
theorem zF_baload (pc' : Nat) {h n : Nat} {i z : Int} (hd : decode M.2.1 pc = .ok (.baload, 1)) (hp : pc + 1 = pc') (hk : zkd σ h = (2, n)) (hn : h < zn σ) (h0 : 0 ≤ i) (h1 : i < n) (hz : zia σ h i = z) (kk : zF G M d pc' ls (zI z :: st) σ Q) : zF G M d pc ls (zI i :: zR h :: st) σ Q := by
  subst hp
  subst hz
  refine zF_step rfl rfl rfl ?_ kk
  intro ρ p e R s m args below meth c0 hC H locs cells slots lsA Qm hS hR1 hR2 kk
  have q := kk H locs lsA hS
  have hb : n < 2147483648 := by have := hS.1.2.2.1.2.2 h; rw [hk] at this; exact this
  simp only [List.map_cons, ztr, Option.map, va_rf] at q ⊢
  refine va_bald hC.1 hC.2.1 (zcx_K hC) hS.1.1 h 1 (by rw [zws_get hn, zcell_2 hk]) rfl (zin h0 h1 hb) hd ?_
  rw [zcl0 i h0 (by omega), zidx h0]
  exact q
theorem zF_zaload (pc' : Nat) {h n : Nat} {i z : Int} (hd : decode M.2.1 pc = .ok (.baload, 1)) (hp : pc + 1 = pc') (hk : zkd σ h = (3, n)) (hn : h < zn σ) (h0 : 0 ≤ i) (h1 : i < n) (hz : zia σ h i = z) (kk : zF G M d pc' ls (zI z :: st) σ Q) : zF G M d pc ls (zI i :: zR h :: st) σ Q := by
  subst hp
  subst hz
  refine zF_step rfl rfl rfl ?_ kk
  intro ρ p e R s m args below meth c0 hC H locs cells slots lsA Qm hS hR1 hR2 kk
  have q := kk H locs lsA hS
  have hb : n < 2147483648 := by have := hS.1.2.2.1.2.2 h; rw [hk] at this; exact this
  simp only [List.map_cons, ztr, Option.map, va_rf] at q ⊢
  refine va_zald hC.1 hC.2.1 (zcx_K hC) hS.1.1 h 2 (by rw [zws_get hn, zcell_3 hk]) rfl (zin h0 h1 hb) hd ?_
  rw [zcl0 i h0 (by omega), zidx h0]
  exact q
theorem zF_laload (pc' : Nat) {h n : Nat} {i z : Int} (hd : decode M.2.1 pc = .ok (.laload, 1)) (hp : pc + 1 = pc') (hk : zkd σ h = (4, n)) (hn : h < zn σ) (h0 : 0 ≤ i) (h1 : i < n) (hz : zia σ h i = z) (kk : zF G M d pc' ls (zL z :: st) σ Q) : zF G M d pc ls (zI i :: zR h :: st) σ Q := by
  subst hp
  subst hz
  refine zF_step rfl rfl rfl ?_ kk
  intro ρ p e R s m args below meth c0 hC H locs cells slots lsA Qm hS hR1 hR2 kk
  have q := kk H locs lsA hS
  have hb : n < 2147483648 := by have := hS.1.2.2.1.2.2 h; rw [hk] at this; exact this
  simp only [List.map_cons, ztr, Option.map, va_rf] at q ⊢
  refine va_lald hC.1 hC.2.1 (zcx_K hC) hS.1.1 h 3 (by rw [zws_get hn, zcell_4 hk]) rfl (zin h0 h1 hb) hd ?_
  rw [zcl0 i h0 (by omega), zidx h0]
  exact q
theorem zF_aaload (pc' : Nat) {h n t : Nat} {i : Int} {r : Option Nat} (hd : decode M.2.1 pc = .ok (.aaload, 1)) (hp : pc + 1 = pc') (ht : t = 5 ∨ t = 7) (hk : zkd σ h = (t, n)) (hn : h < zn σ) (h0 : 0 ≤ i) (h1 : i < n) (hz : zra σ h i = r) (kk : zF G M d pc' ls (zO r :: st) σ Q) : zF G M d pc ls (zI i :: zR h :: st) σ Q := by
  subst hp
  subst hz
  refine zF_step rfl rfl rfl ?_ kk
  intro ρ p e R s m args below meth c0 hC H locs cells slots lsA Qm hS hR1 hR2 kk
  have q := kk H locs lsA hS
  have hb : n < 2147483648 := by have := hS.1.2.2.1.2.2 h; rw [hk] at this; exact this
  simp only [List.map_cons, ztr, Option.map, va_rf] at q ⊢
  rcases ht with e1 | e1
  · subst e1
    refine va_aldq hC.1 hC.2.1 (zcx_K hC) hS.1.1 h 4 (by rw [zws_get hn, zcell_5 hk]) rfl (zin h0 h1 hb) hd ?_
    rw [zcl0 i h0 (by omega), zidx h0]
    exact q
  · subst e1
    refine va_aldq hC.1 hC.2.1 (zcx_K hC) hS.1.1 h 6 (by rw [zws_get hn, zcell_7 hk]) rfl (zin h0 h1 hb) hd ?_
    rw [zcl0 i h0 (by omega), zidx h0]
    exact q
theorem zupd {f : Int → Int} {i z : Int} (h0 : 0 ≤ i) : (upd (fun j : Nat => Int32.ofInt (f j)) i.toNat (Int32.ofInt z)) = fun j : Nat => Int32.ofInt (if (j : Int) = i then z else f j) := by
  funext j
  unfold upd
  by_cases e : j = i.toNat
  · rw [if_pos e, if_pos (by omega)]
  · rw [if_neg e, if_neg (by omega)]
theorem zupdL {f : Int → Int} {i z : Int} (h0 : 0 ≤ i) : (vp_updL (fun j : Nat => Int64.ofInt (f j)) i.toNat (Int64.ofInt z)) = fun j : Nat => Int64.ofInt (if (j : Int) = i then z else f j) := by
  funext j
  unfold vp_updL
  by_cases e : j = i.toNat
  · rw [if_pos e, if_pos (by omega)]
  · rw [if_neg e, if_neg (by omega)]
theorem zsi_o {ρ : Nat → Nat} {h : Nat} {j v : Int} (i : Nat) (hi : i ≠ h) : zcell G ρ (zsi σ h j v) i = zcell G ρ σ i := by
  refine zcell_congr rfl (fun j => ?_) (fun j => rfl)
  rw [zia_si, if_neg (fun q => hi q.1)]
theorem zsr_o {ρ : Nat → Nat} {h : Nat} {j : Int} {v : Option Nat} (i : Nat) (hi : i ≠ h) : zcell G ρ (zsr σ h j v) i = zcell G ρ σ i := by
  refine zcell_congr rfl (fun j => rfl) (fun j => ?_)
  rw [zra_sr, if_neg (fun q => hi q.1)]
theorem zia_s1 {h : Nat} {i z : Int} : (fun j : Nat => Int32.ofInt (zia (zsi σ h i z) h j)) = fun j : Nat => Int32.ofInt (if (j : Int) = i then z else zia σ h j) := by
  funext j
  rw [zia_si]
  by_cases e : (j : Int) = i
  · rw [if_pos ⟨rfl, e⟩, if_pos e]
  · rw [if_neg (fun q => e q.2), if_neg e]
theorem zia_s1L {h : Nat} {i z : Int} : (fun j : Nat => Int64.ofInt (zia (zsi σ h i z) h j)) = fun j : Nat => Int64.ofInt (if (j : Int) = i then z else zia σ h j) := by
  funext j
  rw [zia_si]
  by_cases e : (j : Int) = i
  · rw [if_pos ⟨rfl, e⟩, if_pos e]
  · rw [if_neg (fun q => e q.2), if_neg e]
theorem zF_iastore (pc' : Nat) {h n : Nat} {i z : Int} (hd : decode M.2.1 pc = .ok (.iastore, 1)) (hp : pc + 1 = pc') (hk : zkd σ h = (1, n)) (hn : h < zn σ) (h0 : 0 ≤ i) (h1 : i < n) (kk : zF G M d pc' ls st (zsi σ h i z) Q) : zF G M d pc ls (zI z :: zI i :: zR h :: st) σ Q := by
  subst hp
  refine zF_step (σ1 := zsi σ h i z) rfl rfl rfl ?_ kk
  intro ρ p e R s m args below meth c0 hC H locs cells slots lsA Qm hS hR1 hR2 kk
  have hb : n < 2147483648 := by have := hS.1.2.2.1.2.2 h; rw [hk] at this; exact this
  simp only [List.map_cons, ztr, Option.map, va_rf]
  have e0 : (Int32.ofInt i).toNatClampNeg = i.toNat := zcl0 i h0 (by omega)
  have e1 : (zws G ρ σ).set h (ρ h, .inl (G.2.2.1 1, n, .inl (upd (fun j : Nat => Int32.ofInt (zia σ h j)) (Int32.ofInt i).toNatClampNeg (Int32.ofInt z)))) = zws G ρ (zsi σ h i z) := by
    refine zws_set rfl zsi_o ?_
    rw [zcell_1 (by rw [zkd_si]; exact hk), e0, zupd h0, zia_s1]
  refine va_iast hC.1 hC.2.1 (zcx_K hC) hS.1.1 hS.1.2.1 hS.2.1 h 0 (by rw [zws_get hn, zcell_1 hk]) rfl (zin h0 h1 hb) hd fun H1 locs1 p1 p2 p3 => ?_
  rw [e1] at p1 p2
  exact kk H1 locs1 lsA ⟨⟨p1, p2, zOK_si hS.1.2.2.1, hS.1.2.2.2⟩, p3, hS.2.2⟩
theorem znar_b {z : Int} (h : -128 ≤ z ∧ z < 128) : vp_nar .byte (Int32.ofInt z) = Int32.ofInt z := by
  show (Int32.ofInt z).toInt8.toInt32 = _
  apply Int32.toInt_inj.mp
  rw [Int8.toInt_toInt32, Int32.toInt_toInt8, zti ⟨by omega, by omega⟩]
  exact Int.bmod_eq_of_le (by omega) (by omega)
theorem znar_z {z : Int} (h : z = 0 ∨ z = 1) : vp_nar .boolean (Int32.ofInt z) = Int32.ofInt z := by
  rcases h with e | e
  · subst e; decide
  · subst e; decide
theorem zF_bastore (pc' : Nat) {h n : Nat} {i z : Int} (hd : decode M.2.1 pc = .ok (.bastore, 1)) (hp : pc + 1 = pc') (hk : zkd σ h = (2, n)) (hn : h < zn σ) (h0 : 0 ≤ i) (h1 : i < n) (hz : -128 ≤ z ∧ z < 128) (kk : zF G M d pc' ls st (zsi σ h i z) Q) : zF G M d pc ls (zI z :: zI i :: zR h :: st) σ Q := by
  subst hp
  refine zF_step (σ1 := zsi σ h i z) rfl rfl rfl ?_ kk
  intro ρ p e R s m args below meth c0 hC H locs cells slots lsA Qm hS hR1 hR2 kk
  have hb : n < 2147483648 := by have := hS.1.2.2.1.2.2 h; rw [hk] at this; exact this
  simp only [List.map_cons, ztr, Option.map, va_rf]
  have e0 : (Int32.ofInt i).toNatClampNeg = i.toNat := zcl0 i h0 (by omega)
  have e1 : (zws G ρ σ).set h (ρ h, .inl (G.2.2.1 2, n, .inl (upd (fun j : Nat => Int32.ofInt (zia σ h j)) (Int32.ofInt i).toNatClampNeg (vp_nar .byte (Int32.ofInt z))))) = zws G ρ (zsi σ h i z) := by
    refine zws_set rfl zsi_o ?_
    rw [zcell_2 (by rw [zkd_si]; exact hk), e0, znar_b hz, zupd h0, zia_s1]
  refine va_bast hC.1 hC.2.1 (zcx_K hC) hS.1.1 hS.1.2.1 hS.2.1 h 1 (by rw [zws_get hn, zcell_2 hk]) rfl (zin h0 h1 hb) hd fun H1 locs1 p1 p2 p3 => ?_
  rw [e1] at p1 p2
  exact kk H1 locs1 lsA ⟨⟨p1, p2, zOK_si hS.1.2.2.1, hS.1.2.2.2⟩, p3, hS.2.2⟩
theorem zF_zastore (pc' : Nat) {h n : Nat} {i z : Int} (hd : decode M.2.1 pc = .ok (.bastore, 1)) (hp : pc + 1 = pc') (hk : zkd σ h = (3, n)) (hn : h < zn σ) (h0 : 0 ≤ i) (h1 : i < n) (hz : z = 0 ∨ z = 1) (kk : zF G M d pc' ls st (zsi σ h i z) Q) : zF G M d pc ls (zI z :: zI i :: zR h :: st) σ Q := by
  subst hp
  refine zF_step (σ1 := zsi σ h i z) rfl rfl rfl ?_ kk
  intro ρ p e R s m args below meth c0 hC H locs cells slots lsA Qm hS hR1 hR2 kk
  have hb : n < 2147483648 := by have := hS.1.2.2.1.2.2 h; rw [hk] at this; exact this
  simp only [List.map_cons, ztr, Option.map, va_rf]
  have e0 : (Int32.ofInt i).toNatClampNeg = i.toNat := zcl0 i h0 (by omega)
  have e1 : (zws G ρ σ).set h (ρ h, .inl (G.2.2.1 3, n, .inl (upd (fun j : Nat => Int32.ofInt (zia σ h j)) (Int32.ofInt i).toNatClampNeg (vp_nar .boolean (Int32.ofInt z))))) = zws G ρ (zsi σ h i z) := by
    refine zws_set rfl zsi_o ?_
    rw [zcell_3 (by rw [zkd_si]; exact hk), e0, znar_z hz, zupd h0, zia_s1]
  refine va_zast hC.1 hC.2.1 (zcx_K hC) hS.1.1 hS.1.2.1 hS.2.1 h 2 (by rw [zws_get hn, zcell_3 hk]) rfl (zin h0 h1 hb) hd fun H1 locs1 p1 p2 p3 => ?_
  rw [e1] at p1 p2
  exact kk H1 locs1 lsA ⟨⟨p1, p2, zOK_si hS.1.2.2.1, hS.1.2.2.2⟩, p3, hS.2.2⟩
theorem zF_lastore (pc' : Nat) {h n : Nat} {i z : Int} (hd : decode M.2.1 pc = .ok (.lastore, 1)) (hp : pc + 1 = pc') (hk : zkd σ h = (4, n)) (hn : h < zn σ) (h0 : 0 ≤ i) (h1 : i < n) (kk : zF G M d pc' ls st (zsi σ h i z) Q) : zF G M d pc ls (zL z :: zI i :: zR h :: st) σ Q := by
  subst hp
  refine zF_step (σ1 := zsi σ h i z) rfl rfl rfl ?_ kk
  intro ρ p e R s m args below meth c0 hC H locs cells slots lsA Qm hS hR1 hR2 kk
  have hb : n < 2147483648 := by have := hS.1.2.2.1.2.2 h; rw [hk] at this; exact this
  simp only [List.map_cons, ztr, Option.map, va_rf]
  have e0 : (Int32.ofInt i).toNatClampNeg = i.toNat := zcl0 i h0 (by omega)
  have e1 : (zws G ρ σ).set h (ρ h, .inl (G.2.2.1 4, n, .inr (.inl (vp_updL (fun j : Nat => Int64.ofInt (zia σ h j)) (Int32.ofInt i).toNatClampNeg (Int64.ofInt z))))) = zws G ρ (zsi σ h i z) := by
    refine zws_set rfl zsi_o ?_
    rw [zcell_4 (by rw [zkd_si]; exact hk), e0, zupdL h0, zia_s1L]
  refine va_last hC.1 hC.2.1 (zcx_K hC) hS.1.1 hS.1.2.1 hS.2.1 h 3 (by rw [zws_get hn, zcell_4 hk]) rfl (zin h0 h1 hb) hd fun H1 locs1 p1 p2 p3 => ?_
  rw [e1] at p1 p2
  exact kk H1 locs1 lsA ⟨⟨p1, p2, zOK_si hS.1.2.2.1, hS.1.2.2.2⟩, p3, hS.2.2⟩
theorem zF_alen (pc' : Nat) {h n t : Nat} (hd : decode M.2.1 pc = .ok (.arraylength, 1)) (hp : pc + 1 = pc') (ht : 1 ≤ t ∧ t ≤ 7) (hk : zkd σ h = (t, n)) (hn : h < zn σ) (kk : zF G M d pc' ls (zI n :: st) σ Q) : zF G M d pc ls (zR h :: st) σ Q := by
  subst hp
  refine zF_step rfl rfl rfl ?_ kk
  intro ρ p e R s m args below meth c0 hC H locs cells slots lsA Qm hS hR1 hR2 kk
  have q := kk H locs lsA hS
  simp only [List.map_cons, ztr, Option.map, va_rf] at q ⊢
  have e2 : Int32.ofNat n = Int32.ofInt (n : Int) := (Int32.ofInt_eq_ofNat).symm
  have h7 : t = 1 ∨ t = 2 ∨ t = 3 ∨ t = 4 ∨ t = 5 ∨ t = 6 ∨ t = 7 := by omega
  rcases h7 with e1 | e1 | e1 | e1 | e1 | e1 | e1
  · subst e1; exact va_alen hC.1 hC.2.1 (zcx_K hC) hS.1.1 h 0 (by rw [zws_get hn, zcell_1 hk]) rfl e2 hd q
  · subst e1; exact va_alen hC.1 hC.2.1 (zcx_K hC) hS.1.1 h 1 (by rw [zws_get hn, zcell_2 hk]) rfl e2 hd q
  · subst e1; exact va_alen hC.1 hC.2.1 (zcx_K hC) hS.1.1 h 2 (by rw [zws_get hn, zcell_3 hk]) rfl e2 hd q
  · subst e1; exact va_alen hC.1 hC.2.1 (zcx_K hC) hS.1.1 h 3 (by rw [zws_get hn, zcell_4 hk]) rfl e2 hd q
  · subst e1; exact va_alen hC.1 hC.2.1 (zcx_K hC) hS.1.1 h 4 (by rw [zws_get hn, zcell_5 hk]) rfl e2 hd q
  · subst e1; exact va_alen hC.1 hC.2.1 (zcx_K hC) hS.1.1 h 5 (by rw [zws_get hn, zcell_6 hk]) rfl e2 hd q
  · subst e1; exact va_alen hC.1 hC.2.1 (zcx_K hC) hS.1.1 h 6 (by rw [zws_get hn, zcell_7 hk]) rfl e2 hd q
end ZH

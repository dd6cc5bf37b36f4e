/-! new things -/
section ZNW
theorem zcell_new {G : zG} {ρ ρ1 : Nat → Nat} {σ : zMem} {k c sz h : Nat} (hok : zOK σ) (hlt : h < zn σ) (hbg : zn σ < zbg) (hρ : ∀ x, x ≠ zn σ → ρ1 x = ρ x) : zcell G ρ1 (znw σ k c sz) h = zcell G ρ σ h := by
  have e0 : ∀ j, zra (znw σ k c sz) h j = zra σ h j := fun j => by rw [zra_nw, if_neg (Nat.ne_of_lt hlt)]
  have e1 : ∀ j, zia (znw σ k c sz) h j = zia σ h j := fun j => by rw [zia_nw, if_neg (Nat.ne_of_lt hlt)]
  have e2 : zkd (znw σ k c sz) h = zkd σ h := by rw [zkd_nw, if_neg (Nat.ne_of_lt hlt)]
  have e3 : ∀ j, (zra σ h j).map ρ1 = (zra σ h j).map ρ := fun j => by
    cases hr : zra σ h j with
    | none => rfl
    | some x =>
      have := hok.2.1 h j x hr
      show some (ρ1 x) = some (ρ x)
      rw [hρ x (by omega)]
  simp only [zcell, zobj, zfld, e0, e1, e2, e3]
theorem zws_new {G : zG} {ρ ρ1 : Nat → Nat} {σ : zMem} {k c sz : Nat} (hok : zOK σ) (hbg : zn σ < zbg) (hρ : ∀ x, x ≠ zn σ → ρ1 x = ρ x) : zws G ρ1 (znw σ k c sz) = zws G ρ σ ++ [(ρ1 (zn σ), zcell G ρ1 (znw σ k c sz) (zn σ))] := by
  unfold zws
  rw [zn_nw, List.range_succ, List.map_append]
  congr 1
  refine List.map_congr_left fun h hh => ?_
  have hlt := List.mem_range.mp hh
  rw [zcell_new hok hlt hbg hρ, hρ h (Nat.ne_of_lt hlt)]
theorem zOK_nw {σ : zMem} {k c sz : Nat} (hok : zOK σ) (hbg : zn σ < zbg) (hc : c < 2147483648) : zOK (znw σ k c sz) := by
  refine ⟨by rw [zn_nw]; omega, fun h j x hx => ?_, fun h => ?_⟩
  · rw [zra_nw] at hx
    split at hx
    · cases hx
    · have := hok.2.1 h j x hx
      rw [zn_nw]
      omega
  · rw [zkd_nw]
    split
    · exact hc
    · exact hok.2.2 h
def zup1 (ρ : Nat → Nat) (n q : Nat) : Nat → Nat := fun x => if x = n then q else ρ x
theorem zup1_at (ρ : Nat → Nat) (n q : Nat) : zup1 ρ n q n = q := if_pos rfl
theorem zup1_ne (ρ : Nat → Nat) (n q : Nat) : ∀ x, x ≠ n → zup1 ρ n q x = ρ x := fun _ h => if_neg h
theorem zup1_ag (ρ : Nat → Nat) (n q : Nat) : zAg n (n + 1) ρ (zup1 ρ n q) := fun k hk => zup1_ne ρ n q k (by omega)
variable {G : zG} {M : zMeth} {d pc : Nat} {ls : List (Nat × zV)} {st : List zV} {σ : zMem} {Q : zRes → zMem → Prop}
theorem zpush {ρ : Nat → Nat} {s : State} {H H1 : Heap} {locs : List Loc} {lsA : Array Slot} {k c sz q : Nat} {e : va_E} (hS : zSt G M ρ σ ls s H locs lsA) (hbg : zn σ < zbg) (hc : c < 2147483648) (hw1 : ∀ q ∈ ls, zwv (zn σ) q.2)
    (he : zcell G (zup1 ρ (zn σ) q) (znw σ k c sz) (zn σ) = e) (p1 : va_P G.2.1 zcl (zws G ρ σ ++ [(q, e)]) H1) (d1 : va_D (zA G) (zws G ρ σ ++ [(q, e)])) (s1 : va_S (zA G) s.heap H1 locs) :
    zSt G M (zup1 ρ (zn σ) q) (znw σ k c sz) ls s H1 locs lsA := by
  have ew : zws G (zup1 ρ (zn σ) q) (znw σ k c sz) = zws G ρ σ ++ [(q, e)] := by
    rw [zws_new hS.1.2.2.1 hbg (zup1_ne ρ (zn σ) q), zup1_at, he]
  refine ⟨⟨by rw [ew]; exact p1, by rw [ew]; exact d1, zOK_nw hS.1.2.2.1 hbg hc, fun i => ?_⟩, s1, ?_⟩
  · rw [zup1_ne _ _ _ _ (by omega), hS.1.2.2.2 i]
  · have : zLs (zup1 ρ (zn σ) q) ls = zLs ρ ls := (zkeepn (σ := σ) (σ1 := znw σ k c sz) (rest := []) hw1 (fun v hv => nomatch hv) ρ (zup1 ρ (zn σ) q) (zup1_ag ρ (zn σ) q) (by rw [zn_nw]; omega)).1
    rw [this]
    exact hS.2.2
/-- a step that makes one thing -/
theorem zF_mk {pc' k c sz : Nat} {st' : List zV} (hbg : zn σ < zbg) (hc : c < 2147483648) (hw1 : ∀ q ∈ ls, zwv (zn σ) q.2) (hw2 : ∀ v ∈ st', zwv (zn σ) v)
    (h : ∀ (ρ : Nat → Nat) (p : Program) (e : Env) (R : Room) (s : State) (m : MethodId) (args : Array Value) (below : List Frame) (meth : Method) (c0 : Code), zCx G M d p R s m args meth c0 →
      ∀ (H : Heap) (locs : List Loc) (cells slots : Nat) (lsA : Array Slot) (Qm : State → Prop), zSt G M ρ σ ls s H locs lsA → cells + 1 ≤ R.cells → slots + sz ≤ R.slots →
        (∀ (q : Nat) (H1 : Heap), va_P G.2.1 zcl (zws G ρ σ ++ [(q, zcell G (zup1 ρ (zn σ) q) (znw σ k c sz) (zn σ))]) H1 → va_D (zA G) (zws G ρ σ ++ [(q, zcell G (zup1 ρ (zn σ) q) (znw σ k c sz) (zn σ))]) → va_S (zA G) s.heap H1 locs → W p G.1 e R s m args below meth c0 H1 locs (cells + 1) (slots + sz) Qm (F0 m pc' lsA (.ref q :: st'.map (ztr ρ)))) →
        W p G.1 e R s m args below meth c0 H locs cells slots Qm (F0 m pc lsA (st.map (ztr ρ))))
    (kk : zF G M d pc' ls (zR (zn σ) :: st') (znw σ k c sz) Q) : zF G M d pc ls st σ Q := by
  obtain ⟨r, σ', hq, hu, hF⟩ := kk
  have u1 := hu.1
  have u2 := hu.2.1
  have u3 := hu.2.2
  rw [zn_nw] at u1
  rw [zcs_nw] at u2
  rw [zss_nw] at u3
  refine ⟨r, σ', hq, ⟨by omega, by omega, by omega⟩, ?_⟩
  intro ρ p e R s m args below meth c0 hC H locs cells slots lsA hS h1 h2
  refine h ρ p e R s m args below meth c0 hC H locs cells slots lsA _ hS (by omega) (by omega) fun q H1 p1 d1 s1 => ?_
  have hS1 := zpush hS hbg hc hw1 rfl p1 d1 s1
  have w := hF (zup1 ρ (zn σ) q) p e R s m args below meth c0 hC H1 locs (cells + 1) (slots + sz) lsA hS1 (by rw [zcs_nw]; omega) (by rw [zss_nw]; omega)
  rw [zn_nw] at w
  have w2 := zQ_mono (zup1_ag ρ (zn σ) q) (by omega) u1 w
  have es : (zR (zn σ) :: st').map (ztr (zup1 ρ (zn σ) q)) = .ref q :: st'.map (ztr ρ) := by
    have := (zkeepn (σ := σ) (σ1 := znw σ k c sz) (ls := []) (fun v hv => nomatch hv) hw2 ρ (zup1 ρ (zn σ) q) (zup1_ag ρ (zn σ) q) (by rw [zn_nw]; omega)).2
    rw [List.map_cons, this]
    show Value.ref (zup1 ρ (zn σ) q (zn σ)) :: _ = _
    rw [zup1_at]
  rw [es] at w2
  exact w2
def zna (a : ArrayType) (k : Nat) : Prop := (newarray.typeOf a = .int ∧ k = 1) ∨ (newarray.typeOf a = .byte ∧ k = 2) ∨ (newarray.typeOf a = .boolean ∧ k = 3) ∨ (newarray.typeOf a = .long ∧ k = 4)
theorem zF_newarray (pc' : Nat) {a : ArrayType} {k : Nat} {n : Int} (hd : decode M.2.1 pc = .ok (.newarray a, 2)) (hp : pc + 2 = pc') (hka : zna a k) (harr : Cond.arrayClass (newarray.typeOf a) ∈ lw_all) (h0 : 0 ≤ n) (h1 : n ≤ 60000) (hbg : zn σ < zbg) (hw1 : ∀ q ∈ ls, zwv (zn σ) q.2) (hw2 : ∀ v ∈ st, zwv (zn σ) v)
    (kk : zF G M d pc' ls (zR (zn σ) :: st) (znw σ k n.toNat n.toNat) Q) : zF G M d pc ls (zI n :: st) σ Q := by
  subst hp
  refine zF_mk hbg (by omega) hw1 hw2 ?_ kk
  intro ρ p e R s m args below meth c0 hC H locs cells slots lsA Qm hS hR1 hR2 k1
  have hts := hC.2.2.2.2.1
  have ho := hC.2.2.2.2.2.2.2.2.2.2.2.1
  have hneg : ¬ Int32.ofInt n < 0 := by rw [z0, zclt ⟨by omega, by omega⟩ zrg0]; omega
  have hN : (Int32.ofInt n).toNatClampNeg = n.toNat := zcl0 n h0 (by omega)
  have hA : ∀ q, s.heap.size ≤ q → zA G q := fun q hq => Nat.le_trans ho.1 hq
  rcases hka with ⟨hty, ek⟩ | ⟨hty, ek⟩ | ⟨hty, ek⟩ | ⟨hty, ek⟩
  · subst ek
    refine va_newa hC.1 hC.2.1 (hts _ harr) hty (zcx_K hC) hS.1.1 hS.1.2.1 hS.2.1 hA (a0 := (n.toNat, .inl fun _ => 0)) (fun cA => rfl) hneg hN (by show n.toNat * 4 ≤ _; omega) hR1 hR2 hd fun q cA H1 hK1 p1 d1 s1 => ?_
    have ec : cA = G.2.2.1 1 := by
      have a1 := ((hK1.2 7 (cA, .int) rfl).2 : s.vm.findClass _ = some cA)
      have a2 := (((zcx_K hC).2 0 (G.2.2.1 1, .int) rfl).2 : s.vm.findClass _ = some (G.2.2.1 1))
      exact Option.some.inj (a1.symm.trans a2)
    have ez : zcell G (zup1 ρ (zn σ) q) (znw σ 1 n.toNat n.toNat) (zn σ) = .inl (cA, n.toNat, .inl fun _ => 0) := by
      rw [zcell_1 (by rw [zkd_nw, if_pos rfl]), ec]
      congr 4
      funext j
      rw [zia_nw, if_pos rfl]
      rfl
    exact k1 q H1 (by rw [ez]; exact p1) (by rw [ez]; exact d1) s1
  · subst ek
    refine va_newa hC.1 hC.2.1 (hts _ harr) hty (zcx_K hC) hS.1.1 hS.1.2.1 hS.2.1 hA (a0 := (n.toNat, .inl fun _ => 0)) (fun cA => rfl) hneg hN (by show n.toNat * 1 ≤ _; omega) hR1 hR2 hd fun q cA H1 hK1 p1 d1 s1 => ?_
    have ec : cA = G.2.2.1 2 := by
      have a1 := ((hK1.2 7 (cA, .byte) rfl).2 : s.vm.findClass _ = some cA)
      have a2 := (((zcx_K hC).2 1 (G.2.2.1 2, .byte) rfl).2 : s.vm.findClass _ = some (G.2.2.1 2))
      exact Option.some.inj (a1.symm.trans a2)
    have ez : zcell G (zup1 ρ (zn σ) q) (znw σ 2 n.toNat n.toNat) (zn σ) = .inl (cA, n.toNat, .inl fun _ => 0) := by
      rw [zcell_2 (by rw [zkd_nw, if_pos rfl]), ec]
      congr 4
      funext j
      rw [zia_nw, if_pos rfl]
      rfl
    exact k1 q H1 (by rw [ez]; exact p1) (by rw [ez]; exact d1) s1
  · subst ek
    refine va_newa hC.1 hC.2.1 (hts _ harr) hty (zcx_K hC) hS.1.1 hS.1.2.1 hS.2.1 hA (a0 := (n.toNat, .inl fun _ => 0)) (fun cA => rfl) hneg hN (by show n.toNat * 1 ≤ _; omega) hR1 hR2 hd fun q cA H1 hK1 p1 d1 s1 => ?_
    have ec : cA = G.2.2.1 3 := by
      have a1 := ((hK1.2 7 (cA, .boolean) rfl).2 : s.vm.findClass _ = some cA)
      have a2 := (((zcx_K hC).2 2 (G.2.2.1 3, .boolean) rfl).2 : s.vm.findClass _ = some (G.2.2.1 3))
      exact Option.some.inj (a1.symm.trans a2)
    have ez : zcell G (zup1 ρ (zn σ) q) (znw σ 3 n.toNat n.toNat) (zn σ) = .inl (cA, n.toNat, .inl fun _ => 0) := by
      rw [zcell_3 (by rw [zkd_nw, if_pos rfl]), ec]
      congr 4
      funext j
      rw [zia_nw, if_pos rfl]
      rfl
    exact k1 q H1 (by rw [ez]; exact p1) (by rw [ez]; exact d1) s1
  · subst ek
    refine va_newa hC.1 hC.2.1 (hts _ harr) hty (zcx_K hC) hS.1.1 hS.1.2.1 hS.2.1 hA (a0 := (n.toNat, .inr (.inl fun _ => 0))) (fun cA => rfl) hneg hN (by show n.toNat * 8 ≤ _; omega) hR1 hR2 hd fun q cA H1 hK1 p1 d1 s1 => ?_
    have ec : cA = G.2.2.1 4 := by
      have a1 := ((hK1.2 7 (cA, .long) rfl).2 : s.vm.findClass _ = some cA)
      have a2 := (((zcx_K hC).2 3 (G.2.2.1 4, .long) rfl).2 : s.vm.findClass _ = some (G.2.2.1 4))
      exact Option.some.inj (a1.symm.trans a2)
    have ez : zcell G (zup1 ρ (zn σ) q) (znw σ 4 n.toNat n.toNat) (zn σ) = .inl (cA, n.toNat, .inr (.inl fun _ => 0)) := by
      rw [zcell_4 (by rw [zkd_nw, if_pos rfl]), ec]
      congr 5
      funext j
      rw [zia_nw, if_pos rfl]
      rfl
    exact k1 q H1 (by rw [ez]; exact p1) (by rw [ez]; exact d1) s1
theorem zfk_cases {t : FieldType} {c : Nat} (h : zfk t c = true) : (t = .int ∧ c = 0) ∨ (t = .long ∧ c = 1) ∨ (((∃ n, t = .object n) ∨ ∃ u, t = .array u) ∧ c = 2) ∨ (t = .boolean ∧ c = 3) ∨ (t = .byte ∧ c = 4) := by
  cases t <;> rcases c with _ | _ | _ | _ | _ | c <;> first | (simp [zfk] at h; done) | simp
theorem zfk_def {t : FieldType} {c : Nat} (hz : zfk t c = true) {ρ : Nat → Nat} {σ : zMem} {h k : Nat} (e1 : zia σ h k = 0) (e2 : zra σ h k = none) : defaultValue t = zfld ρ σ h c k := by
  rcases zfk_cases hz with ⟨a1, a2⟩ | ⟨a1, a2⟩ | ⟨⟨n, a1⟩ | ⟨n, a1⟩, a2⟩ | ⟨a1, a2⟩ | ⟨a1, a2⟩ <;> subst a1 <;> subst a2 <;> unfold zfld <;> rw [e1, e2] <;> rfl
def zNC (own : String) (idx ci : Nat) : Prop := ∃ C T N ty, zCl ci C T N ty ∧ Cond.classLink own idx C ∈ lw_all ∧ Cond.instantiable C N ∈ lw_all ∧ Cond.initialized C ∈ lw_all ∧ N < 100 ∧ ci < 100
theorem zF_new (pc' : Nat) {idx ci N : Nat} (hd : decode M.2.1 pc = .ok (.new idx, 3)) (hp : pc + 3 = pc') (hc : zNC M.1.cls idx ci) (hN : ((zfcs[ci]?).getD []).length = N) (hbg : zn σ < zbg) (hw1 : ∀ q ∈ ls, zwv (zn σ) q.2) (hw2 : ∀ v ∈ st, zwv (zn σ) v)
    (kk : zF G M d pc' ls (zR (zn σ) :: st) (znw σ 0 ci N) Q) : zF G M d pc ls st σ Q := by
  subst hp
  obtain ⟨C, T, N2, ty, ⟨hcl, hlen, hws, hty, hfk, hnm⟩, hlk, hins, hini, hN2, hci⟩ := hc
  rw [hlen] at hN
  subst hN
  refine zF_mk hbg (by omega) hw1 hw2 ?_ kk
  intro ρ p e R s m args below meth c0 hC H locs cells slots lsA Qm hS hR1 hR2 k1
  have hts := hC.2.2.2.2.1
  have ho := hC.2.2.2.2.2.2.2.2.2.2.2.1
  have hA : ∀ q, s.heap.size ≤ q → zA G q := fun q hq => Nat.le_trans ho.1 hq
  have hfs : ∀ ρ1 : Nat → Nat, ∀ j, j < N2 → defaultValue (ty j) = vp_V (zobj ρ1 (znw σ 0 ci N2) (zn σ) ci) j := by
    intro ρ1 j hj
    have hz := hfk j hj
    have hg := zobj_get (ρ := ρ1) (σ := znw σ 0 ci N2) (h := zn σ) (ci := ci) (k := j) (by rw [hlen]; exact hj)
    have e1 : zia (znw σ 0 ci N2) (zn σ) j = 0 := by rw [zia_nw, if_pos rfl]
    have e2 : zra (znw σ 0 ci N2) (zn σ) j = none := by rw [zra_nw, if_pos rfl]
    unfold vp_V
    rw [List.getD_eq_getElem?_getD, hg]
    show defaultValue (ty j) = zfld ρ1 (znw σ 0 ci N2) (zn σ) (zfc ci j) j
    exact zfk_def hz e1 e2
  have ez : ∀ q, zcell G (zup1 ρ (zn σ) q) (znw σ 0 ci N2) (zn σ) = .inr (ci, zobj (zup1 ρ (zn σ) q) (znw σ 0 ci N2) (zn σ) ci) := fun q => zcell_o (by rw [zkd_nw, if_pos rfl])
  have ez2 : ∀ q, zobj (zup1 ρ (zn σ) q) (znw σ 0 ci N2) (zn σ) ci = zobj ρ (znw σ 0 ci N2) (zn σ) ci := fun q => by
    unfold zobj zfld
    have e2 : ∀ j, zra (znw σ 0 ci N2) (zn σ) j = none := fun j => by rw [zra_nw, if_pos rfl]
    simp only [e2, Option.map]
  refine va_new hC.1 hC.2.1 hts hws ty hty hC.2.2.2.1 (hts _ hlk) (hts _ hins) (hts _ hini) (zcx_K hC) hS.1.1 hS.1.2.1 hS.2.1 hA hcl (hfs ρ) hR1 hR2 hd fun q H1 p1 d1 s1 => ?_
  exact k1 q H1 (by rw [ez, ez2]; exact p1) (by rw [ez, ez2]; exact d1) s1
end ZNW

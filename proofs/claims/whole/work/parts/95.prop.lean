/-! the class: the properties of a query, and the call of ordinal (a getter, walked where it is called: its class is not said to be ready) -/
section VGO
variable {p : Program} {l : Launch} {e : Env} {R : Room} {s : State} {m : MethodId} {args : Array Value} {below : List Frame} {meth : Method} {c : Code} {H : Heap} {locs : List Loc} {cells slots : Nat} {Q : State → Prop}
theorem vg_getter (hexec : p.tables.exec = Jvm.exec) {cc : ByteArray} (hb : c.code = cc) {own C owner fr fn fd : String} {index fi : Nat} {x y : MethodName} {bytes : ByteArray}
    (hown : s.vm.findClass own = some m.cls) (hlink : (Cond.methodLink own index x).before args s = true) (hsame : (Cond.sameMethod x.cls owner x.name x.desc).before args s = true)
    (hd0 : va_Decl s ⟨owner, x.name, x.desc⟩) (howner : owner ≠ "java/lang/invoke/MethodHandle" ∧ owner ≠ "java/lang/invoke/VarHandle")
    (hsel : (Cond.selects C x y).before args s = true) (hinst : (Cond.instanceMethod y).before args s = true) (hcode : (Cond.code y bytes 1 (some .int)).before args s = true) (hyn : plainName y.cls = true)
    (h0 : decode bytes 0 = .ok (.aload_n 0, 1)) (h1 : decode bytes 1 = .ok (.getfield fi, 3)) (h4 : decode bytes 4 = .ok (.ireturn, 1))
    (hflink : (Cond.fieldLink y.cls fi fr fn fd).before args s = true) {cf i : Nat} {k : Class} {f : Field} (hi : s.fieldFound? fr fn fd = some (cf, k, i, f)) (hst : f.isStatic = false)
    {a : Addr} {cell : Cell} {v : Int32} (hcell : H[a]? = some cell) (hobj : cell.vm.isStatics = false) (hknown : cell.vm ≠ .unknown) (hcls : s.vm.findClass C = some cell.cls) (hslot : cell.slots[f.slot]? = some (.int v))
    (hR : 1 ≤ R.frames) (hRl : 20 ≤ R.locals) {pc : Nat} {ls : Array Slot} {rest : List Value} (hsize : ls.size = c.maxLocals) (hrest : (rest.map fun v => v.category).sum ≤ 8)
    (hlen : ∀ sig, parseMethodDescriptor x.desc = some sig → 0 = sig.parameters.length) (hdg : decode cc pc = .ok (.invokevirtual index, 3))
    (kk : W p l e R s m args below meth c H locs cells slots Q (F0 m (pc + 3) ls (.int v :: rest))) : W p l e R s m args below meth c H locs cells slots Q (F0 m pc ls (.ref a :: rest)) := by
  intro T hT X
  subst hb
  obtain ⟨r0, r, hn, hrm, hstR, hsigR⟩ := hd0
  obtain ⟨cn, ck, r1, hcn, hck, hni, hf1, hn1⟩ := Cond.sameMethod_found hsame
  cases hn.symm.trans hn1
  obtain ⟨mk, methM, hnamed, hmethM, -, habM⟩ := Cond.instanceMethod_spec hinst
  obtain ⟨c2, r2, m2, q1, q2, q3, q4, kP, hkP, hkPi⟩ := Cond.selects_spec hsel
  cases hcls.symm.trans q1
  cases hf1.symm.trans q2
  cases hnamed.symm.trans q3
  have hselP : selectMethod e.platform s.vm cell.cls r0 = .method mk := by rw [Launch.admits_selectMethod X.admits]; exact q4
  obtain ⟨vm₁, X₁, hstep₁⟩ := X.invokevirtualUp hexec hown hlink hsame howner hn hrm hstR (a := a) (cell := cell) (by rw [hT]; exact hcell)
    (fun z h => by rw [h] at hobj; cases hobj) hselP hmethM habM hkP hkPi (g := F0 m pc ls (.ref a :: rest)) rfl (argsL := []) (rest := rest) (hlen _ hsigR) rfl hdg
  obtain ⟨methY, cY, hmY, hcY, hbytes, hlY, hretY, hlocksY, -⟩ := Cond.code_spec hnamed hcode
  cases hmethM.symm.trans hmY
  have hpl : e.platform.magicAccessors = ({} : Platform).magicAccessors := by rw [X.admits.platform]
  obtain ⟨ci', cfl, k', i', f', hi', hlinks, hright⟩ := Cond.fieldLink_spec (findClass_of_methodNamed hnamed) hflink e.platform hpl
  cases hi.symm.trans hi'
  obtain ⟨hk, hf⟩ := State.fieldFound?_spec hi
  obtain ⟨vm', hgives, hW', hready, hfi⟩ := State.fieldEntry (e := e) X₁.warmed hlinks hright hk hf
  have X₂ := X₁.noted hW'
  have hplain : (T.setVm vm₁).plainMethod mk := State.plainMethod.of_name (fun k2 hk2 => by
    obtain ⟨k3, hk3, hn3⟩ := className_of_methodNamed (X₁.named hnamed)
    cases (show (T.setVm vm₁).vm.classes[mk.cls]? = some k2 from hk2).symm.trans hk3
    rw [hn3]; exact hyn)
  obtain ⟨t, a1, b1⟩ := kk ((T.setVm vm₁).setVm vm') hT X₂
  refine ⟨t, hstep₁ _ fun acts => ?_, b1⟩
  have hroom := X₁.notFull (g := F0 m pc ls rest) hsize (vars := cY.maxLocals) hR (by rw [hlY]; show 2 * 0 + (rest.map fun v => v.category).sum + (1 + 11) ≤ R.locals; omega)
  exact Steps.intGetterInline (g := F0 m pc ls rest) (c := c) (ig := .invokevirtual index) (len := 3) (index := fi) X₁.here hexec acts ((X₁.warmed.alike.method? mk).trans hmethM) hcY hlocksY hplain hretY hlY
    (by rw [hbytes]; exact h0) (by rw [hbytes]; exact h1) (by rw [hbytes]; exact h4) hroom hdg (X₁.warmed.alike.symm.trans hW'.alike) hgives hready hfi hst (show T.heap[a]? = some cell by rw [hT]; exact hcell) hknown hslot a1
end VGO
section ZOP
variable {G : zG} {M : zMeth} {d pc : Nat} {ls : List (Nat × zV)} {st : List zV} {σ : zMem} {Q : zRes → zMem → Prop}
/-- the properties: the constants (200 ..), their array (300), the switch's map (301) -/
def zOPr (G : zG) : Prop :=
  va_Z "CinemaChain" "PROPERTIES" "[LCinemaChain$Property;" (.ref (zAd G 300)) (zA G) (zSt0 G) (zSt0 G).heap ∧
  va_T (.object "CinemaChain$Property") (zAd G 300) 9 (fun j => .ref (zAd G (200 + j))) (zA G) (zSt0 G) (zSt0 G).heap ∧
  va_Z "CinemaChain$1" "$SwitchMap$CinemaChain$Property" "[I" (.ref (zAd G 301)) (zA G) (zSt0 G) (zSt0 G).heap ∧
  va_T .int (zAd G 301) 9 (fun j => .int (Int32.ofInt (if j = 8 then 0 else (j : Int) + 1))) (zA G) (zSt0 G) (zSt0 G).heap ∧
  ∀ j, j < 9 → va_O "CinemaChain$Property" (zAd G (200 + j)) (zA G) (zSt0 G) (zSt0 G).heap ∧ va_OF "java/lang/Enum" "ordinal" "I" (.int (Int32.ofInt (j : Int))) (zAd G (200 + j)) (zA G) (zSt0 G) (zSt0 G).heap ∧ va_OF "CinemaChain$Property" "word" "Ljava/lang/String;" (.ref (zAd G (50 + j))) (zAd G (200 + j)) (zA G) (zSt0 G) (zSt0 G).heap
theorem zF_getsRN (pc' : Nat) {idx j : Nat} {C n dd host : String} (hd : decode M.2.1 pc = .ok (.getstatic idx, 3)) (hp : pc + 3 = pc') (hl : Cond.fieldLinkNest M.1.cls idx C n dd host ∈ lw_nest) (hf : va_Z C n dd (.ref (zAd G j)) (zA G) (zSt0 G) (zSt0 G).heap) (kk : zF G M d pc' ls (zR (zbg + j) :: st) σ Q) : zF G M d pc ls st σ Q := by
  subst hp
  refine zF_step rfl rfl rfl ?_ kk
  intro ρ p e R s m args below meth c0 hC H locs cells slots lsA Qm hS hR1 hR2 kk
  have q := kk H locs lsA hS
  simp only [List.map_cons, ztr, Option.map, va_rf, hS.1.2.2.2] at q
  exact va_getsN (C := C) (n := n) (d := dd) (ref := C) hC.1 hC.2.1 (zat_Z hC hf) hS.2.1 hC.2.2.2.1 (va_Nw.use rfl (hC.2.2.2.2.2.2.2.2.2.2.2.2.2.2.1 _ hl)) (fun _ h => h) hd q
theorem zF_aaloadO (pc' : Nat) {i N : Nat} {z : Int} {C : String} {g : Nat → Nat} (hd : decode M.2.1 pc = .ok (.aaload, 1)) (hp : pc + 1 = pc') (hf : va_T (.object C) (zAd G i) N (fun j => .ref (zAd G (g j))) (zA G) (zSt0 G) (zSt0 G).heap) (h0 : 0 ≤ z) (h1 : z < N) (hN : N < 1000) (kk : zF G M d pc' ls (zR (zbg + g z.toNat) :: st) σ Q) : zF G M d pc ls (zI z :: zR (zbg + i) :: st) σ Q := by
  subst hp
  refine zF_step rfl rfl rfl ?_ kk
  intro ρ p e R s m args below meth c0 hC H locs cells slots lsA Qm hS hR1 hR2 kk
  have q := kk H locs lsA hS
  simp only [List.map_cons, ztr, Option.map, va_rf, hS.1.2.2.2] at q ⊢
  refine vb_tq hC.1 hC.2.1 (zat_T hC hf) hS.2.1 (zin h0 h1 (by omega)) (v := .ref (zAd G (g z.toNat))) ?_ hd q
  rw [zcl0 z h0 (by omega)]
theorem dJx29ce0_ordinal_8abf5_0 : decode cJx29ce0_ordinal_8abf5 0 = .ok (.aload_n 0, 1) := by decide +kernel
theorem dJx29ce0_ordinal_8abf5_1 : decode cJx29ce0_ordinal_8abf5 1 = .ok (.getfield 7, 3) := by decide +kernel
theorem dJx29ce0_ordinal_8abf5_4 : decode cJx29ce0_ordinal_8abf5 4 = .ok (.ireturn, 1) := by decide +kernel
theorem fX7_120 : Cond.fieldLink RX7 120 "CinemaChain$Property" "word" "Ljava/lang/String;" ∈ lw_all := zi10 176 rfl rfl
theorem fX7_116 : Cond.fieldLinkNest RX7 116 "CinemaChain" "PROPERTIES" "[LCinemaChain$Property;" "CinemaChain" ∈ lw_nest := zj7 144 rfl rfl
theorem fX7_126 : Cond.fieldLink RX7 126 "CinemaChain$1" "$SwitchMap$CinemaChain$Property" "[I" ∈ lw_all := zi7 155 rfl rfl
theorem zF_ordinal (pc' : Nat) {j : Nat} (hM : M.1.cls = RX7) (hd : decode M.2.1 pc = .ok (.invokevirtual 132, 3)) (hp : pc + 3 = pc') (hO : zOPr G) (hj : j < 9) (hdd : 1 ≤ d) (hcat : (st.map zcat).sum ≤ 8) (kk : zF G M d pc' ls (zI (j : Int) :: st) σ Q) : zF G M d pc ls (zR (zbg + (200 + j)) :: st) σ Q := by
  subst hp
  refine zF_step rfl rfl rfl ?_ kk
  intro ρ p e R s m args below meth c0 hC H locs cells slots lsA Qm hS hR1 hR2 kk
  have q := kk H locs lsA hS
  simp only [List.map_cons, ztr, Option.map, va_rf, hS.1.2.2.2] at q ⊢
  have hts := hC.2.2.2.2.1
  have ho := hO.2.2.2.2 j hj
  obtain ⟨cell, q1, q2, q3, -⟩ := (zat_O hC ho.1).kept hS.2.1.2.1
  obtain ⟨cf, k, i, f, cell2, h1, h2, h3, h4, h5, -⟩ := (zat_OF hC ho.2.1).kept hS.2.1.2.1
  cases q1.symm.trans h3
  have hf := hC.2.2.2.2.2.2.2.2.2.1
  have hl := hC.2.2.2.2.2.2.2.2.2.2.1
  exact vg_getter (C := "CinemaChain$Property") (owner := "java/lang/Enum") (fr := "java/lang/Enum") (fn := "ordinal") (fd := "I") (fi := 7) (x := ⟨"CinemaChain$Property", "ordinal", "()I"⟩) (y := yJx29ce0_ordinal_8abf5) (bytes := cJx29ce0_ordinal_8abf5) hC.1 hC.2.1 hC.2.2.2.1
    (by rw [hM]; exact hts _ (zi7 157 rfl rfl)) (hts _ (zi7 158 rfl rfl)) (va_Decl.of (hts _ iJx29ce0_ordinal_8abf5) (hts _ wJx29ce0_ordinal_8abf5)) ⟨by decide, by decide⟩ (hts _ (zi7 160 rfl rfl)) (hts _ iJx29ce0_ordinal_8abf5) (hts _ wJx29ce0_ordinal_8abf5) (by decide)
    dJx29ce0_ordinal_8abf5_0 dJx29ce0_ordinal_8abf5_1 dJx29ce0_ordinal_8abf5_4 (hts _ (zi10 177 rfl rfl)) h1 h2 q1 q2 h4 q3 h5 (by rw [hf]; exact hdd) (by rw [hl]; omega) (hS.2.2.1.trans hC.2.2.1.symm) (by rw [zcat_sum]; exact hcat)
    (fun sig h => by
      have e9 : (parseMethodDescriptor "()I").map (fun d => d.parameters.length) = some 0 := by decide +kernel
      rw [h] at e9
      exact (Option.some.inj e9).symm) hd q
end ZOP

/-! the old things: strings and what they hold; rules for them -/
section ZOL
def zsb : List (List Int) := [[108, 101, 110, 103, 116, 104], [104, 111, 117, 115, 101], [115, 99, 114, 101, 101, 110], [102, 105, 108, 109], [112, 114, 105, 110, 116, 115], [100, 101, 112, 111, 116], [102, 101, 101], [119, 104, 97, 116], [104, 111, 117, 115, 101], [115, 99, 114, 101, 101, 110], [102, 105, 108, 109], [108, 101, 110, 103, 116, 104], [112, 108, 97, 99, 101], [100, 97, 121], [98, 97, 99, 107], [110, 111, 32, 115, 112, 108, 105, 116, 32, 119, 101, 101, 107], [115, 97, 109, 101, 32, 112, 108, 97, 99, 101], [112, 101, 114, 99, 101, 110, 116, 97, 103, 101], [114, 101, 110, 116], [102, 101, 101], [108, 101, 110, 103, 116, 104], [108, 101, 110, 103, 116, 104], [108, 101, 110, 103, 116, 104], [108, 101, 110, 103, 116, 104], [108, 101, 110, 103, 116, 104], [108, 101, 110, 103, 116, 104], [108, 101, 110, 103, 116, 104], [108, 101, 110, 103, 116, 104], [108, 101, 110, 103, 116, 104], [108, 101, 110, 103, 116, 104], [104, 111, 117, 115, 101, 32], [32], [115, 99, 114, 101, 101, 110], [102, 105, 108, 109], [112, 114, 105, 110, 116, 115, 32], [32, 100, 101, 112, 111, 116], [102, 101, 101, 32], [104, 111, 117, 115, 101, 32, 50, 32, 53, 48, 59, 115, 99, 114, 101, 101, 110, 32, 48, 32, 49, 48, 32, 49, 32, 53, 59, 102, 105, 108, 109, 32, 56, 32, 53, 48, 32, 48, 32, 50, 53, 59, 112, 114, 105, 110, 116, 115, 32, 48, 32, 48, 32, 49, 59], [108, 101, 110, 103, 116, 104], [108, 101, 110, 103, 116, 104], [108, 101, 110, 103, 116, 104], [108, 101, 110, 103, 116, 104], [108, 101, 110, 103, 116, 104], [108, 101, 110, 103, 116, 104], [108, 101, 110, 103, 116, 104], [108, 101, 110, 103, 116, 104], [108, 101, 110, 103, 116, 104], [108, 101, 110, 103, 116, 104], [108, 101, 110, 103, 116, 104], [108, 101, 110, 103, 116, 104], [108, 101, 110, 103, 116, 104], [108, 101, 110, 103, 116, 104], [108, 101, 110, 103, 116, 104], [108, 101, 110, 103, 116, 104], [108, 101, 110, 103, 116, 104], [108, 101, 110, 103, 116, 104], [108, 101, 110, 103, 116, 104], [108, 101, 110, 103, 116, 104], [108, 101, 110, 103, 116, 104]]
def zsbi (i : Nat) : List Int := zsb.getD i []
def zsl (i : Nat) : Nat := (zsbi i).length
def zsc (i k : Nat) : Int := (zsbi i).getD k 0
theorem zsl_b : ∀ i, i < 59 → zsl i < 60 := by decide +kernel
theorem zsc_b : ∀ i, i < 59 → ∀ k, k < zsl i → 0 ≤ zsc i k ∧ zsc i k < 128 := by decide +kernel
abbrev zAd (G : zG) : Nat → Nat := G.2.2.2.2
abbrev zSt0 (G : zG) : State := G.2.2.2.1
/-- what the law's start makes sure of the strings -/
def zOS (G : zG) : Prop :=
  (∀ i, i < 59 → va_O "java/lang/String" (zAd G i) (zA G) (zSt0 G) (zSt0 G).heap ∧ va_OF "java/lang/String" "coder" "B" (.int (Int32.ofInt 0)) (zAd G i) (zA G) (zSt0 G) (zSt0 G).heap ∧ va_OF "java/lang/String" "value" "[B" (.ref (zAd G (100 + i))) (zAd G i) (zA G) (zSt0 G) (zSt0 G).heap ∧ va_T .byte (zAd G (100 + i)) (zsl i) (fun j => .int (Int32.ofInt (zsc i j))) (zA G) (zSt0 G) (zSt0 G).heap) ∧
  va_Z "java/lang/String" "COMPACT_STRINGS" "Z" (.int (Int32.ofInt 1)) (zA G) (zSt0 G) (zSt0 G).heap ∧
  va_Zq "jdk/internal/util/Preconditions" "SIOOBE_FORMATTER" "Ljava/util/function/BiFunction;" (zA G) (zSt0 G) (zSt0 G).heap
variable {G : zG} {M : zMeth} {d pc : Nat} {ls : List (Nat × zV)} {st : List zV} {σ : zMem} {Q : zRes → zMem → Prop}
variable {p : Program} {R : Room} {s : State} {m : MethodId} {args : Array Value} {meth : Method} {c : Code}
theorem zat_O {E : String} {t : Nat} (hC : zCx G M d p R s m args meth c) (h : va_O E t (zA G) (zSt0 G) (zSt0 G).heap) : va_O E t (zA G) s s.heap := va_O.moved hC.2.2.2.2.2.2.2.2.2.2.2.2.1 (va_O.kept h fun a h1 _ => hC.2.2.2.2.2.2.2.2.2.2.2.1.2 a h1)
theorem zat_OF {o n dd : String} {v : Value} {t : Nat} (hC : zCx G M d p R s m args meth c) (h : va_OF o n dd v t (zA G) (zSt0 G) (zSt0 G).heap) : va_OF o n dd v t (zA G) s s.heap := va_OF.moved hC.2.2.2.2.2.2.2.2.2.2.2.2.1 (va_OF.kept h fun a h1 _ => hC.2.2.2.2.2.2.2.2.2.2.2.1.2 a h1)
theorem zat_T {ty : FieldType} {t N : Nat} {f : Nat → Value} (hC : zCx G M d p R s m args meth c) (h : va_T ty t N f (zA G) (zSt0 G) (zSt0 G).heap) : va_T ty t N f (zA G) s s.heap := va_T.moved hC.2.2.2.2.2.2.2.2.2.2.2.2.1 (va_T.kept h fun a h1 _ => hC.2.2.2.2.2.2.2.2.2.2.2.1.2 a h1)
theorem zat_Z {C n dd : String} {v : Value} (hC : zCx G M d p R s m args meth c) (h : va_Z C n dd v (zA G) (zSt0 G) (zSt0 G).heap) : va_Z C n dd v (zA G) s s.heap := va_Z.moved hC.2.2.2.2.2.2.2.2.2.2.2.2.1 (va_Z.kept h fun a h1 _ => hC.2.2.2.2.2.2.2.2.2.2.2.1.2 a h1)
theorem zF_getOR (pc' : Nat) {idx i j : Nat} {o n dd : String} (hd : decode M.2.1 pc = .ok (.getfield idx, 3)) (hp : pc + 3 = pc') (hl : Cond.fieldLink M.1.cls idx o n dd ∈ lw_all) (hf : va_OF o n dd (.ref (zAd G j)) (zAd G i) (zA G) (zSt0 G) (zSt0 G).heap) (kk : zF G M d pc' ls (zR (zbg + j) :: st) σ Q) : zF G M d pc ls (zR (zbg + i) :: st) σ Q := by
  subst hp
  refine zF_step rfl rfl rfl ?_ kk
  intro ρ p e R s m args below meth c0 hC H locs cells slots lsA Qm hS hR1 hR2 kk
  have q := kk H locs lsA hS
  simp only [List.map_cons, ztr, Option.map, va_rf, hS.1.2.2.2] at q ⊢
  exact va_getX (N := 1) (i := 0) (o := o) (n := n) (d := dd) (ref := o) (v := fun _ => .ref (zAd G j)) (ad := fun _ => zAd G i) hC.1 hC.2.1 (fun _ _ => zat_OF hC hf) (by decide) hS.2.1 hC.2.2.2.1 (hC.2.2.2.2.1 _ hl) (fun _ h => h) hd q
theorem zF_getOI (pc' : Nat) {idx i : Nat} {z : Int} {o n dd : String} (hd : decode M.2.1 pc = .ok (.getfield idx, 3)) (hp : pc + 3 = pc') (hl : Cond.fieldLink M.1.cls idx o n dd ∈ lw_all) (hf : va_OF o n dd (.int (Int32.ofInt z)) (zAd G i) (zA G) (zSt0 G) (zSt0 G).heap) (kk : zF G M d pc' ls (zI z :: st) σ Q) : zF G M d pc ls (zR (zbg + i) :: st) σ Q := by
  subst hp
  refine zF_step rfl rfl rfl ?_ kk
  intro ρ p e R s m args below meth c0 hC H locs cells slots lsA Qm hS hR1 hR2 kk
  have q := kk H locs lsA hS
  simp only [List.map_cons, ztr, Option.map, va_rf, hS.1.2.2.2] at q ⊢
  exact va_getX (N := 1) (i := 0) (o := o) (n := n) (d := dd) (ref := o) (v := fun _ => .int (Int32.ofInt z)) (ad := fun _ => zAd G i) hC.1 hC.2.1 (fun _ _ => zat_OF hC hf) (by decide) hS.2.1 hC.2.2.2.1 (hC.2.2.2.2.1 _ hl) (fun _ h => h) hd q
theorem zF_getsI (pc' : Nat) {idx : Nat} {z : Int} {C n dd : String} (hd : decode M.2.1 pc = .ok (.getstatic idx, 3)) (hp : pc + 3 = pc') (hl : Cond.fieldLink M.1.cls idx C n dd ∈ lw_all) (hf : va_Z C n dd (.int (Int32.ofInt z)) (zA G) (zSt0 G) (zSt0 G).heap) (kk : zF G M d pc' ls (zI z :: st) σ Q) : zF G M d pc ls st σ Q := by
  subst hp
  refine zF_step rfl rfl rfl ?_ kk
  intro ρ p e R s m args below meth c0 hC H locs cells slots lsA Qm hS hR1 hR2 kk
  have q := kk H locs lsA hS
  exact va_gets (C := C) (n := n) (d := dd) (ref := C) hC.1 hC.2.1 (zat_Z hC hf) hS.2.1 hC.2.2.2.1 (hC.2.2.2.2.1 _ hl) (fun _ h => h) hd q
theorem zF_getsX (pc' : Nat) {idx : Nat} {v : Value} {C n dd : String} (hd : decode M.2.1 pc = .ok (.getstatic idx, 3)) (hp : pc + 3 = pc') (hl : Cond.fieldLink M.1.cls idx C n dd ∈ lw_all) (hf : va_Z C n dd v (zA G) (zSt0 G) (zSt0 G).heap) (kk : zF G M d pc' ls (zX v :: st) σ Q) : zF G M d pc ls st σ Q := by
  subst hp
  refine zF_step rfl rfl rfl ?_ kk
  intro ρ p e R s m args below meth c0 hC H locs cells slots lsA Qm hS hR1 hR2 kk
  have q := kk H locs lsA hS
  exact va_gets (C := C) (n := n) (d := dd) (ref := C) hC.1 hC.2.1 (zat_Z hC hf) hS.2.1 hC.2.2.2.1 (hC.2.2.2.2.1 _ hl) (fun _ h => h) hd q
theorem zF_alenO (pc' : Nat) {i N : Nat} {ty : FieldType} {f : Nat → Value} (hd : decode M.2.1 pc = .ok (.arraylength, 1)) (hp : pc + 1 = pc') (hf : va_T ty (zAd G i) N f (zA G) (zSt0 G) (zSt0 G).heap) (kk : zF G M d pc' ls (zI (N : Int) :: st) σ Q) : zF G M d pc ls (zR (zbg + i) :: st) σ Q := by
  subst hp
  refine zF_step rfl rfl rfl ?_ kk
  intro ρ p e R s m args below meth c0 hC H locs cells slots lsA Qm hS hR1 hR2 kk
  have q := kk H locs lsA hS
  simp only [List.map_cons, ztr, Option.map, va_rf, hS.1.2.2.2] at q ⊢
  exact va_tlen hC.1 hC.2.1 (zat_T hC hf) hS.2.1 (Int32.ofInt_eq_ofNat).symm hd q
theorem zF_baloadO (pc' : Nat) {i N : Nat} {z : Int} {g : Nat → Int} (hd : decode M.2.1 pc = .ok (.baload, 1)) (hp : pc + 1 = pc') (hf : va_T .byte (zAd G i) N (fun j => .int (Int32.ofInt (g j))) (zA G) (zSt0 G) (zSt0 G).heap) (h0 : 0 ≤ z) (h1 : z < N) (hN : N < 1000) (kk : zF G M d pc' ls (zI (g z.toNat) :: st) σ Q) : zF G M d pc ls (zI z :: zR (zbg + i) :: st) σ Q := by
  subst hp
  refine zF_step rfl rfl rfl ?_ kk
  intro ρ p e R s m args below meth c0 hC H locs cells slots lsA Qm hS hR1 hR2 kk
  have q := kk H locs lsA hS
  simp only [List.map_cons, ztr, Option.map, va_rf, hS.1.2.2.2] at q ⊢
  refine va_tb hC.1 hC.2.1 (zat_T hC hf) hS.2.1 (zin h0 h1 (by omega)) (v := .int (Int32.ofInt (g z.toNat))) ?_ hd q
  rw [zcl0 z h0 (by omega)]
/-- a call on an old thing, which makes no handle -/
theorem zF_callO (pc' : Nat) {M2 : zMeth} {d2 idx n i : Nat} {E : String} {stk as rest : List zV} (hd : decode M.2.1 pc = .ok (.invokevirtual idx, 3)) (hp : pc + 3 = pc') (hcl : zCL M.1.cls idx M2 n) (hin : Cond.instanceMethod M2.1 ∈ lw_all) (hO : va_O E (zAd G i) (zA G) (zSt0 G) (zSt0 G).heap) (hse : Cond.selects E M2.1 M2.1 ∈ lw_all) (hdd : d2 + 1 ≤ d) (hn : as.length = n) (hs : stk = as.reverse ++ zR (zbg + i) :: rest) (hcat : (rest.map zcat).sum ≤ 8)
    (k : zE G M2 d2 (zR (zbg + i) :: as) σ (fun r σ1 => zn σ1 = zn σ ∧ match r with | .inl v => zF G M d pc' ls (v.toList ++ rest) σ1 Q | .inr E => M.1.cls ≠ RL ∧ Q (.inr E) σ1)) : zF G M d pc ls stk σ Q := by
  subst hp
  refine zgo (fun r1 σ1 hM hu ρ p e R s m args below meth c hC H locs cells slots lsA hS h1 h2 => ?_) (k.mono fun r σ1 h => ⟨zkeep h.1, h.2⟩)
  have hts := hC.2.2.2.2.1
  have hB := zcallB (σ := σ) (σ1 := σ1) hcl hts hC.2.2.2.2.2.2.2.2.2.1 hC.2.2.2.2.2.2.2.2.2.2.1 hdd
  obtain ⟨cell, q1, q2, q3, -⟩ := (zat_O hC hO).kept hS.2.1.2.1
  refine vx_runV (Ts := lw_all) (C := E) (b := ρ (zbg + i)) (As := as.map (ztr ρ)) (rest := rest.map (ztr ρ)) ⟨hC.1, hC.2.1, hC.2.2.1, hC.2.2.2.1, hts⟩ (hM ρ) ⟨hB, hts _ hin, hts _ hse⟩ ⟨zPc_blind, ⟨cell, by rw [hS.1.2.2.2]; exact q1, q2, q3⟩, zPreS (as := zR (zbg + i) :: as) hC hS⟩ rfl (by rw [List.length_map]; exact hn) hS.2.2.1 ?_ (lv_room (by rw [zcat_sum]; exact hcat)) hd ⟨h1, h2⟩
  show stk.map (ztr ρ) = _
  rw [hs, List.map_append, List.map_reverse, List.map_cons]
  rfl
theorem zF_callOi (pc' : Nat) {M2 : zMeth} {d2 idx n i : Nat} {v : Int} {E : String} {stk as rest : List zV} (hd : decode M.2.1 pc = .ok (.invokevirtual idx, 3)) (hp : pc + 3 = pc') (hcl : zCL M.1.cls idx M2 n) (hin : Cond.instanceMethod M2.1 ∈ lw_all) (hO : va_O E (zAd G i) (zA G) (zSt0 G) (zSt0 G).heap) (hse : Cond.selects E M2.1 M2.1 ∈ lw_all) (hdd : d2 + 1 ≤ d) (hn : as.length = n) (hs : stk = as.reverse ++ zR (zbg + i) :: rest) (hcat : (rest.map zcat).sum ≤ 8)
    (k : zP1 G M2 d2 (zR (zbg + i) :: as) σ v) (kk : zF G M d pc' ls (zI v :: rest) σ Q) : zF G M d pc ls stk σ Q := by
  refine zF_callO pc' hd hp hcl hin hO hse hdd hn hs hcat (k.mono fun r σ1 h => ?_)
  obtain ⟨a, b⟩ := h
  subst a
  subst b
  exact ⟨rfl, kk⟩
theorem zF_dup_x1 (pc' : Nat) {v w : zV} (hd : decode M.2.1 pc = .ok (.dup_x1, 1)) (hp : pc + 1 = pc') (hv : zcat v = 1) (hw : zcat w = 1) (k : zF G M d pc' ls (v :: w :: v :: st) σ Q) : zF G M d pc ls (v :: w :: st) σ Q := by
  subst hp
  refine zF_step rfl rfl rfl ?_ k
  intro ρ p e R s m args below meth c hC H locs cells slots lsA Qm hS hR1 hR2 kk
  have q := kk H locs lsA hS
  simp only [List.map_cons] at q ⊢
  exact lv_dup_x1 hC.1 hC.2.1 hd ((ztr_cat ρ v).trans hv) ((ztr_cat ρ w).trans hw) q
def zby (a : Int) : Int := (a + 128) % 256 - 128
theorem zby_b (a : Int) : -128 ≤ zby a ∧ zby a ≤ 127 := by unfold zby; omega
theorem zi2b {a : Int} (h : zrg a) : (Int32.ofInt a).toInt8.toInt32 = Int32.ofInt (zby a) := by
  have b := zby_b a
  apply Int32.toInt_inj.mp
  rw [Int8.toInt_toInt32, Int32.toInt_toInt8, zti h, zti ⟨by omega, by omega⟩]
  unfold zby
  show a.bmod 256 = _
  unfold Int.bmod
  dsimp only
  split <;> omega
theorem zF_i2by (pc' : Nat) {a : Int} (hd : decode M.2.1 pc = .ok (.i2b, 1)) (hp : pc + 1 = pc') (ha : zrg a) (k : zF G M d pc' ls (zI (zby a) :: st) σ Q) : zF G M d pc ls (zI a :: st) σ Q := by
  subst hp
  refine zF_step rfl rfl rfl ?_ k
  intro ρ p e R s m args below meth c hC H locs cells slots lsA Qm hS hR1 hR2 kk
  have q := kk H locs lsA hS
  simp only [List.map_cons, ztr] at q ⊢
  exact lv_i2b hC.1 hC.2.1 hd (zi2b ha) q
theorem zi2c : ∀ a : Fin 256, ((Int32.ofInt ((a : Nat) : Int)).toUInt32 % 65536).toInt32 = Int32.ofInt ((a : Nat) : Int) := by decide +kernel
theorem zF_i2c (pc' : Nat) {a : Int} (hd : decode M.2.1 pc = .ok (.i2c, 1)) (hp : pc + 1 = pc') (h0 : 0 ≤ a) (h1 : a < 256) (k : zF G M d pc' ls (zI a :: st) σ Q) : zF G M d pc ls (zI a :: st) σ Q := by
  subst hp
  refine zF_step rfl rfl rfl ?_ k
  intro ρ p e R s m args below meth c hC H locs cells slots lsA Qm hS hR1 hR2 kk
  have q := kk H locs lsA hS
  simp only [List.map_cons, ztr] at q ⊢
  have e1 := zi2c ⟨a.toNat, by omega⟩
  dsimp only at e1
  rw [show ((a.toNat : Nat) : Int) = a by omega] at e1
  exact lv_i2c hC.1 hC.2.1 hd e1 q
theorem zand255f : ∀ a : Fin 128, (Int32.ofInt ((a : Nat) : Int) &&& Int32.ofInt 255).toInt = ((a : Nat) : Int) := by decide +kernel
theorem zand255 {a : Int} (h0 : 0 ≤ a) (h1 : a < 128) : (Int32.ofInt a &&& Int32.ofInt 255).toInt = a := by
  have e1 := zand255f ⟨a.toNat, by omega⟩
  dsimp only at e1
  rw [show ((a.toNat : Nat) : Int) = a by omega] at e1
  exact e1
theorem zshr0 {a : Int} (h : zrg a) : (Int32.ofInt a >>> (Int32.ofInt 0 &&& 31)).toInt = a := by
  rw [← z0, sb_shr0, zti h]
theorem fJ0_9 : Cond.fieldLink RJ0 9 "java/lang/String" "value" "[B" ∈ lw_all := zi6 178 rfl rfl
theorem fJ0_15 : Cond.fieldLink RJ0 15 "java/lang/String" "coder" "B" ∈ lw_all := zi6 179 rfl rfl
theorem fJ0_38 : Cond.fieldLink RJ0 38 "java/lang/String" "COMPACT_STRINGS" "Z" ∈ lw_all := zi3 111 rfl rfl
theorem fJ5_18 : Cond.fieldLink RJ5 18 "java/lang/String" "COMPACT_STRINGS" "Z" ∈ lw_all := zi1 44 rfl rfl
theorem fJ0_1053 : Cond.fieldLink RJ0 1053 "jdk/internal/util/Preconditions" "SIOOBE_FORMATTER" "Ljava/util/function/BiFunction;" ∈ lw_all := zi3 126 rfl rfl
theorem dJ0_length_8abf5_0 : decode cJ0_length_8abf5 0 = .ok (.aload_n 0, 1) := by decide +kernel
theorem dJ0_length_8abf5_1 : decode cJ0_length_8abf5 1 = .ok (.getfield 9, 3) := by decide +kernel
theorem dJ0_length_8abf5_4 : decode cJ0_length_8abf5 4 = .ok (.arraylength, 1) := by decide +kernel
theorem dJ0_length_8abf5_5 : decode cJ0_length_8abf5 5 = .ok (.aload_n 0, 1) := by decide +kernel
theorem dJ0_length_8abf5_6 : decode cJ0_length_8abf5 6 = .ok (.invokevirtual 335, 3) := by decide +kernel
theorem dJ0_length_8abf5_9 : decode cJ0_length_8abf5 9 = .ok (.ishr, 1) := by decide +kernel
theorem dJ0_length_8abf5_10 : decode cJ0_length_8abf5 10 = .ok (.ireturn, 1) := by decide +kernel
theorem dJ0_charAt_5068e_0 : decode cJ0_charAt_5068e 0 = .ok (.aload_n 0, 1) := by decide +kernel
theorem dJ0_charAt_5068e_1 : decode cJ0_charAt_5068e 1 = .ok (.invokevirtual 492, 3) := by decide +kernel
theorem dJ0_charAt_5068e_4 : decode cJ0_charAt_5068e 4 = .ok (.ifCond .eq 12, 3) := by decide +kernel
theorem dJ0_charAt_5068e_7 : decode cJ0_charAt_5068e 7 = .ok (.aload_n 0, 1) := by decide +kernel
theorem dJ0_charAt_5068e_8 : decode cJ0_charAt_5068e 8 = .ok (.getfield 9, 3) := by decide +kernel
theorem dJ0_charAt_5068e_11 : decode cJ0_charAt_5068e 11 = .ok (.iload_n 1, 1) := by decide +kernel
theorem dJ0_charAt_5068e_12 : decode cJ0_charAt_5068e 12 = .ok (.invokestatic 495, 3) := by decide +kernel
theorem dJ0_charAt_5068e_15 : decode cJ0_charAt_5068e 15 = .ok (.ireturn, 1) := by decide +kernel
theorem dJ0_isLatin1_aae02_0 : decode cJ0_isLatin1_aae02 0 = .ok (.getstatic 38, 3) := by decide +kernel
theorem dJ0_isLatin1_aae02_3 : decode cJ0_isLatin1_aae02 3 = .ok (.ifCond .eq 14, 3) := by decide +kernel
theorem dJ0_isLatin1_aae02_6 : decode cJ0_isLatin1_aae02 6 = .ok (.aload_n 0, 1) := by decide +kernel
theorem dJ0_isLatin1_aae02_7 : decode cJ0_isLatin1_aae02 7 = .ok (.getfield 15, 3) := by decide +kernel
theorem dJ0_isLatin1_aae02_10 : decode cJ0_isLatin1_aae02 10 = .ok (.ifCond .ne 7, 3) := by decide +kernel
theorem dJ0_isLatin1_aae02_13 : decode cJ0_isLatin1_aae02 13 = .ok (.iconst 1, 1) := by decide +kernel
theorem dJ0_isLatin1_aae02_14 : decode cJ0_isLatin1_aae02 14 = .ok (.goto 4, 3) := by decide +kernel
theorem dJ0_isLatin1_aae02_18 : decode cJ0_isLatin1_aae02 18 = .ok (.ireturn, 1) := by decide +kernel
theorem dJ0_coder_7d493_0 : decode cJ0_coder_7d493 0 = .ok (.getstatic 38, 3) := by decide +kernel
theorem dJ0_coder_7d493_3 : decode cJ0_coder_7d493 3 = .ok (.ifCond .eq 10, 3) := by decide +kernel
theorem dJ0_coder_7d493_6 : decode cJ0_coder_7d493 6 = .ok (.aload_n 0, 1) := by decide +kernel
theorem dJ0_coder_7d493_7 : decode cJ0_coder_7d493 7 = .ok (.getfield 15, 3) := by decide +kernel
theorem dJ0_coder_7d493_10 : decode cJ0_coder_7d493 10 = .ok (.goto 4, 3) := by decide +kernel
theorem dJ0_coder_7d493_14 : decode cJ0_coder_7d493 14 = .ok (.ireturn, 1) := by decide +kernel
theorem dJ0_checkIndex_df160_0 : decode cJ0_checkIndex_df160 0 = .ok (.iload_n 0, 1) := by decide +kernel
theorem dJ0_checkIndex_df160_1 : decode cJ0_checkIndex_df160 1 = .ok (.iload_n 1, 1) := by decide +kernel
theorem dJ0_checkIndex_df160_2 : decode cJ0_checkIndex_df160 2 = .ok (.getstatic 1053, 3) := by decide +kernel
theorem dJ0_checkIndex_df160_5 : decode cJ0_checkIndex_df160 5 = .ok (.invokestatic 1059, 3) := by decide +kernel
theorem dJ0_checkIndex_df160_8 : decode cJ0_checkIndex_df160 8 = .ok (.pop, 1) := by decide +kernel
theorem dJ0_checkIndex_df160_9 : decode cJ0_checkIndex_df160 9 = .ok (.return_, 1) := by decide +kernel
theorem dJ1_charAt_3b067_0 : decode cJ1_charAt_3b067 0 = .ok (.iload_n 1, 1) := by decide +kernel
theorem dJ1_charAt_3b067_1 : decode cJ1_charAt_3b067 1 = .ok (.aload_n 0, 1) := by decide +kernel
theorem dJ1_charAt_3b067_2 : decode cJ1_charAt_3b067 2 = .ok (.arraylength, 1) := by decide +kernel
theorem dJ1_charAt_3b067_3 : decode cJ1_charAt_3b067 3 = .ok (.invokestatic 9, 3) := by decide +kernel
theorem dJ1_charAt_3b067_6 : decode cJ1_charAt_3b067 6 = .ok (.aload_n 0, 1) := by decide +kernel
theorem dJ1_charAt_3b067_7 : decode cJ1_charAt_3b067 7 = .ok (.iload_n 1, 1) := by decide +kernel
theorem dJ1_charAt_3b067_8 : decode cJ1_charAt_3b067 8 = .ok (.baload, 1) := by decide +kernel
theorem dJ1_charAt_3b067_9 : decode cJ1_charAt_3b067 9 = .ok (.sipush 255, 3) := by decide +kernel
theorem dJ1_charAt_3b067_12 : decode cJ1_charAt_3b067 12 = .ok (.iand, 1) := by decide +kernel
theorem dJ1_charAt_3b067_13 : decode cJ1_charAt_3b067 13 = .ok (.i2c, 1) := by decide +kernel
theorem dJ1_charAt_3b067_14 : decode cJ1_charAt_3b067 14 = .ok (.ireturn, 1) := by decide +kernel
theorem dJ3_checkIndex_8e157_0 : decode cJ3_checkIndex_8e157 0 = .ok (.iload_n 0, 1) := by decide +kernel
theorem dJ3_checkIndex_8e157_1 : decode cJ3_checkIndex_8e157 1 = .ok (.ifCond .lt 8, 3) := by decide +kernel
theorem dJ3_checkIndex_8e157_4 : decode cJ3_checkIndex_8e157 4 = .ok (.iload_n 0, 1) := by decide +kernel
theorem dJ3_checkIndex_8e157_5 : decode cJ3_checkIndex_8e157 5 = .ok (.iload_n 1, 1) := by decide +kernel
theorem dJ3_checkIndex_8e157_6 : decode cJ3_checkIndex_8e157 6 = .ok (.if_icmp .lt 10, 3) := by decide +kernel
theorem dJ3_checkIndex_8e157_16 : decode cJ3_checkIndex_8e157 16 = .ok (.iload_n 0, 1) := by decide +kernel
theorem dJ3_checkIndex_8e157_17 : decode cJ3_checkIndex_8e157 17 = .ok (.ireturn, 1) := by decide +kernel
end ZOL
section ZOM
theorem kJ0_335 : zCL RJ0 335 mJ0_coder_7d493 0 := ⟨zi3 107 rfl rfl, wJ0_coder_7d493, zi1 4 rfl rfl, ⟨by decide, by decide, by decide +kernel⟩, by decide⟩
theorem kJ0_492 : zCL RJ0 492 mJ0_isLatin1_aae02 0 := ⟨zi3 116 rfl rfl, wJ0_isLatin1_aae02, zi1 4 rfl rfl, ⟨by decide, by decide, by decide +kernel⟩, by decide⟩
theorem kJ0_495 : zCL RJ0 495 mJ1_charAt_3b067 2 := ⟨zi3 120 rfl rfl, wJ1_charAt_3b067, zi1 16 rfl rfl, ⟨by decide, by decide, by decide +kernel⟩, by decide⟩
theorem kJ0_1059 : zCL RJ0 1059 mJ3_checkIndex_8e157 3 := ⟨zi3 128 rfl rfl, wJ3_checkIndex_8e157, zi1 17 rfl rfl, ⟨by decide, by decide, by decide +kernel⟩, by decide⟩
theorem kJ1_9 : zCL RJ1 9 mJ0_checkIndex_df160 2 := ⟨zi3 123 rfl rfl, wJ0_checkIndex_df160, zi1 4 rfl rfl, ⟨by decide, by decide, by decide +kernel⟩, by decide⟩
end ZOM

/-! what holds between the calls of the law -/
section ZLI
variable {G : zG} {M : zMeth} {d pc : Nat} {ls : List (Nat × zV)} {st : List zV} {σ σ1 : zMem} {Q : zRes → zMem → Prop} {P : Nat → Int → Prop} {S S1 : zS} {Sn : Int → Int} {sf cc ep : Int} {t : Int → Int} {l : List Int} {vv cap n : Nat}
/-- the script -/
theorem zat_X {p : Program} {R : Room} {s : State} {m : MethodId} {args : Array Value} {meth : Method} {c : Code} {b L : Nat} {xs : Nat → Int32} (hC : zCx G M d p R s m args meth c) (hX : va_X b L xs (zSt0 G) (zSt0 G).heap) (hb : b < (zSt0 G).heap.size) : va_X b L xs s s.heap := va_X.moved hC.2.2.2.2.2.2.2.2.2.2.2.2.1 (va_X.kept hX (hC.2.2.2.2.2.2.2.2.2.2.2.1.2 b hb))
def zSx (G : zG) (L : Nat) (xs : Nat → Int32) : Prop := va_X (zAd G 500) L xs (zSt0 G) (zSt0 G).heap ∧ zAd G 500 < (zSt0 G).heap.size ∧ L ≤ 3072
theorem zF_sload (pc' : Nat) {L : Nat} {xs : Nat → Int32} {z : Int} (hd : decode M.2.1 pc = .ok (.iaload, 1)) (hp : pc + 1 = pc') (hX : zSx G L xs) (h0 : 0 ≤ z) (h1 : z < L) (kk : zF G M d pc' ls (zI (xs z.toNat).toInt :: st) σ Q) : zF G M d pc ls (zI z :: zR (zbg + 500) :: st) σ Q := by
  subst hp
  refine zF_step rfl rfl rfl ?_ kk
  intro ρ p e R s m args below meth c0 hC H locs cells slots lsA Qm hS hR1 hR2 kk
  have q := kk H locs lsA hS
  have hL := hX.2.2
  simp only [List.map_cons, ztr, Option.map, va_rf, hS.1.2.2.2] at q ⊢
  have ho := hC.2.2.2.2.2.2.2.2.2.2.2.1
  refine va_sld hC.1 hC.2.1 (zat_X hC hX.1 hX.2.1) (Nat.lt_of_lt_of_le hX.2.1 ho.1) (fun z => absurd hX.2.1 (Nat.not_lt.mpr z)) hS.2.1 (zin h0 h1 (by omega)) hd ?_
  rw [zcl0 z h0 (by omega)]
  rw [Int32.ofInt_toInt] at q
  exact q
theorem zF_slen (pc' : Nat) {L : Nat} {xs : Nat → Int32} (hd : decode M.2.1 pc = .ok (.arraylength, 1)) (hp : pc + 1 = pc') (hX : zSx G L xs) (kk : zF G M d pc' ls (zI (L : Int) :: st) σ Q) : zF G M d pc ls (zR (zbg + 500) :: st) σ Q := by
  subst hp
  refine zF_step rfl rfl rfl ?_ kk
  intro ρ p e R s m args below meth c0 hC H locs cells slots lsA Qm hS hR1 hR2 kk
  have q := kk H locs lsA hS
  simp only [List.map_cons, ztr, Option.map, va_rf, hS.1.2.2.2] at q ⊢
  have ho := hC.2.2.2.2.2.2.2.2.2.2.2.1
  refine va_slen hC.1 hC.2.1 (zat_X hC hX.1 hX.2.1) (Nat.lt_of_lt_of_le hX.2.1 ho.1) (fun z => absurd hX.2.1 (Nat.not_lt.mpr z)) hS.2.1 hd ?_
  rw [Int32.ofInt_eq_ofNat] at q
  exact q
theorem zrg_x (x : Int32) : zrg x.toInt := ⟨Int32.minValue_le_toInt _, Int32.toInt_lt _⟩
end ZLI

/-! the law's helpers: rules -/
section ZLH
variable {G : zG} {M : zMeth} {d pc : Nat} {ls : List (Nat × zV)} {st : List zV} {σ : zMem} {Q : zRes → zMem → Prop}
/-- an int row read with its cells brought into range -/
def zcp (σ : zMem) (r : Nat) : zMem := (σ.1, σ.2.1, fun h j => if h = r then (Int32.ofInt (zia σ h j)).toInt else zia σ h j, σ.2.2.2.1, σ.2.2.2.2)
theorem zcp_at (σ : zMem) (r : Nat) (j : Int) : zia (zcp σ r) r j = (Int32.ofInt (zia σ r j)).toInt := if_pos rfl
theorem zcp_ne (σ : zMem) {r h : Nat} (j : Int) (q : h ≠ r) : zia (zcp σ r) h j = zia σ h j := if_neg q
theorem zF_cp (r n : Nat) (hk : zkd σ r = (1, n)) (k : zF G M d pc ls st (zcp σ r) Q) : zF G M d pc ls st σ Q := by
  refine zF_step (σ1 := zcp σ r) rfl rfl rfl ?_ k
  intro ρ p e R s m args below meth c hC H locs cells slots lsA Qm hS h1 h2 kk
  have e1 : zws G ρ (zcp σ r) = zws G ρ σ := by
    show (List.range (zn σ)).map _ = (List.range (zn σ)).map _
    refine List.map_congr_left fun h _ => ?_
    congr 1
    by_cases q : h = r
    · subst q
      rw [zcell_1 (σ := zcp σ h) hk, zcell_1 hk]
      congr 4
      funext j
      rw [zcp_at, Int32.ofInt_toInt]
    · exact zcell_congr rfl (fun j => zcp_ne σ j q) (fun j => rfl)
  refine kk H locs lsA ⟨⟨?_, ?_, hS.1.2.2.1, hS.1.2.2.2⟩, hS.2⟩
  · rw [e1]; exact hS.1.1
  · rw [e1]; exact hS.1.2.1
def zw32 (a : Int) : Int := (Int32.ofInt a).toInt
theorem zF_wI {a : Int} (k : zF G M d pc ls (zI (zw32 a) :: st) σ Q) : zF G M d pc ls (zI a :: st) σ Q := by
  refine zF_step rfl rfl rfl ?_ k
  intro ρ p e R s m args below meth c hC H locs cells slots lsA Qm hS hR1 hR2 kk
  have q := kk H locs lsA hS
  simp only [List.map_cons, ztr, zw32, Int32.ofInt_toInt] at q ⊢
  exact q
theorem zF_wI2 {a b : Int} (k : zF G M d pc ls (zI (zw32 b) :: zI (zw32 a) :: st) σ Q) : zF G M d pc ls (zI b :: zI a :: st) σ Q := by
  refine zF_step rfl rfl rfl ?_ k
  intro ρ p e R s m args below meth c hC H locs cells slots lsA Qm hS hR1 hR2 kk
  have q := kk H locs lsA hS
  simp only [List.map_cons, ztr, zw32, Int32.ofInt_toInt] at q ⊢
  exact q
end ZLH

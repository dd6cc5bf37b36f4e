/-! an act on both sides: what it leaves -/
section ZQD
variable {σ σ1 σ2 : zMem} {N N' : Int → Int} {H : Int → Int → Int} {u T v : Int} {E : Nat → Nat} {n0 k : Nat} {ro : zRes}
/-- prints of a film, counted -/
def prSum (N : Int → Int) (f : Int) : Int := zsum (fun p => mP N f (p + -1)) ((N 0).toNat + 1)
/-- numbers that an act may make of others -/
def aTo (N N' : Int → Int) : Prop := (N' 0 = N 0 ∧ N' 1 = N 1 ∧ N' 2 = N 2) ∧ ∀ f, 0 ≤ f → f < N 2 → prSum N' f = prSum N f
def pAct (N : Int → Int) (H : Int → Int → Int) (u T : Int) (E : Nat → Nat) (n0 : Nat) (σ : zMem) (ro : zRes) (σ1 : zMem) : Prop := ∃ (v : Int) (N' : Int → Int) (E' : Nat → Nat), ro = .inl (some (zI v)) ∧ zAE E (zn σ) σ σ1 ∧ zB σ σ1 8 ∧ (∀ i, E' i = E i ∨ zn σ ≤ E' i) ∧ E' 0 = E 0 ∧ eU E' n0 (zn σ1) ∧ eO N' σ1 E' ∧ ((v = 0 ∧ N' = N ∧ cL T (N, H, u) σ1) ∨ (v = 1 ∧ cL (T + 1) (sRec (N, H, u) N') σ1 ∧ aTo N N'))
theorem cL.up (c : cL T (N, H, u) σ) {T' : Int} (h : T ≤ T') : cL T' (N, H, u) σ := ⟨c.1, c.2.1, c.2.2.1.up h, c.2.2.2⟩
theorem cL.ups {S : zS} (c : cL T S σ) {T' : Int} (h : T ≤ T') : cL T' S σ := ⟨c.1, c.2.1, c.2.2.1.up h, c.2.2.2⟩
/-- refused: nothing of Own's changed -/
theorem pAct_no (f : zFr (cMu B0) σ σ1) (e : ro = .inl (some (zI 0))) (c : cL T (N, H, u) σ1) (o : eO N σ1 E) (hu : eU E n0 (zn σ)) : pAct N H u T E n0 σ ro σ1 := ⟨0, N, E, e, zAE_fr f, ⟨by rw [f.1]; omega, by rw [f.2.2.2.1]; omega, by rw [f.2.2.2.2.1]; omega⟩, fun i => Or.inl rfl, rfl, by rw [f.1]; exact hu, o, Or.inl ⟨rfl, rfl, c⟩⟩
/-- done: Own's cells written in place -/
theorem pAct_do (a : zAE E (zn σ) σ σ1) (b : zB σ σ1 8) (e : ro = .inl (some (zI 1))) (c : cL (T + 1) (sRec (N, H, u) N') σ1) (o : eO N' σ1 E) (hu : eU E n0 (zn σ1)) (t : aTo N N') : pAct N H u T E n0 σ ro σ1 := ⟨1, N', E, e, a, b, fun i => Or.inl rfl, rfl, hu, o, Or.inr ⟨rfl, c, t⟩⟩
theorem prSum_eq (h0 : N' 0 = N 0) {f : Int} (f0 : 0 ≤ f) (f1 : f < 6) (h4 : N 0 ≤ 4) (h : ∀ j, 154 ≤ j → j < 184 → N' j = N j) : prSum N' f = prSum N f := by
  unfold prSum
  rw [h0]
  exact zsum_congr fun p hp => h _ (by omega) (by omega)
/-- numbers that keep the prints -/
theorem aTo_eq (hV : mV N) (h : ∀ j, j = 0 ∨ j = 1 ∨ j = 2 ∨ (154 ≤ j ∧ j < 184) → N' j = N j) : aTo N N' := by
  have hn := hV.n
  exact ⟨⟨h 0 (by omega), h 1 (by omega), h 2 (by omega)⟩, fun f f0 f1 => prSum_eq (h 0 (by omega)) f0 (by omega) (by omega) fun j a b => h j (by omega)⟩
theorem zB_fr {m : Nat} {P : Nat → Int → Prop} (f : zFr P σ σ1) : zB σ σ1 m := ⟨by rw [f.1]; omega, by rw [f.2.2.2.1]; omega, by rw [f.2.2.2.2.1]; omega⟩
theorem zB.tr {a b : Nat} (h : zB σ σ1 a) (q : zB σ1 σ2 b) : zB σ σ2 (a + b) := by unfold zB at h q ⊢; omega
end ZQD

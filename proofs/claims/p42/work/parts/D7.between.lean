/-! what holds between the law's acts -/
section ZQL
variable {G : zG} {d : Nat} {σ σ1 σ2 : zMem} {N N0 : Int → Int} {H : Int → Int → Int} {T u : Int} {a6 a7 n0 : Nat} {E E1 : Nat → Nat}
theorem eO.kp (hb : eB N) (h : eO N σ E) (hn : zn σ ≤ zn σ1) (g : ∀ i, E i < zn σ → zkd σ1 (E i) = zkd σ (E i) ∧ ∀ j, zra σ1 (E i) j = zra σ (E i) j ∧ zia σ1 (E i) j = zia σ (E i) j) : eO N σ1 E := by
  obtain ⟨b0, b1, b2, -⟩ := hb
  obtain ⟨l0, lf, l6, l7, l8, l9, l10⟩ := h.lt
  have kd : ∀ {i : Nat} {v : Nat × Nat}, E i < zn σ → zkd σ (E i) = v → zkd σ1 (E i) = v := fun q e => (g _ q).1.trans e
  have ra : ∀ {i : Nat} {j : Int} {v : Option Nat}, E i < zn σ → zra σ (E i) j = v → zra σ1 (E i) j = v := fun q e => ((g _ q).2 _).1.trans e
  have ia : ∀ {i : Nat} {j : Int} {v : Int}, E i < zn σ → zia σ (E i) j = v → zia σ1 (E i) j = v := fun q e => ((g _ q).2 _).2.trans e
  have lt : ∀ {x : Nat}, x < zn σ → x < zn σ1 := fun q => Nat.lt_of_lt_of_le q hn
  refine ⟨⟨⟨kd l0 h.k0, lt h.l0, fun k t n q => ?_⟩, fun i a b => ?_, fun i a b => ?_, fun i a b => ?_, fun i a b => ?_, fun i a b => ?_, h.inj⟩, ⟨ia l0 h.i0, ia l0 h.i1, ia l0 h.i2, ia l0 h.i3, ia l0 h.i4, ia l0 h.i5⟩, fun x k a b c e => ia (l6 x a b) (h.c6 x k a b c e), fun x k a b c e => ia (l7 x a b) (h.c7 x k a b c e), fun x k a b c => ia (l8 x a b) (h.c8q x k a b c), fun x k a b c e => ?_, fun x k a b c e => ?_, fun k a b => ia (lf 11 1 4 (by decide)) (h.c11 k a b)⟩
  · have f := h.f k t n q; have z := lf k t n q; exact ⟨ra l0 f.1, lt f.2.1, kd z f.2.2⟩
  · have f := h.r6 i a b; have q := lf 6 6 4 (by decide); exact ⟨ra q f.1, lt f.2.1, kd (l6 i a b) f.2.2⟩
  · have f := h.r7 i a b; have q := lf 7 6 10 (by decide); exact ⟨ra q f.1, lt f.2.1, kd (l7 i a b) f.2.2⟩
  · have f := h.r8 i a b; have q := lf 8 6 6 (by decide); exact ⟨ra q f.1, lt f.2.1, kd (l8 i a b) f.2.2⟩
  · have f := h.r9 i a b; have q := lf 9 6 6 (by decide); exact ⟨ra q f.1, lt f.2.1, kd (l9 i a b) f.2.2⟩
  · have f := h.r10 i a b; have q := lf 10 6 4 (by decide); exact ⟨ra q f.1, lt f.2.1, kd (l10 i a b) f.2.2⟩
  · exact ia (l9 x a (by omega)) (h.c9 x k a b c e)
  · exact ia (l10 x a (by omega)) (h.c10 x k a b c e)
theorem B_not {x : Nat} (h1 : 228 ≤ x) (h2 : x ≤ zbg) (j : Int) : ¬ cMu B0 x j := fun z => by
  obtain ⟨i, _, _, e⟩ := cMu_i z
  have := B0_lt i
  have e1 : zbg = 1000000 := rfl
  omega
theorem eO.zmu (hb : eB N) (h : eO N σ E) (hU : eU E n0 (zn σ)) (hn : 228 ≤ n0) (hz : zn σ ≤ zbg) (g : zMu (zn σ) σ σ1) : eO N σ1 E := h.kp hb g.1 fun i hi => ⟨(g.2 _ (Or.inl hi)).1, fun j => ⟨((g.2 _ (Or.inl hi)).2 j).1, ((g.2 _ (Or.inl hi)).2 j).2 (B_not (hU.ge228 hn i) (by omega) j)⟩⟩
theorem zMu_ae (h : zMu (zn σ) σ σ1) : zAE E (zn σ) σ σ1 := ⟨h.1, fun x hx => ⟨(h.2 x (Or.inl hx)).1, fun _ j => (h.2 x (Or.inl hx)).2 j⟩⟩
/-- the law's own arrays, and the snapshot -/
def lM (N0 : Int → Int) (a6 a7 : Nat) (E : Nat → Nat) (σ : zMem) : Prop := (∀ i, E i ≠ a6 ∧ E i ≠ a7) ∧ (229 ≤ a6 ∧ a6 < zn σ ∧ 229 ≤ a7 ∧ a7 < zn σ ∧ a6 ≠ a7) ∧ zkd σ a6 = (1, (N0 2).toNat) ∧ zkd σ a7 = (4, 10) ∧ (∀ f : Int, 0 ≤ f → f < N0 2 → zia σ a6 f = prSum N0 f) ∧ cRs N0 σ B0 2000 ∧ zia σ (B0 600) ((4 : Nat) : Int) = 1
/-- what was before the acts that can be taken back -/
def lW (H : Int → Int → Int) (u : Int) (a7 : Nat) (σ : zMem) : Prop := ∀ j : Int, 0 ≤ j → j < u → zia σ a7 j = aV (H j)
theorem ae_i {x : Nat} (a : zAE E (zn σ) σ σ1) (h1 : 228 ≤ x) (h2 : x < zn σ) (hz : zn σ ≤ zbg) (ne : ∀ i, E i ≠ x) (j : Int) : zia σ1 x j = zia σ x j := (((a.2 x h2).2 (fun i e => ne i e.symm)) j).2 (B_not h1 (by omega) j)
theorem lM.ae (h : lM N0 a6 a7 E σ) (a : zAE E (zn σ) σ σ1) (hU : ∀ i, 228 ≤ E i) (hE : ∀ i, E1 i = E i ∨ zn σ ≤ E1 i) (hz : zn σ ≤ zbg) : lM N0 a6 a7 E1 σ1 := by
  obtain ⟨ne, ⟨p1, p2, p3, p4, p5⟩, k6, k7, v6, sn, s4⟩ := h
  have gr := a.1
  refine ⟨fun i => ?_, ⟨p1, by omega, p3, by omega, p5⟩, (a.2 a6 p2).1.trans k6, (a.2 a7 p4).1.trans k7, fun f f0 f1 => (ae_i a (by omega) p2 hz (fun i => (ne i).1) f).trans (v6 f f0 f1), cRs_ib (fun m hm h2 j => ?_) sn, ((((a.2 (B0 600) (by have := B0_h3.2.2; omega)).2 (fun i e => by have := hU i; have := B0_h3.2.2; omega)) _).2 (fun z => ?_)).trans s4⟩
  · rcases hE i with q | q
    · rw [q]; exact ne i
    · omega
  · have b := B0_h5 m hm h2
    exact (((a.2 (B0 (2000 + m)) (by omega)).2 (fun i e => by have := hU i; omega)) j).2 (fun z => by
      obtain ⟨i, _, q, e⟩ := cMu_i z
      have := B0_inj _ _ e
      omega)
  · rcases z with ⟨⟨i, _, q, e⟩, _⟩ | z | ⟨i, q, _, e⟩
    · have := B0_inj _ _ e; omega
    · have := z.2; omega
    · have := B0_inj _ _ e; omega
theorem lW.ae (w : lW H u a7 σ) (h : lM N0 a6 a7 E σ) (a : zAE E (zn σ) σ σ1) (hz : zn σ ≤ zbg) : lW H u a7 σ1 := fun j j0 j1 => by
  obtain ⟨ne, ⟨p1, p2, p3, p4, p5⟩, -⟩ := h
  exact (ae_i a (by omega) p4 hz (fun i => (ne i).2) j).trans (w j j0 j1)
/-- the chain that was told -/
def lG (N0 : Int → Int) : Prop := gN 0 N0 ∧ fe N0 ∧ 1 ≤ N0 0 ∧ N0 0 ≤ 3 ∧ 1 ≤ N0 2 ∧ N0 2 ≤ 4
/-- what holds before the k-th act -/
def lS (N0 : Int → Int) (a6 a7 k : Nat) (N : Int → Int) (H : Int → Int → Int) (u : Int) (E : Nat → Nat) (σ : zMem) : Prop := cL (k : Int) (N, H, u) σ ∧ eO N σ E ∧ eU E 229 (zn σ) ∧ E 0 = 229 ∧ cE N0 N ∧ (∀ f, 0 ≤ f → f < N0 2 → prSum N f = prSum N0 f) ∧ lM N0 a6 a7 E σ ∧ lW H u a7 σ ∧ zn σ ≤ 400 + 20 * k ∧ zcs σ ≤ 500 + 20 * k ∧ zss σ ≤ 20000 + 2000 * k
/-- the sums of prints, as they grow -/
def sI (N0 : Int → Int) (σ : zMem) (x y : Nat) (σ1 : zMem) : Prop := zGw (zn σ) σ σ1 ∧ (zn σ1 = zn σ + 1 ∧ zcs σ1 = zcs σ + 1 ∧ zss σ1 = zss σ + (N0 2).toNat) ∧ zkd σ1 (zn σ) = (1, (N0 2).toNat) ∧ zia σ1 (zn σ) (x : Int) = zsum (fun p => mP N0 x (p + -1)) y ∧ (∀ f : Nat, f < x → zia σ1 (zn σ) (f : Int) = prSum N0 f) ∧ ∀ f : Nat, x < f → zia σ1 (zn σ) (f : Int) = 0
theorem sI_0 : sI N0 σ 0 0 (znw σ 1 (N0 2).toNat (N0 2).toNat) := by
  have i : ∀ j, zia (znw σ 1 (N0 2).toNat (N0 2).toNat) (zn σ) j = 0 := fun j => by rw [zia_nw, if_pos rfl]
  exact ⟨zGw_nw zGw.rf (Nat.le_refl _), ⟨rfl, rfl, rfl⟩, by rw [zkd_nw, if_pos rfl], i _, fun f h => absurd h (Nat.not_lt_zero _), fun f _ => i _⟩
theorem sI_y {x y : Nat} (h : sI N0 σ x y σ1) : sI N0 σ x (y + 1) (zsi σ1 (zn σ) (x : Int) (zia σ1 (zn σ) (x : Int) + mP N0 x ((y : Int) + -1))) := by
  obtain ⟨g, n, k, v, l, r⟩ := h
  refine ⟨zGw_si g (Nat.le_refl _), n, k, ?_, fun f hf => ?_, fun f hf => ?_⟩
  · rw [zsi_same, v]; rfl
  · rw [zia_si, if_neg (by omega)]; exact l f hf
  · rw [zia_si, if_neg (by omega)]; exact r f hf
theorem sI_x {x : Nat} (h : sI N0 σ x ((N0 0).toNat + 1) σ1) : sI N0 σ (x + 1) 0 σ1 := by
  obtain ⟨g, n, k, v, l, r⟩ := h
  refine ⟨g, n, k, r (x + 1) (by omega), fun f hf => ?_, fun f hf => r f (by omega)⟩
  by_cases c : f = x
  · subst c; exact v
  · exact l f (by omega)
theorem sI_all {x : Nat} (h : sI N0 σ x 0 σ1) (hx : (x : Int) = N0 2) : ∀ f : Int, 0 ≤ f → f < N0 2 → zia σ1 (zn σ) f = prSum N0 f := fun f f0 f1 => by
  obtain ⟨n, e⟩ := Int.eq_ofNat_of_zero_le f0
  subst e
  exact h.2.2.2.2.1 n (by omega)
end ZQL

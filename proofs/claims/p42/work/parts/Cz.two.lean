/-! the class stays while the law's own chain changes -/
section ZQC
variable {σ σ1 σ2 : zMem} {N : Int → Int} {H : Int → Int → Int} {u T : Int} {S : zS} {E : Nat → Nat} {n n0 : Nat}
theorem cRs_ib {b : Nat} (hk : ∀ m, m ≤ 15 → m ≠ 1 ∧ m ≠ 2 → ∀ j, zia σ1 (B0 (b + m)) j = zia σ (B0 (b + m)) j) (c : cRs N σ B0 b) : cRs N σ1 B0 b := by
  have e : ∀ m, m ≤ 15 → m ≠ 1 ∧ m ≠ 2 → zia σ1 (B0 (b + m)) = zia σ (B0 (b + m)) := fun m hm h2 => funext (hk m hm h2)
  have e0 : zia σ1 (B0 b) = zia σ (B0 b) := e 0 (by omega) (by omega)
  unfold cRs at c ⊢
  rw [e0, e 3 (by omega) (by omega), e 4 (by omega) (by omega), e 5 (by omega) (by omega), e 6 (by omega) (by omega), e 7 (by omega) (by omega), e 8 (by omega) (by omega), e 9 (by omega) (by omega), e 10 (by omega) (by omega), e 11 (by omega) (by omega), e 12 (by omega) (by omega), e 13 (by omega) (by omega), e 14 (by omega) (by omega), e 15 (by omega) (by omega)]
  exact c
theorem cRc_ib {b : Nat} (hk : ∀ m, m ≤ 12 → m ≠ 3 ∧ m ≠ 7 → ∀ j, zia σ1 (B0 (b + m)) j = zia σ (B0 (b + m)) j) (c : cRc N σ B0 b) : cRc N σ1 B0 b := by
  have e : ∀ m, m ≤ 12 → m ≠ 3 ∧ m ≠ 7 → zia σ1 (B0 (b + m)) = zia σ (B0 (b + m)) := fun m hm h2 => funext (hk m hm h2)
  have e0 : zia σ1 (B0 b) = zia σ (B0 b) := e 0 (by omega) (by omega)
  unfold cRc at c ⊢
  rw [e0, e 1 (by omega) (by omega), e 2 (by omega) (by omega), e 4 (by omega) (by omega), e 5 (by omega) (by omega), e 6 (by omega) (by omega), e 8 (by omega) (by omega), e 9 (by omega) (by omega), e 10 (by omega) (by omega), e 11 (by omega) (by omega), e 12 (by omega) (by omega)]
  exact c
theorem B0_h1 : ∀ m, m ≤ 12 → m ≠ 3 ∧ m ≠ 7 → B0 (100 + m) < 228 := by decide +kernel
theorem B0_h2 : ∀ m, m ≤ 15 → m ≠ 1 ∧ m ≠ 2 → B0 (200 + m) < 228 := by decide +kernel
theorem B0_h3 : B0 302 < 228 ∧ B0 408 < 228 ∧ B0 600 < 228 := by decide +kernel
theorem B0_h4 : ∀ i, i < 10 → ∀ m, m ≤ 15 → m ≠ 1 ∧ m ≠ 2 → B0 (1000 + 100 * i + m) < 228 := by decide +kernel
theorem B0_h5 : ∀ m, m ≤ 15 → m ≠ 1 ∧ m ≠ 2 → B0 (2000 + m) < 228 := by decide +kernel
/-- what is below stays -/
theorem cST_ib (h : ∀ k, B0 k < 228 → ∀ j, zia σ1 (B0 k) j = zia σ (B0 k) j) (c : cST S σ B0) : cST S σ1 B0 := by
  obtain ⟨⟨a, b, g⟩, nx, h1, h2, h3, h4⟩ := c
  refine ⟨⟨cRc_ib (fun m hm q => h _ (B0_h1 m hm q)) a, cRs_ib (fun m hm q => h _ (B0_h2 m hm q)) b, fun s dd s0 s1 d0 d1 => (h 302 B0_h3.1 _).trans (g s dd s0 s1 d0 d1)⟩, nx, (h 600 B0_h3.2.2 _).trans h1, (h 600 B0_h3.2.2 _).trans h2, h3, fun k k0 k1 => ?_⟩
  refine cRs_ib (fun m hm q => h _ ?_) (h4 k k0 k1)
  unfold slb
  exact B0_h4 _ (by omega) m hm q
theorem cL.ib (c : cL T S σ) (p : pSh σ1) (h : ∀ k, B0 k < 228 → ∀ j, zia σ1 (B0 k) j = zia σ (B0 k) j) : cL T S σ1 := ⟨p, cST_ib h c.2.1, c.2.2.1, (h 408 B0_h3.2.1 _).trans c.2.2.2.1, c.2.2.2.2⟩
theorem pSh.ge (s : pSh σ) (g : zGE E n σ σ1) (hn : 228 ≤ n) (hE : ∀ i, 228 ≤ E i) : pSh σ1 := ⟨Nat.le_trans s.1 g.1, fun x hx => (g.2 x (by omega)).1.trans (s.2.1 x hx), fun x j hx => (((g.2 x (by omega)).2 (fun i e => by have := hE i; omega)) j).1.trans (s.2.2 x j hx)⟩
/-- the class stays while Own's cells are written -/
theorem cL.ge (c : cL T S σ) (g : zGE E n σ σ1) (hn : 228 ≤ n) (hE : ∀ i, 228 ≤ E i) : cL T S σ1 := c.ib (c.1.ge g hn hE) fun k hk j => (((g.2 (B0 k) (by omega)).2 (fun i e => by have := hE i; omega)) j).2
theorem eU.ge228 (h : eU E n0 n) (hn : 228 ≤ n0) : ∀ i, 228 ≤ E i := fun i => by have := h i; omega
/-- Own stays while the class's cells are written -/
theorem eO.mu (h : eO N σ E) (f : zFr (cMu B0) σ σ1) (hu : eU E n0 n) (hn : 228 ≤ n0) (hz : n ≤ zbg) : eO N σ1 E := h.fr f fun i j z => by
  obtain ⟨k, e⟩ := cMu_B z
  have e1 : zbg = 1000000 := rfl
  have a := hu i
  have b := B0_lt k
  omega
/-- all but the class and Own stays -/
def zAE (E : Nat → Nat) (n : Nat) (σ σ1 : zMem) : Prop := zn σ ≤ zn σ1 ∧ ∀ x, x < n → zkd σ1 x = zkd σ x ∧ ((∀ i, x ≠ E i) → ∀ j, zra σ1 x j = zra σ x j ∧ (¬ cMu B0 x j → zia σ1 x j = zia σ x j))
theorem zAE.rf : zAE E n σ σ := ⟨Nat.le_refl _, fun x _ => ⟨rfl, fun _ j => ⟨rfl, fun _ => rfl⟩⟩⟩
theorem zAE.tr (h : zAE E n σ σ1) (k : zAE E n σ1 σ2) : zAE E n σ σ2 := ⟨Nat.le_trans h.1 k.1, fun x hx => ⟨(k.2 x hx).1.trans (h.2 x hx).1, fun q j => ⟨((k.2 x hx).2 q j).1.trans ((h.2 x hx).2 q j).1, fun w => (((k.2 x hx).2 q j).2 w).trans (((h.2 x hx).2 q j).2 w)⟩⟩⟩
theorem zAE_ge (g : zGE E n σ σ1) : zAE E n σ σ1 := ⟨g.1, fun x hx => ⟨(g.2 x hx).1, fun q j => ⟨((g.2 x hx).2 q j).1, fun _ => ((g.2 x hx).2 q j).2⟩⟩⟩
theorem zAE_fr (f : zFr (cMu B0) σ σ1) : zAE E n σ σ1 := ⟨by rw [f.1]; exact Nat.le_refl _, fun x _ => ⟨by rw [f.2.1], fun _ j => ⟨by rw [f.2.2.1], fun q => f.2.2.2.2.2 x j q⟩⟩⟩
end ZQC

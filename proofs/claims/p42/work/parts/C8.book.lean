/-! the law's own chain: a cell written; a booking -/
section ZE4
variable {G : zG} {M : zMeth} {d pc : Nat} {ls : List (Nat × zV)} {st : List zV} {σ : zMem} {Q : zRes → zMem → Prop} {E : Nat → Nat} {N : Int → Int}
def eB (N : Int → Int) : Prop := N 0 ≤ 4 ∧ N 1 ≤ 10 ∧ N 2 ≤ 6 ∧ ∀ f, 0 ≤ f → f < N 2 → mF N f 3 ≤ 4
theorem eB_of (hV : mV N) : eB N := ⟨hV.n.2.1, hV.n.2.2.2.1, hV.n.2.2.2.2.2.1, fun f f0 f1 => (hV.f f f0 (by have := hV.n; omega)).2.2.2.2.2.2.2.1⟩
theorem eB_set (hb : eB N) {j v : Int} (h : j < 0 ∨ (3 ≤ j ∧ j < 94) ∨ 154 ≤ j ∨ (94 ≤ j ∧ (j - 94) % 10 ≠ 3)) : eB (mSet N j v) := by
  obtain ⟨b0, b1, b2, b3⟩ := hb
  have nq : ∀ {i : Int}, i ≠ j → mSet N j v i = N i := fun q => if_neg q
  have n0 : mSet N j v 0 = N 0 := nq (by omega)
  have n1 : mSet N j v 1 = N 1 := nq (by omega)
  have n2 : mSet N j v 2 = N 2 := nq (by omega)
  refine ⟨by omega, by omega, by omega, fun f f0 f1 => ?_⟩
  rw [n2] at f1
  have e : mF (mSet N j v) f 3 = mF N f 3 := nq (by omega)
  rw [e]
  exact b3 f f0 f1
/-- the own chain's cells -/
def eP (E : Nat → Nat) (h : Nat) (_ : Int) : Prop := ∃ i, h = E i
theorem e_so {j v i : Int} (h : i ≠ j) : mSet N j v i = N i := if_neg h
theorem eO.p6 (hb : eB N) (h : eO N σ E) {x9 y9 v : Int} (x0 : 0 ≤ x9) (x1 : x9 < N 0) (y0 : 0 ≤ y9) (y1 : y9 < 2) : eO (mSet N (6 + 2 * x9 + y9) v) (zsi σ (E (600 + x9.toNat)) (y9) v) E := by
  obtain ⟨b0, b1, b2, b3⟩ := hb
  have ne : ∀ {i : Nat} {j : Int}, ¬ (i = 600 + x9.toNat ∧ j = y9) → zia (zsi σ (E (600 + x9.toNat)) (y9) v) (E i) j = zia σ (E i) j := fun q => by rw [zia_si, if_neg (fun z => q ⟨h.inj _ _ z.1, z.2⟩)]
  have nq : ∀ {j : Int}, j ≠ 6 + 2 * x9 + y9 → (mSet N (6 + 2 * x9 + y9) v) j = N j := fun q => if_neg q
  have sv : zia (zsi σ (E (600 + x9.toNat)) (y9) v) (E (600 + x9.toNat)) (y9) = v := zsi_same _ _ _ _
  have sq : (mSet N (6 + 2 * x9 + y9) v) (6 + 2 * x9 + y9) = v := if_pos rfl
  have n0 : (mSet N (6 + 2 * x9 + y9) v) 0 = N 0 := nq (by omega)
  have n1 : (mSet N (6 + 2 * x9 + y9) v) 1 = N 1 := nq (by omega)
  have n2 : (mSet N (6 + 2 * x9 + y9) v) 2 = N 2 := nq (by omega)
  refine ⟨by rw [n0, n1, n2]; exact h.1, ⟨(ne (by omega)).trans (h.i0.trans (nq (by omega)).symm), (ne (by omega)).trans (h.i1.trans (nq (by omega)).symm), (ne (by omega)).trans (h.i2.trans (nq (by omega)).symm), (ne (by omega)).trans (h.i3.trans (nq (by omega)).symm), (ne (by omega)).trans (h.i4.trans (nq (by omega)).symm), (ne (by omega)).trans (h.i5.trans (nq (by omega)).symm)⟩, ?_, ?_, ?_, ?_, ?_, ?_⟩
  · intro x y a b c e
    rw [n0] at b
    show zia (zsi σ (E (600 + x9.toNat)) (y9) v) (E (600 + x.toNat)) (y) = (mSet N (6 + 2 * x9 + y9) v) (6 + 2 * x + y)
    by_cases q : 6 + 2 * x + y = 6 + 2 * x9 + y9
    · have e1 : x = x9 := by omega
      have e2 : y = y9 := by omega
      subst e1
      subst e2
      exact sv.trans sq.symm
    · exact (ne (fun z => q (by omega))).trans ((h.c6 x y a b c e).trans (nq q).symm)
  · intro x y a b c e
    rw [n1] at b
    show zia (zsi σ (E (600 + x9.toNat)) (y9) v) (E (700 + x.toNat)) (y) = (mSet N (6 + 2 * x9 + y9) v) (14 + 8 * x + y)
    have q : 14 + 8 * x + y ≠ 6 + 2 * x9 + y9 := by omega
    exact (ne (by omega)).trans ((h.c7 x y a b c e).trans (nq q).symm)
  · intro x y a b c
    rw [n2] at b
    have e3 : mF (mSet N (6 + 2 * x9 + y9) v) x 3 = mF N x 3 := nq (by omega)
    rw [e3] at c
    have t3 := b3 x a b
    show zia (zsi σ (E (600 + x9.toNat)) (y9) v) (E (800 + x.toNat)) (y) = (mSet N (6 + 2 * x9 + y9) v) (94 + 10 * x + y)
    have q : 94 + 10 * x + y ≠ 6 + 2 * x9 + y9 := by omega
    exact (ne (by omega)).trans ((h.c8q x y a b c).trans (nq q).symm)
  · intro x y a b c e
    rw [n2] at b
    rw [n0] at e
    show zia (zsi σ (E (600 + x9.toNat)) (y9) v) (E (900 + x.toNat)) (y + 1) = (mSet N (6 + 2 * x9 + y9) v) (154 + 5 * x + y + 1)
    have q : 154 + 5 * x + y + 1 ≠ 6 + 2 * x9 + y9 := by omega
    exact (ne (by omega)).trans ((h.c9 x y a b c e).trans (nq q).symm)
  · intro x y a b c e
    rw [n0] at b
    rw [n2] at e
    show zia (zsi σ (E (600 + x9.toNat)) (y9) v) (E (1000 + x.toNat)) (y) = (mSet N (6 + 2 * x9 + y9) v) (184 + 6 * x + y)
    have q : 184 + 6 * x + y ≠ 6 + 2 * x9 + y9 := by omega
    exact (ne (by omega)).trans ((h.c10 x y a b c e).trans (nq q).symm)
  · intro y c e
    show zia (zsi σ (E (600 + x9.toNat)) (y9) v) (E (11)) (y) = (mSet N (6 + 2 * x9 + y9) v) (208 + y)
    have q : 208 + y ≠ 6 + 2 * x9 + y9 := by omega
    exact (ne (by omega)).trans ((h.c11 y c e).trans (nq q).symm)
theorem eO.p7 (hb : eB N) (h : eO N σ E) {x9 y9 v : Int} (x0 : 0 ≤ x9) (x1 : x9 < N 1) (y0 : 0 ≤ y9) (y1 : y9 < 8) : eO (mSet N (14 + 8 * x9 + y9) v) (zsi σ (E (700 + x9.toNat)) (y9) v) E := by
  obtain ⟨b0, b1, b2, b3⟩ := hb
  have ne : ∀ {i : Nat} {j : Int}, ¬ (i = 700 + x9.toNat ∧ j = y9) → zia (zsi σ (E (700 + x9.toNat)) (y9) v) (E i) j = zia σ (E i) j := fun q => by rw [zia_si, if_neg (fun z => q ⟨h.inj _ _ z.1, z.2⟩)]
  have nq : ∀ {j : Int}, j ≠ 14 + 8 * x9 + y9 → (mSet N (14 + 8 * x9 + y9) v) j = N j := fun q => if_neg q
  have sv : zia (zsi σ (E (700 + x9.toNat)) (y9) v) (E (700 + x9.toNat)) (y9) = v := zsi_same _ _ _ _
  have sq : (mSet N (14 + 8 * x9 + y9) v) (14 + 8 * x9 + y9) = v := if_pos rfl
  have n0 : (mSet N (14 + 8 * x9 + y9) v) 0 = N 0 := nq (by omega)
  have n1 : (mSet N (14 + 8 * x9 + y9) v) 1 = N 1 := nq (by omega)
  have n2 : (mSet N (14 + 8 * x9 + y9) v) 2 = N 2 := nq (by omega)
  refine ⟨by rw [n0, n1, n2]; exact h.1, ⟨(ne (by omega)).trans (h.i0.trans (nq (by omega)).symm), (ne (by omega)).trans (h.i1.trans (nq (by omega)).symm), (ne (by omega)).trans (h.i2.trans (nq (by omega)).symm), (ne (by omega)).trans (h.i3.trans (nq (by omega)).symm), (ne (by omega)).trans (h.i4.trans (nq (by omega)).symm), (ne (by omega)).trans (h.i5.trans (nq (by omega)).symm)⟩, ?_, ?_, ?_, ?_, ?_, ?_⟩
  · intro x y a b c e
    rw [n0] at b
    show zia (zsi σ (E (700 + x9.toNat)) (y9) v) (E (600 + x.toNat)) (y) = (mSet N (14 + 8 * x9 + y9) v) (6 + 2 * x + y)
    have q : 6 + 2 * x + y ≠ 14 + 8 * x9 + y9 := by omega
    exact (ne (by omega)).trans ((h.c6 x y a b c e).trans (nq q).symm)
  · intro x y a b c e
    rw [n1] at b
    show zia (zsi σ (E (700 + x9.toNat)) (y9) v) (E (700 + x.toNat)) (y) = (mSet N (14 + 8 * x9 + y9) v) (14 + 8 * x + y)
    by_cases q : 14 + 8 * x + y = 14 + 8 * x9 + y9
    · have e1 : x = x9 := by omega
      have e2 : y = y9 := by omega
      subst e1
      subst e2
      exact sv.trans sq.symm
    · exact (ne (fun z => q (by omega))).trans ((h.c7 x y a b c e).trans (nq q).symm)
  · intro x y a b c
    rw [n2] at b
    have e3 : mF (mSet N (14 + 8 * x9 + y9) v) x 3 = mF N x 3 := nq (by omega)
    rw [e3] at c
    have t3 := b3 x a b
    show zia (zsi σ (E (700 + x9.toNat)) (y9) v) (E (800 + x.toNat)) (y) = (mSet N (14 + 8 * x9 + y9) v) (94 + 10 * x + y)
    have q : 94 + 10 * x + y ≠ 14 + 8 * x9 + y9 := by omega
    exact (ne (by omega)).trans ((h.c8q x y a b c).trans (nq q).symm)
  · intro x y a b c e
    rw [n2] at b
    rw [n0] at e
    show zia (zsi σ (E (700 + x9.toNat)) (y9) v) (E (900 + x.toNat)) (y + 1) = (mSet N (14 + 8 * x9 + y9) v) (154 + 5 * x + y + 1)
    have q : 154 + 5 * x + y + 1 ≠ 14 + 8 * x9 + y9 := by omega
    exact (ne (by omega)).trans ((h.c9 x y a b c e).trans (nq q).symm)
  · intro x y a b c e
    rw [n0] at b
    rw [n2] at e
    show zia (zsi σ (E (700 + x9.toNat)) (y9) v) (E (1000 + x.toNat)) (y) = (mSet N (14 + 8 * x9 + y9) v) (184 + 6 * x + y)
    have q : 184 + 6 * x + y ≠ 14 + 8 * x9 + y9 := by omega
    exact (ne (by omega)).trans ((h.c10 x y a b c e).trans (nq q).symm)
  · intro y c e
    show zia (zsi σ (E (700 + x9.toNat)) (y9) v) (E (11)) (y) = (mSet N (14 + 8 * x9 + y9) v) (208 + y)
    have q : 208 + y ≠ 14 + 8 * x9 + y9 := by omega
    exact (ne (by omega)).trans ((h.c11 y c e).trans (nq q).symm)
theorem eO.p8 (hb : eB N) (h : eO N σ E) {x9 y9 v : Int} (x0 : 0 ≤ x9) (x1 : x9 < N 2) (y0 : 8 ≤ y9) (y1 : y9 < 10) : eO (mSet N (94 + 10 * x9 + y9) v) (zsi σ (E (800 + x9.toNat)) (y9) v) E := by
  obtain ⟨b0, b1, b2, b3⟩ := hb
  have ne : ∀ {i : Nat} {j : Int}, ¬ (i = 800 + x9.toNat ∧ j = y9) → zia (zsi σ (E (800 + x9.toNat)) (y9) v) (E i) j = zia σ (E i) j := fun q => by rw [zia_si, if_neg (fun z => q ⟨h.inj _ _ z.1, z.2⟩)]
  have nq : ∀ {j : Int}, j ≠ 94 + 10 * x9 + y9 → (mSet N (94 + 10 * x9 + y9) v) j = N j := fun q => if_neg q
  have sv : zia (zsi σ (E (800 + x9.toNat)) (y9) v) (E (800 + x9.toNat)) (y9) = v := zsi_same _ _ _ _
  have sq : (mSet N (94 + 10 * x9 + y9) v) (94 + 10 * x9 + y9) = v := if_pos rfl
  have n0 : (mSet N (94 + 10 * x9 + y9) v) 0 = N 0 := nq (by omega)
  have n1 : (mSet N (94 + 10 * x9 + y9) v) 1 = N 1 := nq (by omega)
  have n2 : (mSet N (94 + 10 * x9 + y9) v) 2 = N 2 := nq (by omega)
  refine ⟨by rw [n0, n1, n2]; exact h.1, ⟨(ne (by omega)).trans (h.i0.trans (nq (by omega)).symm), (ne (by omega)).trans (h.i1.trans (nq (by omega)).symm), (ne (by omega)).trans (h.i2.trans (nq (by omega)).symm), (ne (by omega)).trans (h.i3.trans (nq (by omega)).symm), (ne (by omega)).trans (h.i4.trans (nq (by omega)).symm), (ne (by omega)).trans (h.i5.trans (nq (by omega)).symm)⟩, ?_, ?_, ?_, ?_, ?_, ?_⟩
  · intro x y a b c e
    rw [n0] at b
    show zia (zsi σ (E (800 + x9.toNat)) (y9) v) (E (600 + x.toNat)) (y) = (mSet N (94 + 10 * x9 + y9) v) (6 + 2 * x + y)
    have q : 6 + 2 * x + y ≠ 94 + 10 * x9 + y9 := by omega
    exact (ne (by omega)).trans ((h.c6 x y a b c e).trans (nq q).symm)
  · intro x y a b c e
    rw [n1] at b
    show zia (zsi σ (E (800 + x9.toNat)) (y9) v) (E (700 + x.toNat)) (y) = (mSet N (94 + 10 * x9 + y9) v) (14 + 8 * x + y)
    have q : 14 + 8 * x + y ≠ 94 + 10 * x9 + y9 := by omega
    exact (ne (by omega)).trans ((h.c7 x y a b c e).trans (nq q).symm)
  · intro x y a b c
    rw [n2] at b
    have e3 : mF (mSet N (94 + 10 * x9 + y9) v) x 3 = mF N x 3 := nq (by omega)
    rw [e3] at c
    have t3 := b3 x a b
    show zia (zsi σ (E (800 + x9.toNat)) (y9) v) (E (800 + x.toNat)) (y) = (mSet N (94 + 10 * x9 + y9) v) (94 + 10 * x + y)
    by_cases q : 94 + 10 * x + y = 94 + 10 * x9 + y9
    · have e1 : x = x9 := by omega
      have e2 : y = y9 := by omega
      subst e1
      subst e2
      exact sv.trans sq.symm
    · exact (ne (fun z => q (by omega))).trans ((h.c8q x y a b c).trans (nq q).symm)
  · intro x y a b c e
    rw [n2] at b
    rw [n0] at e
    show zia (zsi σ (E (800 + x9.toNat)) (y9) v) (E (900 + x.toNat)) (y + 1) = (mSet N (94 + 10 * x9 + y9) v) (154 + 5 * x + y + 1)
    have q : 154 + 5 * x + y + 1 ≠ 94 + 10 * x9 + y9 := by omega
    exact (ne (by omega)).trans ((h.c9 x y a b c e).trans (nq q).symm)
  · intro x y a b c e
    rw [n0] at b
    rw [n2] at e
    show zia (zsi σ (E (800 + x9.toNat)) (y9) v) (E (1000 + x.toNat)) (y) = (mSet N (94 + 10 * x9 + y9) v) (184 + 6 * x + y)
    have q : 184 + 6 * x + y ≠ 94 + 10 * x9 + y9 := by omega
    exact (ne (by omega)).trans ((h.c10 x y a b c e).trans (nq q).symm)
  · intro y c e
    show zia (zsi σ (E (800 + x9.toNat)) (y9) v) (E (11)) (y) = (mSet N (94 + 10 * x9 + y9) v) (208 + y)
    have q : 208 + y ≠ 94 + 10 * x9 + y9 := by omega
    exact (ne (by omega)).trans ((h.c11 y c e).trans (nq q).symm)
theorem eO.p9 (hb : eB N) (h : eO N σ E) {x9 y9 v : Int} (x0 : 0 ≤ x9) (x1 : x9 < N 2) (y0 : -1 ≤ y9) (y1 : y9 < N 0) : eO (mSet N (154 + 5 * x9 + y9 + 1) v) (zsi σ (E (900 + x9.toNat)) (y9 + 1) v) E := by
  obtain ⟨b0, b1, b2, b3⟩ := hb
  have ne : ∀ {i : Nat} {j : Int}, ¬ (i = 900 + x9.toNat ∧ j = y9 + 1) → zia (zsi σ (E (900 + x9.toNat)) (y9 + 1) v) (E i) j = zia σ (E i) j := fun q => by rw [zia_si, if_neg (fun z => q ⟨h.inj _ _ z.1, z.2⟩)]
  have nq : ∀ {j : Int}, j ≠ 154 + 5 * x9 + y9 + 1 → (mSet N (154 + 5 * x9 + y9 + 1) v) j = N j := fun q => if_neg q
  have sv : zia (zsi σ (E (900 + x9.toNat)) (y9 + 1) v) (E (900 + x9.toNat)) (y9 + 1) = v := zsi_same _ _ _ _
  have sq : (mSet N (154 + 5 * x9 + y9 + 1) v) (154 + 5 * x9 + y9 + 1) = v := if_pos rfl
  have n0 : (mSet N (154 + 5 * x9 + y9 + 1) v) 0 = N 0 := nq (by omega)
  have n1 : (mSet N (154 + 5 * x9 + y9 + 1) v) 1 = N 1 := nq (by omega)
  have n2 : (mSet N (154 + 5 * x9 + y9 + 1) v) 2 = N 2 := nq (by omega)
  refine ⟨by rw [n0, n1, n2]; exact h.1, ⟨(ne (by omega)).trans (h.i0.trans (nq (by omega)).symm), (ne (by omega)).trans (h.i1.trans (nq (by omega)).symm), (ne (by omega)).trans (h.i2.trans (nq (by omega)).symm), (ne (by omega)).trans (h.i3.trans (nq (by omega)).symm), (ne (by omega)).trans (h.i4.trans (nq (by omega)).symm), (ne (by omega)).trans (h.i5.trans (nq (by omega)).symm)⟩, ?_, ?_, ?_, ?_, ?_, ?_⟩
  · intro x y a b c e
    rw [n0] at b
    show zia (zsi σ (E (900 + x9.toNat)) (y9 + 1) v) (E (600 + x.toNat)) (y) = (mSet N (154 + 5 * x9 + y9 + 1) v) (6 + 2 * x + y)
    have q : 6 + 2 * x + y ≠ 154 + 5 * x9 + y9 + 1 := by omega
    exact (ne (by omega)).trans ((h.c6 x y a b c e).trans (nq q).symm)
  · intro x y a b c e
    rw [n1] at b
    show zia (zsi σ (E (900 + x9.toNat)) (y9 + 1) v) (E (700 + x.toNat)) (y) = (mSet N (154 + 5 * x9 + y9 + 1) v) (14 + 8 * x + y)
    have q : 14 + 8 * x + y ≠ 154 + 5 * x9 + y9 + 1 := by omega
    exact (ne (by omega)).trans ((h.c7 x y a b c e).trans (nq q).symm)
  · intro x y a b c
    rw [n2] at b
    have e3 : mF (mSet N (154 + 5 * x9 + y9 + 1) v) x 3 = mF N x 3 := nq (by omega)
    rw [e3] at c
    have t3 := b3 x a b
    show zia (zsi σ (E (900 + x9.toNat)) (y9 + 1) v) (E (800 + x.toNat)) (y) = (mSet N (154 + 5 * x9 + y9 + 1) v) (94 + 10 * x + y)
    have q : 94 + 10 * x + y ≠ 154 + 5 * x9 + y9 + 1 := by omega
    exact (ne (by omega)).trans ((h.c8q x y a b c).trans (nq q).symm)
  · intro x y a b c e
    rw [n2] at b
    rw [n0] at e
    show zia (zsi σ (E (900 + x9.toNat)) (y9 + 1) v) (E (900 + x.toNat)) (y + 1) = (mSet N (154 + 5 * x9 + y9 + 1) v) (154 + 5 * x + y + 1)
    by_cases q : 154 + 5 * x + y + 1 = 154 + 5 * x9 + y9 + 1
    · have e1 : x = x9 := by omega
      have e2 : y = y9 := by omega
      subst e1
      subst e2
      exact sv.trans sq.symm
    · exact (ne (fun z => q (by omega))).trans ((h.c9 x y a b c e).trans (nq q).symm)
  · intro x y a b c e
    rw [n0] at b
    rw [n2] at e
    show zia (zsi σ (E (900 + x9.toNat)) (y9 + 1) v) (E (1000 + x.toNat)) (y) = (mSet N (154 + 5 * x9 + y9 + 1) v) (184 + 6 * x + y)
    have q : 184 + 6 * x + y ≠ 154 + 5 * x9 + y9 + 1 := by omega
    exact (ne (by omega)).trans ((h.c10 x y a b c e).trans (nq q).symm)
  · intro y c e
    show zia (zsi σ (E (900 + x9.toNat)) (y9 + 1) v) (E (11)) (y) = (mSet N (154 + 5 * x9 + y9 + 1) v) (208 + y)
    have q : 208 + y ≠ 154 + 5 * x9 + y9 + 1 := by omega
    exact (ne (by omega)).trans ((h.c11 y c e).trans (nq q).symm)
theorem eO.p10 (hb : eB N) (h : eO N σ E) {x9 y9 v : Int} (x0 : 0 ≤ x9) (x1 : x9 < N 0) (y0 : 0 ≤ y9) (y1 : y9 < N 2) : eO (mSet N (184 + 6 * x9 + y9) v) (zsi σ (E (1000 + x9.toNat)) (y9) v) E := by
  obtain ⟨b0, b1, b2, b3⟩ := hb
  have ne : ∀ {i : Nat} {j : Int}, ¬ (i = 1000 + x9.toNat ∧ j = y9) → zia (zsi σ (E (1000 + x9.toNat)) (y9) v) (E i) j = zia σ (E i) j := fun q => by rw [zia_si, if_neg (fun z => q ⟨h.inj _ _ z.1, z.2⟩)]
  have nq : ∀ {j : Int}, j ≠ 184 + 6 * x9 + y9 → (mSet N (184 + 6 * x9 + y9) v) j = N j := fun q => if_neg q
  have sv : zia (zsi σ (E (1000 + x9.toNat)) (y9) v) (E (1000 + x9.toNat)) (y9) = v := zsi_same _ _ _ _
  have sq : (mSet N (184 + 6 * x9 + y9) v) (184 + 6 * x9 + y9) = v := if_pos rfl
  have n0 : (mSet N (184 + 6 * x9 + y9) v) 0 = N 0 := nq (by omega)
  have n1 : (mSet N (184 + 6 * x9 + y9) v) 1 = N 1 := nq (by omega)
  have n2 : (mSet N (184 + 6 * x9 + y9) v) 2 = N 2 := nq (by omega)
  refine ⟨by rw [n0, n1, n2]; exact h.1, ⟨(ne (by omega)).trans (h.i0.trans (nq (by omega)).symm), (ne (by omega)).trans (h.i1.trans (nq (by omega)).symm), (ne (by omega)).trans (h.i2.trans (nq (by omega)).symm), (ne (by omega)).trans (h.i3.trans (nq (by omega)).symm), (ne (by omega)).trans (h.i4.trans (nq (by omega)).symm), (ne (by omega)).trans (h.i5.trans (nq (by omega)).symm)⟩, ?_, ?_, ?_, ?_, ?_, ?_⟩
  · intro x y a b c e
    rw [n0] at b
    show zia (zsi σ (E (1000 + x9.toNat)) (y9) v) (E (600 + x.toNat)) (y) = (mSet N (184 + 6 * x9 + y9) v) (6 + 2 * x + y)
    have q : 6 + 2 * x + y ≠ 184 + 6 * x9 + y9 := by omega
    exact (ne (by omega)).trans ((h.c6 x y a b c e).trans (nq q).symm)
  · intro x y a b c e
    rw [n1] at b
    show zia (zsi σ (E (1000 + x9.toNat)) (y9) v) (E (700 + x.toNat)) (y) = (mSet N (184 + 6 * x9 + y9) v) (14 + 8 * x + y)
    have q : 14 + 8 * x + y ≠ 184 + 6 * x9 + y9 := by omega
    exact (ne (by omega)).trans ((h.c7 x y a b c e).trans (nq q).symm)
  · intro x y a b c
    rw [n2] at b
    have e3 : mF (mSet N (184 + 6 * x9 + y9) v) x 3 = mF N x 3 := nq (by omega)
    rw [e3] at c
    have t3 := b3 x a b
    show zia (zsi σ (E (1000 + x9.toNat)) (y9) v) (E (800 + x.toNat)) (y) = (mSet N (184 + 6 * x9 + y9) v) (94 + 10 * x + y)
    have q : 94 + 10 * x + y ≠ 184 + 6 * x9 + y9 := by omega
    exact (ne (by omega)).trans ((h.c8q x y a b c).trans (nq q).symm)
  · intro x y a b c e
    rw [n2] at b
    rw [n0] at e
    show zia (zsi σ (E (1000 + x9.toNat)) (y9) v) (E (900 + x.toNat)) (y + 1) = (mSet N (184 + 6 * x9 + y9) v) (154 + 5 * x + y + 1)
    have q : 154 + 5 * x + y + 1 ≠ 184 + 6 * x9 + y9 := by omega
    exact (ne (by omega)).trans ((h.c9 x y a b c e).trans (nq q).symm)
  · intro x y a b c e
    rw [n0] at b
    rw [n2] at e
    show zia (zsi σ (E (1000 + x9.toNat)) (y9) v) (E (1000 + x.toNat)) (y) = (mSet N (184 + 6 * x9 + y9) v) (184 + 6 * x + y)
    by_cases q : 184 + 6 * x + y = 184 + 6 * x9 + y9
    · have e1 : x = x9 := by omega
      have e2 : y = y9 := by omega
      subst e1
      subst e2
      exact sv.trans sq.symm
    · exact (ne (fun z => q (by omega))).trans ((h.c10 x y a b c e).trans (nq q).symm)
  · intro y c e
    show zia (zsi σ (E (1000 + x9.toNat)) (y9) v) (E (11)) (y) = (mSet N (184 + 6 * x9 + y9) v) (208 + y)
    have q : 208 + y ≠ 184 + 6 * x9 + y9 := by omega
    exact (ne (by omega)).trans ((h.c11 y c e).trans (nq q).symm)
theorem eO.p11 (hb : eB N) (h : eO N σ E) {y9 v : Int} (y0 : 0 ≤ y9) (y1 : y9 < 4) : eO (mSet N (208 + y9) v) (zsi σ (E (11)) (y9) v) E := by
  obtain ⟨b0, b1, b2, b3⟩ := hb
  have ne : ∀ {i : Nat} {j : Int}, ¬ (i = 11 ∧ j = y9) → zia (zsi σ (E (11)) (y9) v) (E i) j = zia σ (E i) j := fun q => by rw [zia_si, if_neg (fun z => q ⟨h.inj _ _ z.1, z.2⟩)]
  have nq : ∀ {j : Int}, j ≠ 208 + y9 → (mSet N (208 + y9) v) j = N j := fun q => if_neg q
  have sv : zia (zsi σ (E (11)) (y9) v) (E (11)) (y9) = v := zsi_same _ _ _ _
  have sq : (mSet N (208 + y9) v) (208 + y9) = v := if_pos rfl
  have n0 : (mSet N (208 + y9) v) 0 = N 0 := nq (by omega)
  have n1 : (mSet N (208 + y9) v) 1 = N 1 := nq (by omega)
  have n2 : (mSet N (208 + y9) v) 2 = N 2 := nq (by omega)
  refine ⟨by rw [n0, n1, n2]; exact h.1, ⟨(ne (by omega)).trans (h.i0.trans (nq (by omega)).symm), (ne (by omega)).trans (h.i1.trans (nq (by omega)).symm), (ne (by omega)).trans (h.i2.trans (nq (by omega)).symm), (ne (by omega)).trans (h.i3.trans (nq (by omega)).symm), (ne (by omega)).trans (h.i4.trans (nq (by omega)).symm), (ne (by omega)).trans (h.i5.trans (nq (by omega)).symm)⟩, ?_, ?_, ?_, ?_, ?_, ?_⟩
  · intro x y a b c e
    rw [n0] at b
    show zia (zsi σ (E (11)) (y9) v) (E (600 + x.toNat)) (y) = (mSet N (208 + y9) v) (6 + 2 * x + y)
    have q : 6 + 2 * x + y ≠ 208 + y9 := by omega
    exact (ne (by omega)).trans ((h.c6 x y a b c e).trans (nq q).symm)
  · intro x y a b c e
    rw [n1] at b
    show zia (zsi σ (E (11)) (y9) v) (E (700 + x.toNat)) (y) = (mSet N (208 + y9) v) (14 + 8 * x + y)
    have q : 14 + 8 * x + y ≠ 208 + y9 := by omega
    exact (ne (by omega)).trans ((h.c7 x y a b c e).trans (nq q).symm)
  · intro x y a b c
    rw [n2] at b
    have e3 : mF (mSet N (208 + y9) v) x 3 = mF N x 3 := nq (by omega)
    rw [e3] at c
    have t3 := b3 x a b
    show zia (zsi σ (E (11)) (y9) v) (E (800 + x.toNat)) (y) = (mSet N (208 + y9) v) (94 + 10 * x + y)
    have q : 94 + 10 * x + y ≠ 208 + y9 := by omega
    exact (ne (by omega)).trans ((h.c8q x y a b c).trans (nq q).symm)
  · intro x y a b c e
    rw [n2] at b
    rw [n0] at e
    show zia (zsi σ (E (11)) (y9) v) (E (900 + x.toNat)) (y + 1) = (mSet N (208 + y9) v) (154 + 5 * x + y + 1)
    have q : 154 + 5 * x + y + 1 ≠ 208 + y9 := by omega
    exact (ne (by omega)).trans ((h.c9 x y a b c e).trans (nq q).symm)
  · intro x y a b c e
    rw [n0] at b
    rw [n2] at e
    show zia (zsi σ (E (11)) (y9) v) (E (1000 + x.toNat)) (y) = (mSet N (208 + y9) v) (184 + 6 * x + y)
    have q : 184 + 6 * x + y ≠ 208 + y9 := by omega
    exact (ne (by omega)).trans ((h.c10 x y a b c e).trans (nq q).symm)
  · intro y c e
    show zia (zsi σ (E (11)) (y9) v) (E (11)) (y) = (mSet N (208 + y9) v) (208 + y)
    by_cases q : 208 + y = 208 + y9
    · have e1 : y = y9 := by omega
      subst e1
      exact sv.trans sq.symm
    · exact (ne (fun z => q (by omega))).trans ((h.c11 y c e).trans (nq q).symm)
theorem eO.pi3 (hb : eB N) (h : eO N σ E) {v : Int} : eO (mSet N (3) v) (zsi σ (E (0)) (((3 : Nat) : Int)) v) E := by
  obtain ⟨b0, b1, b2, b3⟩ := hb
  have ne : ∀ {i : Nat} {j : Int}, ¬ (i = 0 ∧ j = ((3 : Nat) : Int)) → zia (zsi σ (E (0)) (((3 : Nat) : Int)) v) (E i) j = zia σ (E i) j := fun q => by rw [zia_si, if_neg (fun z => q ⟨h.inj _ _ z.1, z.2⟩)]
  have nq : ∀ {j : Int}, j ≠ 3 → (mSet N (3) v) j = N j := fun q => if_neg q
  have sv : zia (zsi σ (E (0)) (((3 : Nat) : Int)) v) (E (0)) (((3 : Nat) : Int)) = v := zsi_same _ _ _ _
  have sq : (mSet N (3) v) (3) = v := if_pos rfl
  have n0 : (mSet N (3) v) 0 = N 0 := nq (by omega)
  have n1 : (mSet N (3) v) 1 = N 1 := nq (by omega)
  have n2 : (mSet N (3) v) 2 = N 2 := nq (by omega)
  refine ⟨by rw [n0, n1, n2]; exact h.1, ⟨(ne (by omega)).trans (h.i0.trans (nq (by omega)).symm), (ne (by omega)).trans (h.i1.trans (nq (by omega)).symm), (ne (by omega)).trans (h.i2.trans (nq (by omega)).symm), sv.trans sq.symm, (ne (by omega)).trans (h.i4.trans (nq (by omega)).symm), (ne (by omega)).trans (h.i5.trans (nq (by omega)).symm)⟩, ?_, ?_, ?_, ?_, ?_, ?_⟩
  · intro x y a b c e
    rw [n0] at b
    show zia (zsi σ (E (0)) (((3 : Nat) : Int)) v) (E (600 + x.toNat)) (y) = (mSet N (3) v) (6 + 2 * x + y)
    have q : 6 + 2 * x + y ≠ 3 := by omega
    exact (ne (by omega)).trans ((h.c6 x y a b c e).trans (nq q).symm)
  · intro x y a b c e
    rw [n1] at b
    show zia (zsi σ (E (0)) (((3 : Nat) : Int)) v) (E (700 + x.toNat)) (y) = (mSet N (3) v) (14 + 8 * x + y)
    have q : 14 + 8 * x + y ≠ 3 := by omega
    exact (ne (by omega)).trans ((h.c7 x y a b c e).trans (nq q).symm)
  · intro x y a b c
    rw [n2] at b
    have e3 : mF (mSet N (3) v) x 3 = mF N x 3 := nq (by omega)
    rw [e3] at c
    have t3 := b3 x a b
    show zia (zsi σ (E (0)) (((3 : Nat) : Int)) v) (E (800 + x.toNat)) (y) = (mSet N (3) v) (94 + 10 * x + y)
    have q : 94 + 10 * x + y ≠ 3 := by omega
    exact (ne (by omega)).trans ((h.c8q x y a b c).trans (nq q).symm)
  · intro x y a b c e
    rw [n2] at b
    rw [n0] at e
    show zia (zsi σ (E (0)) (((3 : Nat) : Int)) v) (E (900 + x.toNat)) (y + 1) = (mSet N (3) v) (154 + 5 * x + y + 1)
    have q : 154 + 5 * x + y + 1 ≠ 3 := by omega
    exact (ne (by omega)).trans ((h.c9 x y a b c e).trans (nq q).symm)
  · intro x y a b c e
    rw [n0] at b
    rw [n2] at e
    show zia (zsi σ (E (0)) (((3 : Nat) : Int)) v) (E (1000 + x.toNat)) (y) = (mSet N (3) v) (184 + 6 * x + y)
    have q : 184 + 6 * x + y ≠ 3 := by omega
    exact (ne (by omega)).trans ((h.c10 x y a b c e).trans (nq q).symm)
  · intro y c e
    show zia (zsi σ (E (0)) (((3 : Nat) : Int)) v) (E (11)) (y) = (mSet N (3) v) (208 + y)
    have q : 208 + y ≠ 3 := by omega
    exact (ne (by omega)).trans ((h.c11 y c e).trans (nq q).symm)
theorem eO.pi4 (hb : eB N) (h : eO N σ E) {v : Int} : eO (mSet N (4) v) (zsi σ (E (0)) (((4 : Nat) : Int)) v) E := by
  obtain ⟨b0, b1, b2, b3⟩ := hb
  have ne : ∀ {i : Nat} {j : Int}, ¬ (i = 0 ∧ j = ((4 : Nat) : Int)) → zia (zsi σ (E (0)) (((4 : Nat) : Int)) v) (E i) j = zia σ (E i) j := fun q => by rw [zia_si, if_neg (fun z => q ⟨h.inj _ _ z.1, z.2⟩)]
  have nq : ∀ {j : Int}, j ≠ 4 → (mSet N (4) v) j = N j := fun q => if_neg q
  have sv : zia (zsi σ (E (0)) (((4 : Nat) : Int)) v) (E (0)) (((4 : Nat) : Int)) = v := zsi_same _ _ _ _
  have sq : (mSet N (4) v) (4) = v := if_pos rfl
  have n0 : (mSet N (4) v) 0 = N 0 := nq (by omega)
  have n1 : (mSet N (4) v) 1 = N 1 := nq (by omega)
  have n2 : (mSet N (4) v) 2 = N 2 := nq (by omega)
  refine ⟨by rw [n0, n1, n2]; exact h.1, ⟨(ne (by omega)).trans (h.i0.trans (nq (by omega)).symm), (ne (by omega)).trans (h.i1.trans (nq (by omega)).symm), (ne (by omega)).trans (h.i2.trans (nq (by omega)).symm), (ne (by omega)).trans (h.i3.trans (nq (by omega)).symm), sv.trans sq.symm, (ne (by omega)).trans (h.i5.trans (nq (by omega)).symm)⟩, ?_, ?_, ?_, ?_, ?_, ?_⟩
  · intro x y a b c e
    rw [n0] at b
    show zia (zsi σ (E (0)) (((4 : Nat) : Int)) v) (E (600 + x.toNat)) (y) = (mSet N (4) v) (6 + 2 * x + y)
    have q : 6 + 2 * x + y ≠ 4 := by omega
    exact (ne (by omega)).trans ((h.c6 x y a b c e).trans (nq q).symm)
  · intro x y a b c e
    rw [n1] at b
    show zia (zsi σ (E (0)) (((4 : Nat) : Int)) v) (E (700 + x.toNat)) (y) = (mSet N (4) v) (14 + 8 * x + y)
    have q : 14 + 8 * x + y ≠ 4 := by omega
    exact (ne (by omega)).trans ((h.c7 x y a b c e).trans (nq q).symm)
  · intro x y a b c
    rw [n2] at b
    have e3 : mF (mSet N (4) v) x 3 = mF N x 3 := nq (by omega)
    rw [e3] at c
    have t3 := b3 x a b
    show zia (zsi σ (E (0)) (((4 : Nat) : Int)) v) (E (800 + x.toNat)) (y) = (mSet N (4) v) (94 + 10 * x + y)
    have q : 94 + 10 * x + y ≠ 4 := by omega
    exact (ne (by omega)).trans ((h.c8q x y a b c).trans (nq q).symm)
  · intro x y a b c e
    rw [n2] at b
    rw [n0] at e
    show zia (zsi σ (E (0)) (((4 : Nat) : Int)) v) (E (900 + x.toNat)) (y + 1) = (mSet N (4) v) (154 + 5 * x + y + 1)
    have q : 154 + 5 * x + y + 1 ≠ 4 := by omega
    exact (ne (by omega)).trans ((h.c9 x y a b c e).trans (nq q).symm)
  · intro x y a b c e
    rw [n0] at b
    rw [n2] at e
    show zia (zsi σ (E (0)) (((4 : Nat) : Int)) v) (E (1000 + x.toNat)) (y) = (mSet N (4) v) (184 + 6 * x + y)
    have q : 184 + 6 * x + y ≠ 4 := by omega
    exact (ne (by omega)).trans ((h.c10 x y a b c e).trans (nq q).symm)
  · intro y c e
    show zia (zsi σ (E (0)) (((4 : Nat) : Int)) v) (E (11)) (y) = (mSet N (4) v) (208 + y)
    have q : 208 + y ≠ 4 := by omega
    exact (ne (by omega)).trans ((h.c11 y c e).trans (nq q).symm)
theorem eO.pi5 (hb : eB N) (h : eO N σ E) {v : Int} : eO (mSet N (5) v) (zsi σ (E (0)) (((5 : Nat) : Int)) v) E := by
  obtain ⟨b0, b1, b2, b3⟩ := hb
  have ne : ∀ {i : Nat} {j : Int}, ¬ (i = 0 ∧ j = ((5 : Nat) : Int)) → zia (zsi σ (E (0)) (((5 : Nat) : Int)) v) (E i) j = zia σ (E i) j := fun q => by rw [zia_si, if_neg (fun z => q ⟨h.inj _ _ z.1, z.2⟩)]
  have nq : ∀ {j : Int}, j ≠ 5 → (mSet N (5) v) j = N j := fun q => if_neg q
  have sv : zia (zsi σ (E (0)) (((5 : Nat) : Int)) v) (E (0)) (((5 : Nat) : Int)) = v := zsi_same _ _ _ _
  have sq : (mSet N (5) v) (5) = v := if_pos rfl
  have n0 : (mSet N (5) v) 0 = N 0 := nq (by omega)
  have n1 : (mSet N (5) v) 1 = N 1 := nq (by omega)
  have n2 : (mSet N (5) v) 2 = N 2 := nq (by omega)
  refine ⟨by rw [n0, n1, n2]; exact h.1, ⟨(ne (by omega)).trans (h.i0.trans (nq (by omega)).symm), (ne (by omega)).trans (h.i1.trans (nq (by omega)).symm), (ne (by omega)).trans (h.i2.trans (nq (by omega)).symm), (ne (by omega)).trans (h.i3.trans (nq (by omega)).symm), (ne (by omega)).trans (h.i4.trans (nq (by omega)).symm), sv.trans sq.symm⟩, ?_, ?_, ?_, ?_, ?_, ?_⟩
  · intro x y a b c e
    rw [n0] at b
    show zia (zsi σ (E (0)) (((5 : Nat) : Int)) v) (E (600 + x.toNat)) (y) = (mSet N (5) v) (6 + 2 * x + y)
    have q : 6 + 2 * x + y ≠ 5 := by omega
    exact (ne (by omega)).trans ((h.c6 x y a b c e).trans (nq q).symm)
  · intro x y a b c e
    rw [n1] at b
    show zia (zsi σ (E (0)) (((5 : Nat) : Int)) v) (E (700 + x.toNat)) (y) = (mSet N (5) v) (14 + 8 * x + y)
    have q : 14 + 8 * x + y ≠ 5 := by omega
    exact (ne (by omega)).trans ((h.c7 x y a b c e).trans (nq q).symm)
  · intro x y a b c
    rw [n2] at b
    have e3 : mF (mSet N (5) v) x 3 = mF N x 3 := nq (by omega)
    rw [e3] at c
    have t3 := b3 x a b
    show zia (zsi σ (E (0)) (((5 : Nat) : Int)) v) (E (800 + x.toNat)) (y) = (mSet N (5) v) (94 + 10 * x + y)
    have q : 94 + 10 * x + y ≠ 5 := by omega
    exact (ne (by omega)).trans ((h.c8q x y a b c).trans (nq q).symm)
  · intro x y a b c e
    rw [n2] at b
    rw [n0] at e
    show zia (zsi σ (E (0)) (((5 : Nat) : Int)) v) (E (900 + x.toNat)) (y + 1) = (mSet N (5) v) (154 + 5 * x + y + 1)
    have q : 154 + 5 * x + y + 1 ≠ 5 := by omega
    exact (ne (by omega)).trans ((h.c9 x y a b c e).trans (nq q).symm)
  · intro x y a b c e
    rw [n0] at b
    rw [n2] at e
    show zia (zsi σ (E (0)) (((5 : Nat) : Int)) v) (E (1000 + x.toNat)) (y) = (mSet N (5) v) (184 + 6 * x + y)
    have q : 184 + 6 * x + y ≠ 5 := by omega
    exact (ne (by omega)).trans ((h.c10 x y a b c e).trans (nq q).symm)
  · intro y c e
    show zia (zsi σ (E (0)) (((5 : Nat) : Int)) v) (E (11)) (y) = (mSet N (5) v) (208 + y)
    have q : 208 + y ≠ 5 := by omega
    exact (ne (by omega)).trans ((h.c11 y c e).trans (nq q).symm)
theorem zt_X12_book {s a b c e : Int} (hE : eO N σ E) (hV : mV N) (s0 : 0 ≤ s) (s1 : s < N 1) : zE G mX12_book d [zR (E 0), zI s, zI a, zI b, zI c, zI e] σ (fun ro σ1 => ro = .inl none ∧ zFr (eP E) σ σ1 ∧ eO (mBook N s a b c e) σ1 E) := by
  refine zE_of rfl (by simp [zcat]) (Nat.le_of_ble_eq_true rfl) ?_
  show zF G mX12_book d 0 [(0, zR (E 0)), (1, zI s), (2, zI a), (3, zI b), (4, zI c), (5, zI e)] [] σ _
  have hb := hV.b
  have hn := hV.n
  refine zF_aload_n 1 dX12_book_0 rfl rfl ?_
  refine zF_getR 4 dX12_book_1 rfl gX12_15 hE.k0 hE.l0 (hE.f 7 6 10 (by decide)).1 ?_
  refine zF_iload_n 5 dX12_book_4 rfl rfl ?_
  refine zF_aaldA 6 dX12_book_5 rfl (hE.f 7 6 10 (by decide)).2.2 (hE.f 7 6 10 (by decide)).2.1 (by omega) (by omega) (hE.r7 _ (by omega) (by omega)).1 ?_
  refine zF_iconst 7 dX12_book_6 rfl ?_
  refine zF_iload_n 8 dX12_book_7 rfl rfl ?_
  refine zF_iastore 9 dX12_book_8 rfl (hE.r7 _ (by omega) (by omega)).2.2 (hE.r7 _ (by omega) (by omega)).2.1 (by omega) (by omega) ?_
  refine zF_aload_n 10 dX12_book_9 rfl rfl ?_
  refine zF_getR 13 dX12_book_10 rfl gX12_15 hE.k0 hE.l0 (hE.f 7 6 10 (by decide)).1 ?_
  refine zF_iload_n 14 dX12_book_13 rfl rfl ?_
  refine zF_aaldA 15 dX12_book_14 rfl (hE.f 7 6 10 (by decide)).2.2 (hE.f 7 6 10 (by decide)).2.1 (by omega) (by omega) (hE.r7 _ (by omega) (by omega)).1 ?_
  refine zF_iconst 16 dX12_book_15 rfl ?_
  refine zF_iload_n 17 dX12_book_16 rfl rfl ?_
  refine zF_iastore 18 dX12_book_17 rfl (hE.r7 _ (by omega) (by omega)).2.2 (hE.r7 _ (by omega) (by omega)).2.1 (by omega) (by omega) ?_
  refine zF_aload_n 19 dX12_book_18 rfl rfl ?_
  refine zF_getR 22 dX12_book_19 rfl gX12_15 hE.k0 hE.l0 (hE.f 7 6 10 (by decide)).1 ?_
  refine zF_iload_n 23 dX12_book_22 rfl rfl ?_
  refine zF_aaldA 24 dX12_book_23 rfl (hE.f 7 6 10 (by decide)).2.2 (hE.f 7 6 10 (by decide)).2.1 (by omega) (by omega) (hE.r7 _ (by omega) (by omega)).1 ?_
  refine zF_bipush 26 dX12_book_24 rfl (by decide) ?_
  refine zF_iload 28 dX12_book_26 rfl rfl ?_
  refine zF_iastore 29 dX12_book_28 rfl (hE.r7 _ (by omega) (by omega)).2.2 (hE.r7 _ (by omega) (by omega)).2.1 (by omega) (by omega) ?_
  refine zF_aload_n 30 dX12_book_29 rfl rfl ?_
  refine zF_getR 33 dX12_book_30 rfl gX12_15 hE.k0 hE.l0 (hE.f 7 6 10 (by decide)).1 ?_
  refine zF_iload_n 34 dX12_book_33 rfl rfl ?_
  refine zF_aaldA 35 dX12_book_34 rfl (hE.f 7 6 10 (by decide)).2.2 (hE.f 7 6 10 (by decide)).2.1 (by omega) (by omega) (hE.r7 _ (by omega) (by omega)).1 ?_
  refine zF_bipush 37 dX12_book_35 rfl (by decide) ?_
  refine zF_iload 39 dX12_book_37 rfl rfl ?_
  refine zF_iastore 40 dX12_book_39 rfl (hE.r7 _ (by omega) (by omega)).2.2 (hE.r7 _ (by omega) (by omega)).2.1 (by omega) (by omega) ?_
  exact zF_return dX12_book_40 rfl (⟨rfl, zFr_si ⟨_, rfl⟩ (zFr_si ⟨_, rfl⟩ (zFr_si ⟨_, rfl⟩ (zFr_si ⟨_, rfl⟩ zFr.rf))), (((hE.p7 (eB_of hV) s0 s1 (y9 := 4) (by omega) (by omega)).p7 (eB_set (eB_of hV) (by omega)) s0 (by rw [e_so (by omega)]; exact s1) (y9 := 5) (by omega) (by omega)).p7 (eB_set (eB_set (eB_of hV) (by omega)) (by omega)) s0 (by rw [e_so (by omega), e_so (by omega)]; exact s1) (y9 := 6) (by omega) (by omega)).p7 (eB_set (eB_set (eB_set (eB_of hV) (by omega)) (by omega)) (by omega)) s0 (by rw [e_so (by omega), e_so (by omega), e_so (by omega)]; exact s1) (y9 := 7) (by omega) (by omega)⟩)
end ZE4

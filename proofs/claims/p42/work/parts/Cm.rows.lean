/-! the law's own chain, made: rows added -/
section ZI2
variable {σ σ' : zMem} {E : Nat → Nat} {N : Int → Int} {a b c : Int}
def eQ (a b c : Int) (N : Int → Int) (σ : zMem) (E : Nat → Nat) : Prop := eSh a b c σ E ∧
  (∀ h k, 0 ≤ h → h < a → 0 ≤ k → k < 2 → zia σ (E (600 + h.toNat)) k = mH N h k) ∧
  (∀ s k, 0 ≤ s → s < b → 0 ≤ k → k < 8 → zia σ (E (700 + s.toNat)) k = mS N s k) ∧
  (∀ f k, 0 ≤ f → f < c → 0 ≤ k → k < 10 → zia σ (E (800 + f.toNat)) k = mF N f k) ∧
  (∀ f p, 0 ≤ f → f < 6 → 0 ≤ p → p < 5 → zia σ (E (900 + f.toNat)) p = N (154 + 5 * f + p)) ∧
  (∀ h f : Int, 0 ≤ h → h < 4 → 0 ≤ f → f < 6 → zia σ (E (1000 + h.toNat)) f = 0) ∧
  ∀ k, 0 ≤ k → k < 4 → zia σ (E 11) k = 0
def eU (E : Nat → Nat) (n0 n : Nat) : Prop := ∀ i, (n0 ≤ E i ∧ E i < n) ∨ E i = 2000001 + 2 * i
def eUp (E : Nat → Nat) (q n : Nat) : Nat → Nat := fun i => if i = q then n else E i
theorem eUp_o {q n i : Nat} (h : i ≠ q) : eUp E q n i = E i := if_neg h
theorem eUp_at {q n : Nat} : eUp E q n q = n := if_pos rfl
theorem eU.up {n0 n n' q : Nat} (h : eU E n0 n) (h0 : n0 ≤ n) (h1 : n < n') : eU (eUp E q n) n0 n' := fun i => by
  unfold eUp
  split
  · omega
  · have := h i; omega
theorem eU.wk {n0 n n' : Nat} (h : eU E n0 n) (h1 : n ≤ n') : eU E n0 n' := fun i => by have := h i; omega
theorem eUp_inj {n0 n q : Nat} (h : eU E n0 n) (hn : n < zbg) (inj : ∀ i j, E i = E j → i = j) : ∀ i j, eUp E q n i = eUp E q n j → i = j := fun i j e => by
  unfold eUp at e
  have e1 : zbg = 1000000 := rfl
  split at e <;> split at e
  · omega
  · have := h j; omega
  · have := h i; omega
  · exact inj i j e
def nR (σ σ' : zMem) (E : Nat → Nat) (g : Nat) (x : Int) (m : Nat) : Prop := zn σ < zn σ' ∧ (∀ y, y < zn σ → zkd σ' y = zkd σ y ∧ (∀ j, zia σ' y j = zia σ y j) ∧ ∀ j, ¬ (y = E g ∧ j = x) → zra σ' y j = zra σ y j) ∧ zra σ' (E g) x = some (zn σ) ∧ zkd σ' (zn σ) = (1, m)
theorem eOb_nR {g q : Nat} {x : Int} {m : Nat} (h : eOb σ E) (r : nR σ σ' E g x m) (hg : g ≠ 0) (inj : ∀ i j, E i = E j → i = j) (hq : 100 ≤ q) : eOb σ' (eUp E q (zn σ)) := by
  obtain ⟨k0, l0, f⟩ := h
  have e0 : eUp E q (zn σ) 0 = E 0 := eUp_o (by omega)
  have r0 := r.2.1 (E 0) l0
  unfold eOb
  rw [e0]
  refine ⟨r0.1.trans k0, Nat.lt_trans l0 r.1, fun k t n hk => ?_⟩
  obtain ⟨a1, a2, a3⟩ := f k t n hk
  have k12 : k ≤ 12 := by
    have : ∀ p ∈ eF, p.1 ≤ 12 := by decide
    exact this _ hk
  rw [eUp_o (show k ≠ q by omega)]
  exact ⟨(r0.2.2 k (fun z => hg (inj _ _ z.1).symm)).trans a1, Nat.lt_trans a2 r.1, (r.2.1 _ a2).1.trans a3⟩
theorem eRw_nR {g q k m m0 : Nat} {x n : Int} (h : eRw σ E k m n) (r : nR σ σ' E g x m0) (hk : k = g → n ≤ x) (inj : ∀ i j, E i = E j → i = j) (hl : E k < zn σ) (h1 : k ≠ q) (h2 : ∀ i : Int, 0 ≤ i → i < n → 100 * k + i.toNat ≠ q) : eRw σ' (eUp E q (zn σ)) k m n := fun i i0 i1 => by
  obtain ⟨a1, a2, a3⟩ := h i i0 i1
  rw [eUp_o h1, eUp_o (h2 i i0 i1)]
  refine ⟨((r.2.1 _ hl).2.2 i (fun z => ?_)).trans a1, Nat.lt_trans a2 r.1, (r.2.1 _ a2).1.trans a3⟩
  have := hk (inj _ _ z.1)
  have := z.2
  omega
theorem eRw_at {g m : Nat} {n : Int} (n0 : 0 ≤ n) (h : eRw σ E g m n) (r : nR σ σ' E g n m) (hl : E g < zn σ) (h1 : g < 100 * g + n.toNat) : eRw σ' (eUp E (100 * g + n.toNat) (zn σ)) g m (n + 1) := fun i i0 i1 => by
  rw [eUp_o (show g ≠ 100 * g + n.toNat by omega)]
  by_cases c : i = n
  · subst c
    rw [eUp_at]
    exact ⟨r.2.2.1, r.1, r.2.2.2⟩
  · obtain ⟨a1, a2, a3⟩ := h i i0 (by omega)
    rw [eUp_o (by omega)]
    exact ⟨((r.2.1 _ hl).2.2 i (fun z => c z.2)).trans a1, Nat.lt_trans a2 r.1, (r.2.1 _ a2).1.trans a3⟩
theorem eQ_6 {n0 : Nat} {N' : Int → Int} (h : eQ a b c N σ E) (hu : eU E n0 (zn σ)) (hz : zn σ < zbg) (a0 : 0 ≤ a ∧ a ≤ 4) (b0 : 0 ≤ b ∧ b ≤ 10) (c0 : 0 ≤ c ∧ c ≤ 6) (hx : a < 4) (r : nR σ σ' E 6 a 2) (hv : ∀ k, 0 ≤ k → k < 2 → zia σ' (zn σ) k = N' (6 + 2 * a + k)) (ho : ∀ j, j < 6 + 2 * a ∨ 6 + 2 * a + 2 ≤ j → N' j = N j) : eQ (a + 1) b c N' σ' (eUp E (100 * 6 + a.toNat) (zn σ)) := by
  obtain ⟨⟨ob, r6, r7, r8, r9, r10, inj⟩, c6, c7, c8, c9, c10, c11⟩ := h
  have lt : ∀ k, k = 6 ∨ k = 7 ∨ k = 8 ∨ k = 9 ∨ k = 10 ∨ k = 11 → E k < zn σ := fun k hk => by
    rcases hk with e | e | e | e | e | e <;> subst e
    · exact (ob.2.2 6 6 4 (by decide)).2.1
    · exact (ob.2.2 7 6 10 (by decide)).2.1
    · exact (ob.2.2 8 6 6 (by decide)).2.1
    · exact (ob.2.2 9 6 6 (by decide)).2.1
    · exact (ob.2.2 10 6 4 (by decide)).2.1
    · exact (ob.2.2 11 1 4 (by decide)).2.1
  have ia : ∀ {y : Nat} {j : Int}, y < zn σ → zia σ' y j = zia σ y j := fun q => (r.2.1 _ q).2.1 _
  refine ⟨⟨eOb_nR ob r (by omega) inj (by omega), eRw_at (by omega) r6 r (lt 6 (by omega)) (by omega), eRw_nR r7 r (by omega) inj (lt 7 (by omega)) (by omega) (by omega), eRw_nR r8 r (by omega) inj (lt 8 (by omega)) (by omega) (by omega), eRw_nR r9 r (by omega) inj (lt 9 (by omega)) (by omega) (by omega), eRw_nR r10 r (by omega) inj (lt 10 (by omega)) (by omega) (by omega), eUp_inj hu hz inj⟩, fun x k x0 x1 k0 k1 => ?_, fun x k x0 x1 k0 k1 => ?_, fun x k x0 x1 k0 k1 => ?_, fun x k x0 x1 k0 k1 => ?_, fun x k x0 x1 k0 k1 => ?_, fun k k0 k1 => ?_⟩
  · by_cases e : x = a
    · subst e
      rw [eUp_at, hv k k0 k1]
      rfl
    · rw [eUp_o (by omega), ia (r6 x x0 (by omega)).2.1, c6 x k x0 (by omega) k0 k1]
      exact (ho _ (by omega)).symm
  · rw [eUp_o (by omega), ia (r7 x x0 (by omega)).2.1, c7 x k x0 (by omega) k0 k1]
    exact (ho _ (by omega)).symm
  · rw [eUp_o (by omega), ia (r8 x x0 (by omega)).2.1, c8 x k x0 (by omega) k0 k1]
    exact (ho _ (by omega)).symm
  · rw [eUp_o (by omega), ia (r9 x x0 (by omega)).2.1, c9 x k x0 (by omega) k0 k1]
    exact (ho _ (by omega)).symm
  · rw [eUp_o (by omega), ia (r10 x x0 (by omega)).2.1]
    exact c10 x k x0 (by omega) k0 k1
  · rw [eUp_o (by omega), ia (lt 11 (by omega))]
    exact c11 k k0 k1
theorem eQ_7 {n0 : Nat} {N' : Int → Int} (h : eQ a b c N σ E) (hu : eU E n0 (zn σ)) (hz : zn σ < zbg) (a0 : 0 ≤ a ∧ a ≤ 4) (b0 : 0 ≤ b ∧ b ≤ 10) (c0 : 0 ≤ c ∧ c ≤ 6) (hx : b < 10) (r : nR σ σ' E 7 b 8) (hv : ∀ k, 0 ≤ k → k < 8 → zia σ' (zn σ) k = N' (14 + 8 * b + k)) (ho : ∀ j, j < 14 + 8 * b ∨ 14 + 8 * b + 8 ≤ j → N' j = N j) : eQ a (b + 1) c N' σ' (eUp E (100 * 7 + b.toNat) (zn σ)) := by
  obtain ⟨⟨ob, r6, r7, r8, r9, r10, inj⟩, c6, c7, c8, c9, c10, c11⟩ := h
  have lt : ∀ k, k = 6 ∨ k = 7 ∨ k = 8 ∨ k = 9 ∨ k = 10 ∨ k = 11 → E k < zn σ := fun k hk => by
    rcases hk with e | e | e | e | e | e <;> subst e
    · exact (ob.2.2 6 6 4 (by decide)).2.1
    · exact (ob.2.2 7 6 10 (by decide)).2.1
    · exact (ob.2.2 8 6 6 (by decide)).2.1
    · exact (ob.2.2 9 6 6 (by decide)).2.1
    · exact (ob.2.2 10 6 4 (by decide)).2.1
    · exact (ob.2.2 11 1 4 (by decide)).2.1
  have ia : ∀ {y : Nat} {j : Int}, y < zn σ → zia σ' y j = zia σ y j := fun q => (r.2.1 _ q).2.1 _
  refine ⟨⟨eOb_nR ob r (by omega) inj (by omega), eRw_nR r6 r (by omega) inj (lt 6 (by omega)) (by omega) (by omega), eRw_at (by omega) r7 r (lt 7 (by omega)) (by omega), eRw_nR r8 r (by omega) inj (lt 8 (by omega)) (by omega) (by omega), eRw_nR r9 r (by omega) inj (lt 9 (by omega)) (by omega) (by omega), eRw_nR r10 r (by omega) inj (lt 10 (by omega)) (by omega) (by omega), eUp_inj hu hz inj⟩, fun x k x0 x1 k0 k1 => ?_, fun x k x0 x1 k0 k1 => ?_, fun x k x0 x1 k0 k1 => ?_, fun x k x0 x1 k0 k1 => ?_, fun x k x0 x1 k0 k1 => ?_, fun k k0 k1 => ?_⟩
  · rw [eUp_o (by omega), ia (r6 x x0 (by omega)).2.1, c6 x k x0 (by omega) k0 k1]
    exact (ho _ (by omega)).symm
  · by_cases e : x = b
    · subst e
      rw [eUp_at, hv k k0 k1]
      rfl
    · rw [eUp_o (by omega), ia (r7 x x0 (by omega)).2.1, c7 x k x0 (by omega) k0 k1]
      exact (ho _ (by omega)).symm
  · rw [eUp_o (by omega), ia (r8 x x0 (by omega)).2.1, c8 x k x0 (by omega) k0 k1]
    exact (ho _ (by omega)).symm
  · rw [eUp_o (by omega), ia (r9 x x0 (by omega)).2.1, c9 x k x0 (by omega) k0 k1]
    exact (ho _ (by omega)).symm
  · rw [eUp_o (by omega), ia (r10 x x0 (by omega)).2.1]
    exact c10 x k x0 (by omega) k0 k1
  · rw [eUp_o (by omega), ia (lt 11 (by omega))]
    exact c11 k k0 k1
theorem eQ_8 {n0 : Nat} {N' : Int → Int} (h : eQ a b c N σ E) (hu : eU E n0 (zn σ)) (hz : zn σ < zbg) (a0 : 0 ≤ a ∧ a ≤ 4) (b0 : 0 ≤ b ∧ b ≤ 10) (c0 : 0 ≤ c ∧ c ≤ 6) (hx : c < 6) (r : nR σ σ' E 8 c 10) (hv : ∀ k, 0 ≤ k → k < 10 → zia σ' (zn σ) k = N' (94 + 10 * c + k)) (ho : ∀ j, j < 94 + 10 * c ∨ 94 + 10 * c + 10 ≤ j → N' j = N j) : eQ a b (c + 1) N' σ' (eUp E (100 * 8 + c.toNat) (zn σ)) := by
  obtain ⟨⟨ob, r6, r7, r8, r9, r10, inj⟩, c6, c7, c8, c9, c10, c11⟩ := h
  have lt : ∀ k, k = 6 ∨ k = 7 ∨ k = 8 ∨ k = 9 ∨ k = 10 ∨ k = 11 → E k < zn σ := fun k hk => by
    rcases hk with e | e | e | e | e | e <;> subst e
    · exact (ob.2.2 6 6 4 (by decide)).2.1
    · exact (ob.2.2 7 6 10 (by decide)).2.1
    · exact (ob.2.2 8 6 6 (by decide)).2.1
    · exact (ob.2.2 9 6 6 (by decide)).2.1
    · exact (ob.2.2 10 6 4 (by decide)).2.1
    · exact (ob.2.2 11 1 4 (by decide)).2.1
  have ia : ∀ {y : Nat} {j : Int}, y < zn σ → zia σ' y j = zia σ y j := fun q => (r.2.1 _ q).2.1 _
  refine ⟨⟨eOb_nR ob r (by omega) inj (by omega), eRw_nR r6 r (by omega) inj (lt 6 (by omega)) (by omega) (by omega), eRw_nR r7 r (by omega) inj (lt 7 (by omega)) (by omega) (by omega), eRw_at (by omega) r8 r (lt 8 (by omega)) (by omega), eRw_nR r9 r (by omega) inj (lt 9 (by omega)) (by omega) (by omega), eRw_nR r10 r (by omega) inj (lt 10 (by omega)) (by omega) (by omega), eUp_inj hu hz inj⟩, fun x k x0 x1 k0 k1 => ?_, fun x k x0 x1 k0 k1 => ?_, fun x k x0 x1 k0 k1 => ?_, fun x k x0 x1 k0 k1 => ?_, fun x k x0 x1 k0 k1 => ?_, fun k k0 k1 => ?_⟩
  · rw [eUp_o (by omega), ia (r6 x x0 (by omega)).2.1, c6 x k x0 (by omega) k0 k1]
    exact (ho _ (by omega)).symm
  · rw [eUp_o (by omega), ia (r7 x x0 (by omega)).2.1, c7 x k x0 (by omega) k0 k1]
    exact (ho _ (by omega)).symm
  · by_cases e : x = c
    · subst e
      rw [eUp_at, hv k k0 k1]
      rfl
    · rw [eUp_o (by omega), ia (r8 x x0 (by omega)).2.1, c8 x k x0 (by omega) k0 k1]
      exact (ho _ (by omega)).symm
  · rw [eUp_o (by omega), ia (r9 x x0 (by omega)).2.1, c9 x k x0 (by omega) k0 k1]
    exact (ho _ (by omega)).symm
  · rw [eUp_o (by omega), ia (r10 x x0 (by omega)).2.1]
    exact c10 x k x0 (by omega) k0 k1
  · rw [eUp_o (by omega), ia (lt 11 (by omega))]
    exact c11 k k0 k1
/-- memory grown and nothing of ours touched -/
theorem eQ.gw (h : eQ a b c N σ E) (a0 : a ≤ 4) (b0 : b ≤ 10) (c0 : c ≤ 6) (g : zGw (zn σ) σ σ') : eQ a b c N σ' E := by
  obtain ⟨⟨ob, r6, r7, r8, r9, r10, inj⟩, c6, c7, c8, c9, c10, c11⟩ := h
  have up : ∀ {y : Nat}, y < zn σ → y < zn σ' := fun q => Nat.lt_of_lt_of_le q g.1
  have rw1 : ∀ {k m : Nat} {n : Int}, E k < zn σ → eRw σ E k m n → eRw σ' E k m n := fun l w i i0 i1 => by
    obtain ⟨a1, a2, a3⟩ := w i i0 i1
    exact ⟨((g.2 _ l).2 i).1.trans a1, up a2, (g.2 _ a2).1.trans a3⟩
  have l11 := (ob.2.2 11 1 4 (by decide)).2.1
  refine ⟨⟨⟨(g.2 _ ob.2.1).1.trans ob.1, up ob.2.1, fun k t n q => ?_⟩, rw1 (ob.2.2 6 6 4 (by decide)).2.1 r6, rw1 (ob.2.2 7 6 10 (by decide)).2.1 r7, rw1 (ob.2.2 8 6 6 (by decide)).2.1 r8, rw1 (ob.2.2 9 6 6 (by decide)).2.1 r9, rw1 (ob.2.2 10 6 4 (by decide)).2.1 r10, inj⟩, fun x k x0 x1 k0 k1 => ?_, fun x k x0 x1 k0 k1 => ?_, fun x k x0 x1 k0 k1 => ?_, fun x k x0 x1 k0 k1 => ?_, fun x k x0 x1 k0 k1 => ?_, fun k k0 k1 => ?_⟩
  · obtain ⟨a1, a2, a3⟩ := ob.2.2 k t n q
    exact ⟨((g.2 _ ob.2.1).2 _).1.trans a1, up a2, (g.2 _ a2).1.trans a3⟩
  · rw [((g.2 _ (r6 x x0 x1).2.1).2 _).2]; exact c6 x k x0 x1 k0 k1
  · rw [((g.2 _ (r7 x x0 x1).2.1).2 _).2]; exact c7 x k x0 x1 k0 k1
  · rw [((g.2 _ (r8 x x0 x1).2.1).2 _).2]; exact c8 x k x0 x1 k0 k1
  · rw [((g.2 _ (r9 x x0 x1).2.1).2 _).2]; exact c9 x k x0 x1 k0 k1
  · rw [((g.2 _ (r10 x x0 x1).2.1).2 _).2]; exact c10 x k x0 x1 k0 k1
  · rw [((g.2 _ l11).2 _).2]; exact c11 k k0 k1
/-- an int cell of the object -/
theorem eQ.i0 (h : eQ a b c N σ E) {j v : Int} : eQ a b c N (zsi σ (E 0) j v) E := by
  obtain ⟨sh, c6, c7, c8, c9, c10, c11⟩ := h
  have inj := sh.2.2.2.2.2.2
  have o : ∀ {i : Nat} {k : Int}, i ≠ 0 → zia (zsi σ (E 0) j v) (E i) k = zia σ (E i) k := fun q => by rw [zia_si, if_neg (fun z => q (inj _ _ z.1))]
  refine ⟨sh, fun x k x0 x1 k0 k1 => ?_, fun x k x0 x1 k0 k1 => ?_, fun x k x0 x1 k0 k1 => ?_, fun x k x0 x1 k0 k1 => ?_, fun x k x0 x1 k0 k1 => ?_, fun k k0 k1 => ?_⟩
  · rw [o (by omega)]; exact c6 x k x0 x1 k0 k1
  · rw [o (by omega)]; exact c7 x k x0 x1 k0 k1
  · rw [o (by omega)]; exact c8 x k x0 x1 k0 k1
  · rw [o (by omega)]; exact c9 x k x0 x1 k0 k1
  · rw [o (by omega)]; exact c10 x k x0 x1 k0 k1
  · rw [o (by omega)]; exact c11 k k0 k1
theorem mHs_o {x y j v : Int} (h : 6 + 2 * x + y ≠ j) : mH (mSet N j v) x y = mH N x y := if_neg h
theorem mSs_o {x y j v : Int} (h : 14 + 8 * x + y ≠ j) : mS (mSet N j v) x y = mS N x y := if_neg h
theorem mFs_o {x y j v : Int} (h : 94 + 10 * x + y ≠ j) : mF (mSet N j v) x y = mF N x y := if_neg h
theorem eQ.i8 (h : eQ a b c N σ E) (a0 : a ≤ 4) (b0 : b ≤ 10) (c0 : c ≤ 6) {f k v : Int} (f0 : 0 ≤ f) (f1 : f < c) (k0 : 0 ≤ k) (k1 : k < 10) : eQ a b c (mSet N (94 + 10 * f + k) v) (zsi σ (E (800 + f.toNat)) k v) E := by
  obtain ⟨sh, c6, c7, c8, c9, c10, c11⟩ := h
  have inj := sh.2.2.2.2.2.2
  have o : ∀ {i : Nat} {j : Int}, i ≠ 800 + f.toNat → zia (zsi σ (E (800 + f.toNat)) k v) (E i) j = zia σ (E i) j := fun q => by rw [zia_si, if_neg (fun z => q (inj _ _ z.1))]
  refine ⟨sh, fun x y x0 x1 y0 y1 => ?_, fun x y x0 x1 y0 y1 => ?_, fun x j x0 x1 y0 y1 => ?_, fun x y x0 x1 y0 y1 => ?_, fun x y x0 x1 y0 y1 => ?_, fun y y0 y1 => ?_⟩
  · rw [o (by omega), c6 x y x0 x1 y0 y1]; exact (mHs_o (by omega)).symm
  · rw [o (by omega), c7 x y x0 x1 y0 y1]; exact (mSs_o (by omega)).symm
  · by_cases e : x = f
    · subst e
      by_cases e2 : j = k
      · subst e2
        rw [zia_si, if_pos ⟨rfl, rfl⟩]
        exact (mSet_at _ _ _).symm
      · rw [zia_si, if_neg (fun z => e2 z.2), c8 x j x0 x1 y0 y1]
        exact (mFs_o (by omega)).symm
    · rw [o (by omega), c8 x j x0 x1 y0 y1]; exact (mFs_o (by omega)).symm
  · rw [o (by omega), c9 x y x0 x1 y0 y1]; exact (mSet_o (by omega)).symm
  · rw [o (by omega)]; exact c10 x y x0 x1 y0 y1
  · rw [o (by omega)]; exact c11 y y0 y1
theorem eQ.i9 (h : eQ a b c N σ E) (a0 : a ≤ 4) (b0 : b ≤ 10) (c0 : c ≤ 6) {f k v : Int} (f0 : 0 ≤ f) (f1 : f < 6) (k0 : 0 ≤ k) (k1 : k < 5) : eQ a b c (mSet N (154 + 5 * f + k) v) (zsi σ (E (900 + f.toNat)) k v) E := by
  obtain ⟨sh, c6, c7, c8, c9, c10, c11⟩ := h
  have inj := sh.2.2.2.2.2.2
  have o : ∀ {i : Nat} {j : Int}, i ≠ 900 + f.toNat → zia (zsi σ (E (900 + f.toNat)) k v) (E i) j = zia σ (E i) j := fun q => by rw [zia_si, if_neg (fun z => q (inj _ _ z.1))]
  refine ⟨sh, fun x y x0 x1 y0 y1 => ?_, fun x y x0 x1 y0 y1 => ?_, fun x y x0 x1 y0 y1 => ?_, fun x j x0 x1 y0 y1 => ?_, fun x y x0 x1 y0 y1 => ?_, fun y y0 y1 => ?_⟩
  · rw [o (by omega), c6 x y x0 x1 y0 y1]; exact (mHs_o (by omega)).symm
  · rw [o (by omega), c7 x y x0 x1 y0 y1]; exact (mSs_o (by omega)).symm
  · rw [o (by omega), c8 x y x0 x1 y0 y1]; exact (mFs_o (by omega)).symm
  · by_cases e : x = f
    · subst e
      by_cases e2 : j = k
      · subst e2
        rw [zia_si, if_pos ⟨rfl, rfl⟩]
        exact (mSet_at _ _ _).symm
      · rw [zia_si, if_neg (fun z => e2 z.2), c9 x j x0 x1 y0 y1]
        exact (mSet_o (by omega)).symm
    · rw [o (by omega), c9 x j x0 x1 y0 y1]; exact (mSet_o (by omega)).symm
  · rw [o (by omega)]; exact c10 x y x0 x1 y0 y1
  · rw [o (by omega)]; exact c11 y y0 y1
/-- the parts as the constructor lays them -/
def eE0 (h n : Nat) : Nat → Nat := fun i => if i = 0 then h else if i = 6 then n else if i = 7 then n + 1 else if i = 8 then n + 2 else if i = 9 then n + 3 else if 900 ≤ i ∧ i < 906 then n + 4 + (i - 900) else if i = 10 then n + 10 else if 1000 ≤ i ∧ i < 1004 then n + 11 + (i - 1000) else if i = 11 then n + 15 else if i = 12 then n + 16 else 2000001 + 2 * i
theorem eE0_u {h n : Nat} (hh : h < n) : eU (eE0 h n) h (n + 17) := fun i => by
  unfold eE0
  repeat' split
  all_goals omega
theorem eE0_or (h n i : Nat) : (i = 0 ∧ eE0 h n i = h) ∨ (i = 6 ∧ eE0 h n i = n) ∨ (i = 7 ∧ eE0 h n i = n + 1) ∨ (i = 8 ∧ eE0 h n i = n + 2) ∨ (i = 9 ∧ eE0 h n i = n + 3) ∨ (900 ≤ i ∧ i < 906 ∧ eE0 h n i = n + 4 + (i - 900)) ∨ (i = 10 ∧ eE0 h n i = n + 10) ∨ (1000 ≤ i ∧ i < 1004 ∧ eE0 h n i = n + 11 + (i - 1000)) ∨ (i = 11 ∧ eE0 h n i = n + 15) ∨ (i = 12 ∧ eE0 h n i = n + 16) ∨ eE0 h n i = 2000001 + 2 * i := by
  unfold eE0
  repeat' split
  all_goals omega
theorem eE0_inj {h n : Nat} (hh : h < n) (hz : n + 17 < zbg) : ∀ i j, eE0 h n i = eE0 h n j → i = j := fun i j e => by
  have e1 : zbg = 1000000 := rfl
  have a := eE0_or h n i
  have b := eE0_or h n j
  rw [e] at a
  rcases a with a | a | a | a | a | a | a | a | a | a | a <;> rcases b with b | b | b | b | b | b | b | b | b | b | b <;> omega
theorem eQ_0 {h : Nat} (hk : zkd σ h = (0, 12)) (hn : h < zn σ) (hz : zn σ + 17 < zbg) : eQ 0 0 0 (fun _ => 0) (kO7 σ h) (eE0 h (zn σ)) := by
  have nz := (kO_n σ h).2.2.2.2.2.2
  have E0 : eE0 h (zn σ) 0 = h := rfl
  have E6 : eE0 h (zn σ) 6 = zn σ := rfl
  have E7 : eE0 h (zn σ) 7 = zn σ + 1 := rfl
  have E8 : eE0 h (zn σ) 8 = zn σ + 2 := rfl
  have E9 : eE0 h (zn σ) 9 = zn σ + 3 := rfl
  have E10 : eE0 h (zn σ) 10 = zn σ + 10 := rfl
  have E11 : eE0 h (zn σ) 11 = zn σ + 15 := rfl
  have E12 : eE0 h (zn σ) 12 = zn σ + 16 := rfl
  have E9r : ∀ i : Int, 0 ≤ i → i < 6 → eE0 h (zn σ) (900 + i.toNat) = zn σ + 3 + 1 + i.toNat := fun i i0 i1 => by
    unfold eE0
    repeat' split
    all_goals omega
  have E10r : ∀ i : Int, 0 ≤ i → i < 4 → eE0 h (zn σ) (1000 + i.toNat) = zn σ + 10 + 1 + i.toNat := fun i i0 i1 => by
    unfold eE0
    repeat' split
    all_goals omega
  refine ⟨⟨⟨?_, ?_, fun k t n q => ?_⟩, fun i a b => absurd b (by omega), fun i a b => absurd b (by omega), fun i a b => absurd b (by omega), fun i a b => ?_, fun i a b => ?_, eE0_inj hn hz⟩, fun x k x0 x1 => absurd x1 (by omega), fun x k x0 x1 => absurd x1 (by omega), fun x k x0 x1 => absurd x1 (by omega), fun x k x0 x1 k0 k1 => ?_, fun x k x0 x1 k0 k1 => ?_, fun k k0 k1 => ?_⟩
  · rw [E0, kO_kd]
    repeat (first | rw [if_neg (by omega)])
    exact hk
  · rw [E0, nz]; omega
  · have : (k, t, n) = (6, 6, 4) ∨ (k, t, n) = (7, 6, 10) ∨ (k, t, n) = (8, 6, 6) ∨ (k, t, n) = (9, 6, 6) ∨ (k, t, n) = (10, 6, 4) ∨ (k, t, n) = (11, 1, 4) ∨ (k, t, n) = (12, 6, 60) := by
      simpa [eF] using q
    rcases this with e | e | e | e | e | e | e <;> cases e
    all_goals first | rw [E6] | rw [E7] | rw [E8] | rw [E9] | rw [E10] | rw [E11] | rw [E12]
    all_goals rw [E0, kO_kd, kO_ra, nz]
    all_goals refine ⟨?_, by omega, ?_⟩
    all_goals repeat (first | rw [if_pos (by omega)] | rw [if_neg (by omega)])
  · rw [E9, E9r i a b, kO_kd, kO_ra, nz]
    refine ⟨?_, by omega, ?_⟩
    all_goals repeat (first | rw [if_pos (by omega)] | rw [if_neg (by omega)])
  · rw [E10, E10r i a b, kO_kd, kO_ra, nz]
    refine ⟨?_, by omega, ?_⟩
    all_goals repeat (first | rw [if_pos (by omega)] | rw [if_neg (by omega)])
  · rw [E9r x x0 x1, kO_ia]
    repeat (first | rw [if_pos (by omega)] | rw [if_neg (by omega)])
  · rw [E10r x x0 x1, kO_ia]
    repeat (first | rw [if_pos (by omega)] | rw [if_neg (by omega)])
  · rw [E11, kO_ia]
    repeat (first | rw [if_pos (by omega)] | rw [if_neg (by omega)])
end ZI2

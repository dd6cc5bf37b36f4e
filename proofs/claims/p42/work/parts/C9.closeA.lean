/-! the law's own chain: a week closed -/
section ZE5
variable {G : zG} {M0 : zMeth} {d pc : Nat} {ls : List (Nat × zV)} {st : List zV} {σ : zMem} {Q : zRes → zMem → Prop} {E : Nat → Nat} {N M : Int → Int}
/-- the own chain's places lie below n -/
def eLt (n0 n1 n2 : Int) (E : Nat → Nat) (n : Nat) : Prop := E 0 < n ∧ (∀ k t m, (k, t, m) ∈ eF → E k < n) ∧ (∀ i : Int, 0 ≤ i → i < n0 → E (600 + i.toNat) < n) ∧ (∀ i : Int, 0 ≤ i → i < n1 → E (700 + i.toNat) < n) ∧ (∀ i : Int, 0 ≤ i → i < n2 → E (800 + i.toNat) < n) ∧ (∀ i : Int, 0 ≤ i → i < 6 → E (900 + i.toNat) < n) ∧ ∀ i : Int, 0 ≤ i → i < 4 → E (1000 + i.toNat) < n
theorem eO.lt (h : eO N σ E) : eLt (N 0) (N 1) (N 2) E (zn σ) := ⟨h.l0, fun k t m q => (h.f k t m q).2.1, fun i a b => (h.r6 i a b).2.1, fun i a b => (h.r7 i a b).2.1, fun i a b => (h.r8 i a b).2.1, fun i a b => (h.r9 i a b).2.1, fun i a b => (h.r10 i a b).2.1⟩
theorem eO.gn {σ1 : zMem} {n : Nat} (hb : eB N) (h : eO N σ E) (l : eLt (N 0) (N 1) (N 2) E n) (g : zGw n σ σ1) : eO N σ1 E := by
  obtain ⟨b0, b1, b2, -⟩ := hb
  obtain ⟨l0, lf, l6, l7, l8, l9, l10⟩ := l
  have kd : ∀ {x : Nat} {v : Nat × Nat}, x < n → zkd σ x = v → zkd σ1 x = v := fun q e => (g.2 _ q).1.trans e
  have ra : ∀ {x : Nat} {j : Int} {v : Option Nat}, x < n → zra σ x j = v → zra σ1 x j = v := fun q e => ((g.2 _ q).2 _).1.trans e
  have ia : ∀ {x : Nat} {j : Int} {v : Int}, x < n → zia σ x j = v → zia σ1 x j = v := fun q e => ((g.2 _ q).2 _).2.trans e
  have lt : ∀ {x : Nat}, x < zn σ → x < zn σ1 := fun q => Nat.lt_of_lt_of_le q g.1
  refine ⟨⟨⟨kd l0 h.k0, lt h.l0, fun k t n q => ?_⟩, fun i a b => ?_, fun i a b => ?_, fun i a b => ?_, fun i a b => ?_, fun i a b => ?_, h.inj⟩, ⟨ia l0 h.i0, ia l0 h.i1, ia l0 h.i2, ia l0 h.i3, ia l0 h.i4, ia l0 h.i5⟩, fun x k a b c e => ia (l6 x a b) (h.c6 x k a b c e), fun x k a b c e => ia (l7 x a b) (h.c7 x k a b c e), fun x k a b c => ia (l8 x a b) (h.c8q x k a b c), fun x k a b c e => ?_, fun x k a b c e => ?_, fun k a b => ia (lf 11 1 4 (by decide)) (h.c11 k a b)⟩
  · have f := h.f k t n q; have z := lf k t n q; exact ⟨ra l0 f.1, lt f.2.1, kd z f.2.2⟩
  · have f := h.r6 i a b; have q := lf 6 6 4 (by decide); exact ⟨ra q f.1, lt f.2.1, kd (l6 i a b) f.2.2⟩
  · have f := h.r7 i a b; have q := lf 7 6 10 (by decide); exact ⟨ra q f.1, lt f.2.1, kd (l7 i a b) f.2.2⟩
  · have f := h.r8 i a b; have q := lf 8 6 6 (by decide); exact ⟨ra q f.1, lt f.2.1, kd (l8 i a b) f.2.2⟩
  · have f := h.r9 i a b; have q := lf 9 6 6 (by decide); exact ⟨ra q f.1, lt f.2.1, kd (l9 i a b) f.2.2⟩
  · have f := h.r10 i a b; have q := lf 10 6 4 (by decide); exact ⟨ra q f.1, lt f.2.1, kd (l10 i a b) f.2.2⟩
  · exact ia (l9 x a (by omega)) (h.c9 x k a b c e)
  · exact ia (l10 x a (by omega)) (h.c10 x k a b c e)
theorem eO_ext (hb : eB N) (h : eO N σ E) (e : ∀ j, j < 212 → M j = N j) : eO M σ E := by
  obtain ⟨b0, b1, b2, b3⟩ := hb
  have n0 := e 0 (by omega)
  have n1 := e 1 (by omega)
  have n2 := e 2 (by omega)
  refine ⟨by rw [n0, n1, n2]; exact h.1, ⟨h.i0.trans n0.symm, h.i1.trans n1.symm, h.i2.trans n2.symm, h.i3.trans (e 3 (by omega)).symm, h.i4.trans (e 4 (by omega)).symm, h.i5.trans (e 5 (by omega)).symm⟩, fun x k a b c q => ?_, fun x k a b c q => ?_, fun x k a b c => ?_, fun x k a b c q => ?_, fun x k a b c q => ?_, fun k a b => ?_⟩
  · rw [n0] at b; exact (h.c6 x k a b c q).trans (e (6 + 2 * x + k) (by omega)).symm
  · rw [n1] at b; exact (h.c7 x k a b c q).trans (e (14 + 8 * x + k) (by omega)).symm
  · rw [n2] at b
    have t := b3 x a b
    have e3 : mF M x 3 = mF N x 3 := e _ (by omega)
    rw [e3] at c
    exact (h.c8q x k a b c).trans (e (94 + 10 * x + k) (by omega)).symm
  · rw [n2] at b; rw [n0] at q; exact (h.c9 x k a b c q).trans (e (154 + 5 * x + k + 1) (by omega)).symm
  · rw [n0] at b; rw [n2] at q; exact (h.c10 x k a b c q).trans (e (184 + 6 * x + k) (by omega)).symm
  · exact (h.c11 k a b).trans (e (208 + k) (by omega)).symm
theorem eO_week (h : eO N σ E) {j : Int} {r : Option Nat} : eO N (zsr σ (E 12) j r) E := by
  have ra : ∀ {i : Nat} {k : Int}, i ≠ 12 → zra (zsr σ (E 12) j r) (E i) k = zra σ (E i) k := fun q => by rw [zra_sr, if_neg (fun z => q (h.inj _ _ z.1))]
  refine ⟨⟨⟨h.k0, h.l0, fun k t n q => ?_⟩, fun i a b => ?_, fun i a b => ?_, fun i a b => ?_, fun i a b => ?_, fun i a b => ?_, h.inj⟩, h.2⟩
  · have f := h.f k t n q; exact ⟨(ra (by omega)).trans f.1, f.2⟩
  · have f := h.r6 i a b; exact ⟨(ra (by omega)).trans f.1, f.2⟩
  · have f := h.r7 i a b; exact ⟨(ra (by omega)).trans f.1, f.2⟩
  · have f := h.r8 i a b; exact ⟨(ra (by omega)).trans f.1, f.2⟩
  · have f := h.r9 i a b; exact ⟨(ra (by omega)).trans f.1, f.2⟩
  · have f := h.r10 i a b; exact ⟨(ra (by omega)).trans f.1, f.2⟩
/-- of the old things only the own chain's cells have changed -/
def zGE (E : Nat → Nat) (n : Nat) (σ σ1 : zMem) : Prop := zn σ ≤ zn σ1 ∧ ∀ x, x < n → zkd σ1 x = zkd σ x ∧ ((∀ i, x ≠ E i) → ∀ j, zra σ1 x j = zra σ x j ∧ zia σ1 x j = zia σ x j)
theorem zGE.rf {n : Nat} : zGE E n σ σ := ⟨Nat.le_refl _, fun x _ => ⟨rfl, fun _ j => ⟨rfl, rfl⟩⟩⟩
theorem zGE.tr {n : Nat} {σ1 σ2 : zMem} (h : zGE E n σ σ1) (k : zGE E n σ1 σ2) : zGE E n σ σ2 := ⟨Nat.le_trans h.1 k.1, fun x hx => ⟨(k.2 x hx).1.trans (h.2 x hx).1, fun q j => ⟨((k.2 x hx).2 q j).1.trans ((h.2 x hx).2 q j).1, ((k.2 x hx).2 q j).2.trans ((h.2 x hx).2 q j).2⟩⟩⟩
theorem zGE.gw {n : Nat} {σ1 : zMem} (g : zGw n σ σ1) : zGE E n σ σ1 := ⟨g.1, fun x hx => ⟨(g.2 x hx).1, fun _ j => (g.2 x hx).2 j⟩⟩
theorem zGE.fr {n : Nat} {σ1 : zMem} (f : zFr (eP E) σ σ1) : zGE E n σ σ1 := ⟨by rw [f.1]; exact Nat.le_refl _, fun x _ => ⟨by rw [f.2.1], fun q j => ⟨by rw [f.2.2.1], f.2.2.2.2.2 x j (fun z => by obtain ⟨i, e⟩ := z; exact q i e)⟩⟩⟩
theorem zGE.si {n i : Nat} {j v : Int} {σ1 : zMem} (g : zGE E n σ σ1) : zGE E n σ (zsi σ1 (E i) j v) := g.tr ⟨Nat.le_refl _, fun x _ => ⟨rfl, fun q k => ⟨rfl, by rw [zia_si, if_neg (fun z => q i z.1)]⟩⟩⟩
theorem zGE.sr {n i : Nat} {j : Int} {v : Option Nat} {σ1 : zMem} (g : zGE E n σ σ1) : zGE E n σ (zsr σ1 (E i) j v) := g.tr ⟨Nat.le_refl _, fun x _ => ⟨rfl, fun q k => ⟨by rw [zra_sr, if_neg (fun z => q i z.1)], rfl⟩⟩⟩
theorem zGE.sn {n a : Nat} {j v : Int} {σ1 : zMem} (g : zGE E n σ σ1) (ha : n ≤ a) : zGE E n σ (zsi σ1 a j v) := g.tr (zGE.gw (zGw_si zGw.rf ha))
theorem zGE.nw {n k c sz : Nat} {σ1 : zMem} (g : zGE E n σ σ1) (hn : n ≤ zn σ1) : zGE E n σ (znw σ1 k c sz) := g.tr (zGE.gw (zGw_nw zGw.rf hn))
/-- the numbers in the middle of a closing: screens as before, demands as before -/
def oMid (N M : Int → Int) : Prop := agr N M ∧ (∀ j, 154 ≤ j → j < 184 → M j = N j) ∧ (∀ f k, 0 ≤ f → f < 6 → 0 ≤ k → k < 8 → mF M f k = mF N f k) ∧ (∀ f, 0 ≤ f → f < 6 → mF M f 8 = mF N f 8 ∨ (mF N f 8 = -1 ∧ mF M f 8 = N 3)) ∧ (∀ h f, 0 ≤ h → h < 4 → 0 ≤ f → f < 6 → 0 ≤ mR M h f ∧ mR M h f ≤ N 3 + 1) ∧ ∀ j, zrg (M j)
theorem oMid.V (m : oMid N M) (hV : mV N) : mV M := mV_mid hV m.1 m.2.1 m.2.2.1 (fun f f0 f1 => by
  have a := m.2.2.2.1 f f0 f1
  have b := hV.f f f0 f1
  have hn := hV.n
  omega) m.2.2.2.2.1 m.2.2.2.2.2
theorem oMid.W (m : oMid N M) (hV : mV N) (hW : mW N) : mW M := m.1.W hV hW
theorem oMid.g (m : oMid N M) (hV : mV N) {gg : Int → Int} (h : gOK N gg) : gOK M gg := fun s dd a b c e => by
  rw [mid_gv hV m.1 m.2.2.1 (fun f f0 f1 => mid_dem hV f0 (by have := hV.n; omega) (m.1 3 (by omega)) (fun k k0 k1 => m.2.2.1 f k f0 (by have := hV.n; omega) k0 k1) (m.2.2.2.1 f f0 (by have := hV.n; omega))) a b]
  exact h s dd a b c e
def ocC (N : Int → Int) (b : Nat) : Int → Int := fun j => if 94 ≤ j ∧ j < 154 ∧ (j - 94) % 10 = 9 ∧ (j - 94) / 10 < (b : Int) then N j + cFt N ((j - 94) / 10) else kwN N (clA N) 4 j
def ocE (N : Int → Int) (x n : Nat) : Int → Int := fun j => if 184 ≤ j ∧ j < 208 then kfR N x n ((j - 184) / 6) ((j - 184) % 6) else ocC N (nF N) j
def ocF (N : Int → Int) (c : Nat) : Int → Int := fun j => if 94 ≤ j ∧ j < 154 ∧ (j - 94) % 10 = 8 ∧ (j - 94) / 10 < (c : Int) then clB N ((j - 94) / 10) (nH N) else ocE N (nF N) 0 j
theorem ocC_0 : ocC N 0 = kwN N (clA N) 4 := funext fun j => if_neg (by omega)
theorem ocE_0 : ocE N 0 0 = ocC N (nF N) := funext fun j => by
  unfold ocE
  split
  · unfold kfR
    rw [if_neg (by omega)]
    unfold ocC
    rw [if_neg (by omega), kwN_a (by omega)]
    show N (184 + 6 * ((j - 184) / 6) + (j - 184) % 6) = N j
    congr 1
    omega
  · rfl
theorem ocF_0 : ocF N 0 = ocE N (nF N) 0 := funext fun j => if_neg (by omega)
theorem ocF_n : ocF N (nF N) = kfG N (nF N) 0 0 := funext fun j => by
  unfold ocF ocE ocC kfG kfF
  by_cases c1 : 94 ≤ j ∧ j < 154
  · rw [if_pos c1]
    by_cases c9 : (j - 94) % 10 = 9
    · rw [if_neg (by omega), if_neg (by omega), if_pos c9]
      by_cases cb : (j - 94) / 10 < (nF N : Int)
      · rw [if_pos (by omega), if_pos (by omega)]
        congr 1
        show N j = N (94 + 10 * ((j - 94) / 10) + 9)
        congr 1
        omega
      · rw [if_neg (by omega), if_neg (by omega), kwN_a (by omega)]
        show N j = N (94 + 10 * ((j - 94) / 10) + 9)
        congr 1
        omega
    · rw [if_neg c9]
      by_cases c8 : (j - 94) % 10 = 8
      · rw [if_pos c8]
        by_cases cb : (j - 94) / 10 < (nF N : Int)
        · rw [if_pos (by omega), if_pos cb]
        · rw [if_neg (by omega), if_neg (by omega), if_neg (by omega), if_neg cb, kwN_a (by omega)]
          have e : N j = mF N ((j - 94) / 10) 8 := by
            show N j = N (94 + 10 * ((j - 94) / 10) + 8)
            congr 1
            omega
          split
          · exact e
          · exact e
      · rw [if_neg (by omega), if_neg (by omega), if_neg (by omega), if_neg c8, kwN_a (by omega)]
        show N j = N (94 + 10 * ((j - 94) / 10) + (j - 94) % 10)
        congr 1
        omega
  · rw [if_neg (by omega), if_neg c1]
    by_cases c2 : 184 ≤ j ∧ j < 208
    · rw [if_pos c2, if_pos c2]
    · rw [if_neg c2, if_neg c2, if_neg (by omega)]
theorem ocC_s {b : Nat} {i v : Int} (hb : b < 6) (ei : i = 94 + 10 * (b : Int) + 9) (ev : v = ocC N b i + cFt N b) : mSet (ocC N b) i v = ocC N (b + 1) := funext fun j => by
  subst ei
  subst ev
  unfold ocC
  by_cases e : j = 94 + 10 * (b : Int) + 9
  · subst e
    rw [mSet_at, if_neg (by omega), if_pos (by omega), kwN_a (by omega), show (94 + 10 * (b : Int) + 9 - 94) / 10 = (b : Int) by omega]
  · rw [mSet_o e]
    by_cases c : 94 ≤ j ∧ j < 154 ∧ (j - 94) % 10 = 9 ∧ (j - 94) / 10 < (b : Int)
    · rw [if_pos c, if_pos (by omega)]
    · rw [if_neg c, if_neg (by omega)]
theorem ocE_yes {x n : Nat} {i v : Int} (hx : x < 6) (hn : n < 4) (hh : n < nH N) (y : 0 < mNeed N n x) (ei : i = 184 + 6 * (n : Int) + x) (ev : v = ocE N x n i + 1) : mSet (ocE N x n) i v = ocE N x (n + 1) := funext fun j => by
  subst ei
  subst ev
  unfold ocE
  by_cases e : j = 184 + 6 * (n : Int) + x
  · subst e
    rw [mSet_at, if_pos (by omega), if_pos (by omega), show (184 + 6 * (n : Int) + (x : Int) - 184) / 6 = (n : Int) by omega, show (184 + 6 * (n : Int) + (x : Int) - 184) % 6 = (x : Int) by omega]
    unfold kfR
    rw [if_neg (by omega), if_pos (by omega), ← zbT y]
  · rw [mSet_o e]
    by_cases c : 184 ≤ j ∧ j < 208
    · rw [if_pos c, if_pos c]
      unfold kfR
      by_cases q : ((j - 184) % 6 < (x : Int) ∧ (j - 184) / 6 < (nH N : Int)) ∨ ((j - 184) % 6 = (x : Int) ∧ (j - 184) / 6 < (n : Int))
      · rw [if_pos q, if_pos (by omega)]
      · rw [if_neg q, if_neg (by omega)]
    · rw [if_neg c, if_neg c]
theorem ocE_no {x n : Nat} (y : ¬ 0 < mNeed N n x) : ocE N x n = ocE N x (n + 1) := funext fun j => by
  unfold ocE
  by_cases c : 184 ≤ j ∧ j < 208
  · rw [if_pos c, if_pos c]
    unfold kfR
    by_cases q : ((j - 184) % 6 < (x : Int) ∧ (j - 184) / 6 < (nH N : Int)) ∨ ((j - 184) % 6 = (x : Int) ∧ (j - 184) / 6 < (n : Int))
    · rw [if_pos q, if_pos (by omega)]
    · rw [if_neg q]
      by_cases q2 : (j - 184) % 6 = (x : Int) ∧ (j - 184) / 6 = (n : Int)
      · rw [if_pos (by omega), q2.1, q2.2, ← zbF y, Int.add_zero]
      · rw [if_neg (by omega)]
  · rw [if_neg c, if_neg c]
theorem ocE_n {x : Nat} : ocE N x (nH N) = ocE N (x + 1) 0 := funext fun j => by
  unfold ocE
  by_cases c : 184 ≤ j ∧ j < 208
  · rw [if_pos c, if_pos c]
    unfold kfR
    by_cases q : (j - 184) % 6 < (x : Int) + 1 ∧ (j - 184) / 6 < (nH N : Int)
    · rw [if_pos (by omega), if_pos (by omega)]
    · rw [if_neg (by omega), if_neg (by omega)]
  · rw [if_neg c, if_neg c]
theorem ocF_s {c : Nat} {i v : Int} (hc : c < 6) (ei : i = 94 + 10 * (c : Int) + 8) (ev : v = clB N c (nH N)) : mSet (ocF N c) i v = ocF N (c + 1) := funext fun j => by
  subst ei
  subst ev
  unfold ocF
  by_cases e : j = 94 + 10 * (c : Int) + 8
  · subst e
    rw [mSet_at, if_pos (by omega), show (94 + 10 * (c : Int) + 8 - 94) / 10 = (c : Int) by omega]
  · rw [mSet_o e]
    by_cases q : 94 ≤ j ∧ j < 154 ∧ (j - 94) % 10 = 8 ∧ (j - 94) / 10 < (c : Int)
    · rw [if_pos q, if_pos (by omega)]
    · rw [if_neg q, if_neg (by omega)]
theorem ocF_no {c : Nat} (hc : c < 6) (e : mF N c 8 = clB N c (nH N)) : ocF N c = ocF N (c + 1) := funext fun j => by
  unfold ocF
  by_cases q : 94 ≤ j ∧ j < 154 ∧ (j - 94) % 10 = 8 ∧ (j - 94) / 10 < (c : Int)
  · rw [if_pos q, if_pos (by omega)]
  · rw [if_neg q]
    by_cases q2 : j = 94 + 10 * (c : Int) + 8
    · subst q2
      rw [if_pos (by omega), show (94 + 10 * (c : Int) + 8 - 94) / 10 = (c : Int) by omega, ← e]
      unfold ocE ocC
      rw [if_neg (by omega), if_neg (by omega), kwN_a (by omega)]
      rfl
    · rw [if_neg (by omega)]
/-- a film began in one of the first n houses -/
def obg (N : Int → Int) (f : Int) (n : Nat) : Prop := ∃ h : Nat, h < n ∧ 0 < mNeed N h f
theorem clB_yes {f : Int} : ∀ n : Nat, mF N f 8 = -1 → obg N f n → N 3 ≠ -1 → clB N f n = N 3 := fun n => by
  induction n with
  | zero => intro _ h; obtain ⟨h, h1, -⟩ := h; omega
  | succ n ih =>
    intro e h q
    show (if 0 < mNeed N n f ∧ clB N f n = -1 then N 3 else clB N f n) = N 3
    by_cases c : obg N f n
    · rw [if_neg (by rw [ih e c q]; exact fun z => q z.2)]
      exact ih e c q
    · obtain ⟨x, x1, x2⟩ := h
      have ex : x = n := Decidable.byContradiction fun z => c ⟨x, by omega, x2⟩
      subst ex
      rcases clB_s (N := N) (f := f) x with z | z
      · rw [if_pos ⟨x2, z.trans e⟩]
      · split
        · rfl
        · exact z.2
theorem clB_no {f : Int} : ∀ n : Nat, mF N f 8 ≠ -1 ∨ ¬ obg N f n → clB N f n = mF N f 8 := fun n => by
  induction n with
  | zero => intro _; rfl
  | succ n ih =>
    intro h
    have i := ih (h.imp id fun q z => q ⟨z.choose, by have := z.choose_spec.1; omega, z.choose_spec.2⟩)
    show (if 0 < mNeed N n f ∧ clB N f n = -1 then N 3 else clB N f n) = _
    rw [if_neg (fun z => by
      rcases h with q | q
      · exact q (i.symm.trans z.2)
      · exact q ⟨n, by omega, z.1⟩), i]
end ZE5

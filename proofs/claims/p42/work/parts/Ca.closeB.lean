/-! the law's own chain: a week closed, walked -/
section ZE6
variable {G : zG} {M0 : zMeth} {d pc : Nat} {ls : List (Nat × zV)} {st : List zV} {σ : zMem} {Q : zRes → zMem → Prop} {E : Nat → Nat} {N M : Int → Int}
theorem oMid_of (hV : mV N) (a : ∀ j, j < 94 ∨ (94 ≤ j ∧ j < 154 ∧ (j - 94) % 10 < 8) ∨ (154 ≤ j ∧ j < 184) → M j = N j) (h8 : ∀ f, 0 ≤ f → f < 6 → mF M f 8 = mF N f 8 ∨ (mF N f 8 = -1 ∧ mF M f 8 = N 3)) (hr : ∀ h f, 0 ≤ h → h < 4 → 0 ≤ f → f < 6 → mR M h f = mR N h f ∨ ∃ z : Int, 0 ≤ z ∧ z ≤ 1 ∧ mR M h f = mR N h f + z) (hQ : mQ N) (hb : ∀ j, zrg (M j)) : oMid N M :=
  ⟨fun j hj => a j (Or.inl hj), fun j h0 h1 => a j (Or.inr (Or.inr ⟨h0, h1⟩)), fun f k f0 f1 k0 k1 => a _ (by omega), h8, fun h f h0 h1 f0 f1 => by
    have q := hV.r h f h0 h1 f0 f1
    have q2 := hQ.2.2.2.2.1 h f h0 h1 f0 f1
    rcases hr h f h0 h1 f0 f1 with e | ⟨z, z0, z1, e⟩ <;> omega, hb⟩
theorem kwN_mid (hV : mV N) (hQ : mQ N) (ha : amR N) {x : Nat} (hx : x ≤ 4) : oMid N (kwN N (clA N) x) :=
  oMid_of hV (fun j h => kwN_a (by omega)) (fun f f0 f1 => Or.inl (kwN_a (by omega))) (fun h f h0 h1 f0 f1 => Or.inl (kwN_a (by omega))) hQ (kwN_b hV hQ ha x hx)
theorem ocC_b (hV : mV N) (hW : mW N) (hQ : mQ N) (ha : amR N) (b : Nat) : ∀ j, zrg (ocC N b j) := fun j => by
  unfold ocC
  by_cases c : 94 ≤ j ∧ j < 154 ∧ (j - 94) % 10 = 9 ∧ (j - 94) / 10 < (b : Int)
  · rw [if_pos c]
    have q := kfG_b hV hW hQ ha b 0 0 j
    unfold kfG kfF at q
    rw [if_pos (by omega), if_pos (by omega), if_pos (by omega), show mF N ((j - 94) / 10) 9 = N j from by show N (94 + 10 * ((j - 94) / 10) + 9) = N j; congr 1; omega] at q
    exact q
  · rw [if_neg c]
    exact kwN_b hV hQ ha 4 (Nat.le_refl _) j
theorem ocC_mid (hV : mV N) (hW : mW N) (hQ : mQ N) (ha : amR N) (b : Nat) : oMid N (ocC N b) := by
  have e : ∀ j, j < 94 ∨ (94 ≤ j ∧ j < 154 ∧ (j - 94) % 10 < 9) ∨ (154 ≤ j ∧ j < 208) → ocC N b j = N j := fun j h => by
    unfold ocC
    rw [if_neg (by omega), kwN_a (by omega)]
  exact oMid_of hV (fun j h => e j (by omega)) (fun f f0 f1 => Or.inl (e _ (by omega))) (fun h f h0 h1 f0 f1 => Or.inl (e _ (by omega))) hQ (ocC_b hV hW hQ ha b)
theorem kfR_z (x n : Nat) (h f : Int) : kfR N x n h f = mR N h f ∨ ∃ z : Int, 0 ≤ z ∧ z ≤ 1 ∧ kfR N x n h f = mR N h f + z := by
  unfold kfR
  split
  · exact Or.inr ⟨_, zb_nn _, zb_le _, rfl⟩
  · exact Or.inl rfl
theorem ocE_mid (hV : mV N) (hW : mW N) (hQ : mQ N) (ha : amR N) (x n : Nat) : oMid N (ocE N x n) := by
  have e : ∀ j, j < 184 → ocE N x n j = ocC N (nF N) j := fun j h => if_neg (by omega)
  have m := ocC_mid hV hW hQ ha (nF N)
  have r : ∀ h f, 0 ≤ h → h < 4 → 0 ≤ f → f < 6 → mR (ocE N x n) h f = kfR N x n h f := fun h f h0 h1 f0 f1 => by
    show ocE N x n (184 + 6 * h + f) = _
    unfold ocE
    rw [if_pos (by omega), show (184 + 6 * h + f - 184) / 6 = h by omega, show (184 + 6 * h + f - 184) % 6 = f by omega]
  refine oMid_of hV (fun j h => ?_) (fun f f0 f1 => Or.inl ((e _ (by omega)).trans ?_)) (fun h f h0 h1 f0 f1 => ?_) hQ (fun j => ?_)
  · rw [e j (by omega)]
    unfold ocC
    rw [if_neg (by omega), kwN_a (by omega)]
  · unfold ocC
    rw [if_neg (by omega), kwN_a (by omega)]
    rfl
  · rw [r h f h0 h1 f0 f1]; exact kfR_z x n h f
  · unfold ocE
    split
    · have q := hV.b (184 + 6 * ((j - 184) / 6) + (j - 184) % 6)
      have q1 := hV.r ((j - 184) / 6) ((j - 184) % 6) (by omega) (by omega) (by omega) (by omega)
      have hn := hV.n
      rcases kfR_z (N := N) x n ((j - 184) / 6) ((j - 184) % 6) with z | ⟨z, z0, z1, e⟩
      · rw [z]; exact ⟨by omega, by omega⟩
      · rw [e]; exact ⟨by omega, by omega⟩
    · exact ocC_b hV hW hQ ha _ j
theorem ocF_mid (hV : mV N) (hW : mW N) (hQ : mQ N) (ha : amR N) (c : Nat) : oMid N (ocF N c) := by
  have m := ocE_mid hV hW hQ ha (nF N) 0
  have e : ∀ j, ¬ (94 ≤ j ∧ j < 154 ∧ (j - 94) % 10 = 8 ∧ (j - 94) / 10 < (c : Int)) → ocF N c j = ocE N (nF N) 0 j := fun j h => if_neg h
  have e8 : ∀ f, 0 ≤ f → f < 6 → ocF N c (94 + 10 * f + 8) = mF N f 8 ∨ (mF N f 8 = -1 ∧ ocF N c (94 + 10 * f + 8) = N 3) := fun f f0 f1 => by
    unfold ocF
    by_cases q : f < (c : Int)
    · rw [if_pos (by omega), show (94 + 10 * f + 8 - 94) / 10 = f by omega]
      exact clB_s _
    · rw [if_neg (by omega)]
      exact m.2.2.2.1 f f0 f1
  refine oMid_of hV (fun j h => (e j (by omega)).trans ?_) e8 (fun h f h0 h1 f0 f1 => ?_) hQ (fun j => ?_)
  · rcases h with h | h | h
    · exact m.1 j h
    · have := m.2.2.1 ((j - 94) / 10) ((j - 94) % 10) (by omega) (by omega) (by omega) (by omega)
      have k : 94 + 10 * ((j - 94) / 10) + (j - 94) % 10 = j := by omega
      unfold mF at this
      rw [k] at this
      exact this
    · exact m.2.1 j h.1 h.2
  · show ocF N c (184 + 6 * h + f) = _ ∨ ∃ z : Int, _ ∧ _ ∧ ocF N c (184 + 6 * h + f) = _
    rw [e _ (by omega)]
    unfold ocE
    rw [if_pos (by omega), show (184 + 6 * h + f - 184) / 6 = h by omega, show (184 + 6 * h + f - 184) % 6 = f by omega]
    exact kfR_z _ _ h f
  · by_cases q : 94 ≤ j ∧ j < 154 ∧ (j - 94) % 10 = 8 ∧ (j - 94) / 10 < (c : Int)
    · have r := e8 ((j - 94) / 10) (by omega) (by omega)
      rw [show 94 + 10 * ((j - 94) / 10) + 8 = j by omega] at r
      have hn := hV.n
      rcases r with r | r
      · rw [r]; exact hV.b _
      · rw [r.2]; exact hV.b _
    · rw [e j q]; exact m.2.2.2.2.2 j
theorem hsG_V (hV : mV N) (hW : mW N) (hQ : mQ N) (ha : amR N) {y : Nat} (hy : y ≤ 10) : mV (hsG N y) := by
  have k := kfG_V hV hW hQ ha (nF N) 0 0
  have o : ∀ j, j < 14 ∨ (94 ≤ j ∧ j < 216) → hsG N y j = kfG N (nF N) 0 0 j := fun j h => hsG_o (by omega) (by omega)
  refine ⟨by rw [o 0 (by omega), o 1 (by omega), o 2 (by omega), o 3 (by omega)]; exact k.n, hsG_b hV hW hQ ha y hy, fun s s0 s1 => ?_, fun f f0 f1 => ?_, fun f k' f0 f1 k0 k1 => ?_, fun h h0 h1 => ?_, fun h f h0 h1 f0 f1 => ?_, fun f p f0 f1 p0 p1 => ?_⟩
  · have q := hV.s s s0 s1
    have r := hsS_b hV (y := y) s0 s1
    have w := hFl_b hV s0 s1
    have zb0 := zb_nn (mHold N s)
    have zb1 := zb_le (mHold N s)
    rw [hsG_S s0 s1 (k := 0) (by omega) (by omega), hsG_S s0 s1 (k := 1) (by omega) (by omega), hsG_S s0 s1 (k := 2) (by omega) (by omega), hsG_S s0 s1 (k := 3) (by omega) (by omega), hsG_S s0 s1 (k := 4) (by omega) (by omega), hsG_S s0 s1 (k := 5) (by omega) (by omega), hsG_S s0 s1 (k := 6) (by omega) (by omega), hsG_S s0 s1 (k := 7) (by omega) (by omega), hsS_k (k := 0) (by omega), hsS_k (k := 1) (by omega), hsS_k (k := 2) (by omega), hsS_k (k := 3) (by omega)]
    omega
  · have q := k.f f f0 f1
    unfold mF at q ⊢
    rw [o (94 + 10 * f + 0) (by omega), o (94 + 10 * f + 1) (by omega), o (94 + 10 * f + 2) (by omega), o (94 + 10 * f + 3) (by omega), o (94 + 10 * f + 8) (by omega), o 2 (by omega), o 3 (by omega)]
    exact q
  · have q := k.t f k' f0 f1 k0 k1
    unfold mF at q ⊢
    rw [o _ (by omega)]
    exact q
  · have q := k.h h h0 h1
    unfold mH at q ⊢
    rw [o _ (by omega), o _ (by omega)]
    exact q
  · have q := k.r h f h0 h1 f0 f1
    unfold mR at q ⊢
    rw [o _ (by omega), o 3 (by omega)]
    exact q
  · have q := k.p f p f0 f1 p0 p1
    unfold mP at q ⊢
    rw [o _ (by omega)]
    exact q
/-- the memory of a closing: the own chain says M, k new things of sz cells; the week's amounts -/
def clS (N M : Int → Int) (σ σ1 : zMem) (E : Nat → Nat) (k sz : Nat) : Prop := eO M σ1 E ∧ zGE E (zn σ) σ σ1 ∧ (zn σ1 = zn σ + k ∧ zcs σ1 = zcs σ + k ∧ zss σ1 = zss σ + sz) ∧ zkd σ1 (zn σ) = (1, 5)
def clW (N : Int → Int) (σ1 : zMem) (a : Nat) (v1 : Int) : Prop := zia σ1 a 0 = clA N 0 ∧ zia σ1 a 1 = v1 ∧ zia σ1 a 2 = clA N 2 ∧ zia σ1 a 3 = clA N 3
def eL (N : Int → Int) (E : Nat → Nat) (n : Nat) : Prop := eLt (N 0) (N 1) (N 2) E n
theorem clS.n {σ1 : zMem} {k sz a : Nat} {j v : Int} (c : clS N M σ σ1 E k sz) (hb : eB M) (l : eL M E (zn σ)) (ha : zn σ ≤ a) : clS N M σ (zsi σ1 a j v) E k sz := ⟨c.1.gn hb l (zGw_si zGw.rf ha), c.2.1.sn ha, c.2.2⟩
theorem clS.nw {σ1 : zMem} {k sz t m : Nat} (c : clS N M σ σ1 E k sz) (hb : eB M) (l : eL M E (zn σ)) (hk : 1 ≤ k) : clS N M σ (znw σ1 t m m) E (k + 1) (sz + m) := ⟨c.1.gn hb l (zGw_nw zGw.rf (by have := c.2.2.1.1; omega)), c.2.1.nw (by have := c.2.2.1.1; omega), ⟨by rw [zn_nw]; have := c.2.2.1.1; omega, by rw [zcs_nw]; have := c.2.2.1.2.1; omega, by rw [zss_nw]; have := c.2.2.1.2.2; omega⟩, by rw [zkd_nw, if_neg (by have := c.2.2.1.1; omega)]; exact c.2.2.2⟩
theorem clS.e {σ1 : zMem} {k sz i : Nat} {j v : Int} {M2 : Int → Int} (c : clS N M σ σ1 E k sz) (h : eO M2 (zsi σ1 (E i) j v) E) : clS N M2 σ (zsi σ1 (E i) j v) E k sz := ⟨h, c.2.1.si, c.2.2⟩
theorem clS.to {σ1 : zMem} {k sz : Nat} {M2 : Int → Int} (c : clS N M σ σ1 E k sz) (e : M = M2) : clS N M2 σ σ1 E k sz := e ▸ c
theorem clW.e {σ1 : zMem} {i : Nat} {j v v1 : Int} (c : clW N σ1 (zn σ) v1) (h : E i < zn σ ∨ zn σ < E i) : clW N (zsi σ1 (E i) j v) (zn σ) v1 := ⟨by rw [zia_si, if_neg (by omega)]; exact c.1, by rw [zia_si, if_neg (by omega)]; exact c.2.1, by rw [zia_si, if_neg (by omega)]; exact c.2.2.1, by rw [zia_si, if_neg (by omega)]; exact c.2.2.2⟩
end ZE6

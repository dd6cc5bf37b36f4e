/-! a clause keeps the numbers -/
section ZLF
variable {t : Int → Int} {L : Nat} {D D' : Int → Int}
theorem mSet_rg (hb : ∀ j, zrg (D j)) {i v : Int} (hv : zrg v) : ∀ j, zrg (mSet D i v j) := fun j => by
  unfold mSet
  split
  · exact hv
  · exact hb j
theorem ldV.h (h : ldV D) : ∀ h, 0 ≤ h → h < 4 → 0 ≤ mH D h 0 ∧ mH D h 0 ≤ 99 ∧ 0 ≤ mH D h 1 ∧ mH D h 1 ≤ 100 := h.2.2.1
theorem ldV.sc (h : ldV D) : ∀ s, 0 ≤ s → s < 10 → (s < D 1 → 0 ≤ mS D s 0 ∧ mS D s 0 < D 0 ∧ 1 ≤ mS D s 1 ∧ mS D s 1 ≤ 500 ∧ 1 ≤ mS D s 2 ∧ mS D s 2 ≤ 6 ∧ 0 ≤ mS D s 3 ∧ mS D s 3 ≤ 9999 ∧ mS D s 4 = -1 ∧ mS D s 5 = -1 ∧ mS D s 6 = 0 ∧ mS D s 7 = 0) ∧ (¬ s < D 1 → ∀ k, 0 ≤ k → k < 8 → mS D s k = 0) := h.2.2.2.1
theorem ldV.f (h : ldV D) : ∀ f, 0 ≤ f → f < 6 → (f < D 2 → 0 ≤ mF D f 0 ∧ mF D f 0 ≤ 9999 ∧ 0 ≤ mF D f 1 ∧ mF D f 1 ≤ 100 ∧ 0 ≤ mF D f 2 ∧ mF D f 2 ≤ 9999 ∧ 1 ≤ mF D f 3 ∧ mF D f 3 ≤ 4 ∧ mF D f 8 = -1) ∧ (¬ f < D 2 → mF D f 0 = 0 ∧ mF D f 1 = 0 ∧ mF D f 2 = 0 ∧ mF D f 3 = 0 ∧ mF D f 8 = 0) ∧ mF D f 9 = 0 ∧ ∀ k, 0 ≤ k → k < 4 → 0 ≤ mF D f (4 + k) ∧ mF D f (4 + k) ≤ 90 := h.2.2.2.2.1
theorem ldV.p (h : ldV D) : ∀ j, 154 ≤ j → j < 184 → 0 ≤ D j ∧ D j ≤ 9 := h.2.2.2.2.2.1
theorem ldV.r (h : ldV D) : ∀ j, 184 ≤ j → j < 212 → D j = 0 := h.2.2.2.2.2.2.1
theorem ldV.c (h : ldV D) : ∀ h, mCn D h (nS D) ≤ 4 := h.2.2.2.2.2.2.2
theorem nS_D (h : ldV D) : ((nS D : Nat) : Int) = D 1 := by
  have := h.n
  unfold nS; omega
/-- where the screens' rows stay, so do their counts -/
theorem mCn_cg {h : Int} {n : Nat} (e : ∀ i : Nat, i < n → mS D' i 0 = mS D i 0) : mCn D' h n = mCn D h n := by
  unfold mCn
  exact zsum_congr fun i hi => by rw [e i hi]
theorem ldV_house {p q : Int} (hv : ldV D) (h4 : D 0 < 4) (p0 : 1 ≤ p) (p1 : p ≤ 99) (q0 : 1 ≤ q) (q1 : q ≤ 100) : ldV (mSet (mSet (mSet D (6 + 2 * D 0 + 0) p) (6 + 2 * D 0 + 1) q) 0 (D 0 + 1)) := by
  have hn := hv.n
  have key : ∀ j, mSet (mSet (mSet D (6 + 2 * D 0 + 0) p) (6 + 2 * D 0 + 1) q) 0 (D 0 + 1) j = if j = 0 then D 0 + 1 else if j = 6 + 2 * D 0 + 1 then q else if j = 6 + 2 * D 0 + 0 then p else D j := fun j => rfl
  generalize hE : mSet (mSet (mSet D (6 + 2 * D 0 + 0) p) (6 + 2 * D 0 + 1) q) 0 (D 0 + 1) = E at key ⊢
  have e0 : E 0 = D 0 + 1 := by rw [key, if_pos rfl]
  have eo : ∀ j, (j = 1 ∨ j = 2 ∨ j = 3 ∨ j = 4 ∨ j = 5 ∨ 14 ≤ j) → E j = D j := fun j hj => by rw [key, if_neg (by omega), if_neg (by omega), if_neg (by omega)]
  have e1 := eo 1 (by decide)
  have nse : nS E = nS D := by unfold nS; rw [e1]
  refine ⟨?_, ?_, ?_, ?_, ?_, ?_, ?_, ?_⟩
  · rw [e0, e1, eo 2 (by decide), eo 3 (by decide), eo 4 (by decide), eo 5 (by decide)]; omega
  · rw [← hE]; exact mSet_rg (mSet_rg (mSet_rg hv.b (by constructor <;> omega)) (by constructor <;> omega)) (by constructor <;> omega)
  · intro h h0 h1
    have a := hv.h h h0 h1
    unfold mH at a ⊢
    by_cases c : h = D 0
    · have a0 : E (6 + 2 * h + 0) = p := by rw [key, if_neg (by omega), if_neg (by omega), if_pos (by omega)]
      have a1 : E (6 + 2 * h + 1) = q := by rw [key, if_neg (by omega), if_pos (by omega)]
      rw [a0, a1]; omega
    · have a0 : E (6 + 2 * h + 0) = D (6 + 2 * h + 0) := by rw [key, if_neg (by omega), if_neg (by omega), if_neg (by omega)]
      have a1 : E (6 + 2 * h + 1) = D (6 + 2 * h + 1) := by rw [key, if_neg (by omega), if_neg (by omega), if_neg (by omega)]
      rw [a0, a1]; exact a
  · intro s s0 s1
    have a := hv.sc s s0 s1
    unfold mS at a ⊢
    rw [e1, e0, eo (14 + 8 * s + 0) (by omega), eo (14 + 8 * s + 1) (by omega), eo (14 + 8 * s + 2) (by omega), eo (14 + 8 * s + 3) (by omega), eo (14 + 8 * s + 4) (by omega), eo (14 + 8 * s + 5) (by omega), eo (14 + 8 * s + 6) (by omega), eo (14 + 8 * s + 7) (by omega)]
    refine ⟨fun z => ?_, fun z k k0 k1 => ?_⟩
    · have b := a.1 z
      refine ⟨b.1, by omega, b.2.2⟩
    · rw [eo _ (by omega)]; exact a.2 z k k0 k1
  · intro f f0 f1
    have a := hv.f f f0 f1
    unfold mF at a ⊢
    rw [eo 2 (by decide), eo (94 + 10 * f + 0) (by omega), eo (94 + 10 * f + 1) (by omega), eo (94 + 10 * f + 2) (by omega), eo (94 + 10 * f + 3) (by omega), eo (94 + 10 * f + 8) (by omega), eo (94 + 10 * f + 9) (by omega)]
    exact ⟨a.1, a.2.1, a.2.2.1, fun k k0 k1 => by rw [eo _ (by omega)]; exact a.2.2.2 k k0 k1⟩
  · intro j j0 j1; rw [eo j (by omega)]; exact hv.p j j0 j1
  · intro j j0 j1; rw [eo j (by omega)]; exact hv.r j j0 j1
  · intro h; rw [nse, mCn_cg (D := D) fun i _ => eo _ (by omega)]; exact hv.c h
theorem ldV_fee {v : Int} (hv : ldV D) (v0 : 0 ≤ v) (v1 : v ≤ 999) : ldV (mSet D 4 v) := by
  have hn := hv.n
  have eo : ∀ j, j ≠ 4 → mSet D 4 v j = D j := fun j hj => mSet_o hj
  have e4 : mSet D 4 v 4 = v := mSet_at _ _ _
  have hb : ∀ j, zrg (mSet D 4 v j) := mSet_rg hv.b (by constructor <;> omega)
  generalize mSet D 4 v = E at eo e4 hb ⊢
  have nse : nS E = nS D := by unfold nS; rw [eo 1 (by decide)]
  refine ⟨?_, hb, ?_, ?_, ?_, ?_, ?_, ?_⟩
  · rw [eo 0 (by decide), eo 1 (by decide), eo 2 (by decide), eo 3 (by decide), e4, eo 5 (by decide)]; omega
  · intro h h0 h1
    have a := hv.h h h0 h1
    unfold mH at a ⊢
    rw [eo _ (by omega), eo _ (by omega)]; exact a
  · intro s s0 s1
    have a := hv.sc s s0 s1
    unfold mS at a ⊢
    rw [eo 1 (by decide), eo 0 (by decide), eo (14 + 8 * s + 0) (by omega), eo (14 + 8 * s + 1) (by omega), eo (14 + 8 * s + 2) (by omega), eo (14 + 8 * s + 3) (by omega), eo (14 + 8 * s + 4) (by omega), eo (14 + 8 * s + 5) (by omega), eo (14 + 8 * s + 6) (by omega), eo (14 + 8 * s + 7) (by omega)]
    exact ⟨a.1, fun z k k0 k1 => by rw [eo _ (by omega)]; exact a.2 z k k0 k1⟩
  · intro f f0 f1
    have a := hv.f f f0 f1
    unfold mF at a ⊢
    rw [eo 2 (by decide), eo (94 + 10 * f + 0) (by omega), eo (94 + 10 * f + 1) (by omega), eo (94 + 10 * f + 2) (by omega), eo (94 + 10 * f + 3) (by omega), eo (94 + 10 * f + 8) (by omega), eo (94 + 10 * f + 9) (by omega)]
    exact ⟨a.1, a.2.1, a.2.2.1, fun k k0 k1 => by rw [eo _ (by omega)]; exact a.2.2.2 k k0 k1⟩
  · intro j j0 j1; rw [eo j (by omega)]; exact hv.p j j0 j1
  · intro j j0 j1; rw [eo j (by omega)]; exact hv.r j j0 j1
  · intro h; rw [nse, mCn_cg (D := D) fun i _ => eo _ (by omega)]; exact hv.c h
theorem ldV_print {i v : Int} (hv : ldV D) (i0 : 154 ≤ i) (i1 : i < 184) (v0 : 0 ≤ v) (v1 : v ≤ 9) : ldV (mSet D i v) := by
  have hn := hv.n
  have eo : ∀ j, j ≠ i → mSet D i v j = D j := fun j hj => mSet_o hj
  have e4 : mSet D i v i = v := mSet_at _ _ _
  have hb : ∀ j, zrg (mSet D i v j) := mSet_rg hv.b (by constructor <;> omega)
  generalize mSet D i v = E at eo e4 hb ⊢
  have nse : nS E = nS D := by unfold nS; rw [eo 1 (by omega)]
  refine ⟨?_, hb, ?_, ?_, ?_, ?_, ?_, ?_⟩
  · rw [eo 0 (by omega), eo 1 (by omega), eo 2 (by omega), eo 3 (by omega), eo 4 (by omega), eo 5 (by omega)]; exact hn
  · intro h h0 h1
    have a := hv.h h h0 h1
    unfold mH at a ⊢
    rw [eo _ (by omega), eo _ (by omega)]; exact a
  · intro s s0 s1
    have a := hv.sc s s0 s1
    unfold mS at a ⊢
    rw [eo 1 (by omega), eo 0 (by omega), eo (14 + 8 * s + 0) (by omega), eo (14 + 8 * s + 1) (by omega), eo (14 + 8 * s + 2) (by omega), eo (14 + 8 * s + 3) (by omega), eo (14 + 8 * s + 4) (by omega), eo (14 + 8 * s + 5) (by omega), eo (14 + 8 * s + 6) (by omega), eo (14 + 8 * s + 7) (by omega)]
    exact ⟨a.1, fun z k k0 k1 => by rw [eo _ (by omega)]; exact a.2 z k k0 k1⟩
  · intro f f0 f1
    have a := hv.f f f0 f1
    unfold mF at a ⊢
    rw [eo 2 (by omega), eo (94 + 10 * f + 0) (by omega), eo (94 + 10 * f + 1) (by omega), eo (94 + 10 * f + 2) (by omega), eo (94 + 10 * f + 3) (by omega), eo (94 + 10 * f + 8) (by omega), eo (94 + 10 * f + 9) (by omega)]
    exact ⟨a.1, a.2.1, a.2.2.1, fun k k0 k1 => by rw [eo _ (by omega)]; exact a.2.2.2 k k0 k1⟩
  · intro j j0 j1
    by_cases q : j = i
    · subst q; rw [e4]; exact ⟨v0, v1⟩
    · rw [eo j q]; exact hv.p j j0 j1
  · intro j j0 j1; rw [eo j (by omega)]; exact hv.r j j0 j1
  · intro h; rw [nse, mCn_cg (D := D) fun k hk => eo _ (by have := nS_D hv; omega)]; exact hv.c h
theorem ldV_screen {v a b c : Int} (hv : ldV D) (h4 : D 1 < 10) (v0 : 0 ≤ v) (v1 : v < D 0) (vc : mCn D v (nS D) < 4) (a0 : 1 ≤ a) (a1 : a ≤ 500) (b0 : 1 ≤ b) (b1 : b ≤ 6) (c0 : 0 ≤ c) (c1 : c ≤ 9999) : ldV (mSet (mBook (mSet (mSet (mSet (mSet D (14 + 8 * D 1 + 0) v) (14 + 8 * D 1 + 1) a) (14 + 8 * D 1 + 2) b) (14 + 8 * D 1 + 3) c) (D 1) (-1) (-1) 0 0) 1 (D 1 + 1)) := by
  have hn := hv.n
  have key : ∀ j, mSet (mBook (mSet (mSet (mSet (mSet D (14 + 8 * D 1 + 0) v) (14 + 8 * D 1 + 1) a) (14 + 8 * D 1 + 2) b) (14 + 8 * D 1 + 3) c) (D 1) (-1) (-1) 0 0) 1 (D 1 + 1) j = if j = 1 then D 1 + 1 else if j = 14 + 8 * D 1 + 7 then 0 else if j = 14 + 8 * D 1 + 6 then 0 else if j = 14 + 8 * D 1 + 5 then -1 else if j = 14 + 8 * D 1 + 4 then -1 else if j = 14 + 8 * D 1 + 3 then c else if j = 14 + 8 * D 1 + 2 then b else if j = 14 + 8 * D 1 + 1 then a else if j = 14 + 8 * D 1 + 0 then v else D j := fun j => rfl
  generalize mSet (mBook (mSet (mSet (mSet (mSet D (14 + 8 * D 1 + 0) v) (14 + 8 * D 1 + 1) a) (14 + 8 * D 1 + 2) b) (14 + 8 * D 1 + 3) c) (D 1) (-1) (-1) 0 0) 1 (D 1 + 1) = E at key ⊢
  have e1 : E 1 = D 1 + 1 := by rw [key, if_pos rfl]
  have eo : ∀ j, j ≠ 1 → (j < 14 + 8 * D 1 ∨ 14 + 8 * D 1 + 8 ≤ j) → E j = D j := fun j j1 hj => by
    rw [key, if_neg j1, if_neg (by omega), if_neg (by omega), if_neg (by omega), if_neg (by omega), if_neg (by omega), if_neg (by omega), if_neg (by omega), if_neg (by omega)]
  have k0 : E (14 + 8 * D 1 + 0) = v := by rw [key]; (repeat rw [if_neg (by omega)]); rw [if_pos rfl]
  have k1 : E (14 + 8 * D 1 + 1) = a := by rw [key, if_neg (by omega), if_neg (by omega), if_neg (by omega), if_neg (by omega), if_neg (by omega), if_neg (by omega), if_neg (by omega), if_pos rfl]
  have k2 : E (14 + 8 * D 1 + 2) = b := by rw [key, if_neg (by omega), if_neg (by omega), if_neg (by omega), if_neg (by omega), if_neg (by omega), if_neg (by omega), if_pos rfl]
  have k3 : E (14 + 8 * D 1 + 3) = c := by rw [key, if_neg (by omega), if_neg (by omega), if_neg (by omega), if_neg (by omega), if_neg (by omega), if_pos rfl]
  have k4 : E (14 + 8 * D 1 + 4) = -1 := by rw [key, if_neg (by omega), if_neg (by omega), if_neg (by omega), if_neg (by omega), if_pos rfl]
  have k5 : E (14 + 8 * D 1 + 5) = -1 := by rw [key, if_neg (by omega), if_neg (by omega), if_neg (by omega), if_pos rfl]
  have k6 : E (14 + 8 * D 1 + 6) = 0 := by rw [key, if_neg (by omega), if_neg (by omega), if_pos rfl]
  have k7 : E (14 + 8 * D 1 + 7) = 0 := by rw [key, if_neg (by omega), if_pos rfl]
  have hnS := nS_D hv
  have nse : nS E = nS D + 1 := by unfold nS; rw [e1]; omega
  refine ⟨?_, ?_, ?_, ?_, ?_, ?_, ?_, ?_⟩
  · rw [eo 0 (by decide) (by omega), e1, eo 2 (by decide) (by omega), eo 3 (by decide) (by omega), eo 4 (by decide) (by omega), eo 5 (by decide) (by omega)]; omega
  · intro j
    rw [key]
    have := hv.b j
    split
    · constructor <;> omega
    · split
      · decide
      · split
        · decide
        · split
          · decide
          · split
            · decide
            · split
              · constructor <;> omega
              · split
                · constructor <;> omega
                · split
                  · constructor <;> omega
                  · split
                    · constructor <;> omega
                    · exact this
  · intro h h0 h1
    have a := hv.h h h0 h1
    unfold mH at a ⊢
    rw [eo _ (by omega) (by omega), eo _ (by omega) (by omega)]; exact a
  · intro s s0 s1
    have q := hv.sc s s0 s1
    unfold mS at q ⊢
    rw [e1, eo 0 (by decide) (by omega)]
    refine ⟨fun z => ?_, fun z k q0 q1 => ?_⟩
    · by_cases w : s = D 1
      · rw [w, k0, k1, k2, k3, k4, k5, k6, k7]; omega
      · rw [eo _ (by omega) (by omega), eo _ (by omega) (by omega), eo _ (by omega) (by omega), eo _ (by omega) (by omega), eo _ (by omega) (by omega), eo _ (by omega) (by omega), eo _ (by omega) (by omega), eo _ (by omega) (by omega)]
        exact q.1 (by omega)
    · rw [eo _ (by omega) (by omega)]; exact q.2 (by omega) k q0 q1
  · intro f f0 f1
    have q := hv.f f f0 f1
    unfold mF at q ⊢
    rw [eo 2 (by decide) (by omega), eo (94 + 10 * f + 0) (by omega) (by omega), eo (94 + 10 * f + 1) (by omega) (by omega), eo (94 + 10 * f + 2) (by omega) (by omega), eo (94 + 10 * f + 3) (by omega) (by omega), eo (94 + 10 * f + 8) (by omega) (by omega), eo (94 + 10 * f + 9) (by omega) (by omega)]
    exact ⟨q.1, q.2.1, q.2.2.1, fun k j0 j1 => by rw [eo _ (by omega) (by omega)]; exact q.2.2.2 k j0 j1⟩
  · intro j j0 j1; rw [eo j (by omega) (by omega)]; exact hv.p j j0 j1
  · intro j j0 j1; rw [eo j (by omega) (by omega)]; exact hv.r j j0 j1
  · intro h
    have e2 : mCn E h (nS D + 1) = mCn E h (nS D) + zb (mS E (nS D) 0 = h) := rfl
    have e3 : mS E (nS D) 0 = v := by unfold mS; rw [hnS]; exact k0
    have e4 : mCn E h (nS D) = mCn D h (nS D) := mCn_cg fun i hi => eo _ (by omega) (by omega)
    rw [nse, e2, e3, e4]
    have q := hv.c h
    by_cases w : v = h
    · subst w; have := zb01 (v = v); omega
    · have : zb (v = h) = 0 := if_neg w
      omega
theorem mTm_at {s : tS} {b : Int} {n i : Nat} (h : i < n) : mTm t L D s b n (b + (i : Int)) = tNumV t L 0 90 (tIt t L s i) := by
  induction n with
  | zero => exact absurd h (Nat.not_lt_zero _)
  | succ n ih =>
    show mSet (mTm t L D s b n) (b + (n : Int)) _ (b + (i : Int)) = _
    by_cases e : i = n
    · subst e; exact mSet_at _ _ _
    · rw [mSet_o (by omega)]; exact ih (by omega)
theorem ldV_film {s : tS} {a b g : Int} {n : Nat} (hv : ldV D) (h4 : D 2 < 6) (a0 : 0 ≤ a) (a1 : a ≤ 9999) (b0 : 0 ≤ b) (b1 : b ≤ 100) (g0 : 0 ≤ g) (g1 : g ≤ 9999) (n0 : 1 ≤ n) (n1 : n ≤ 4) (ht : ∀ i, i < n → 0 ≤ tNumV t L 0 90 (tIt t L s i) ∧ tNumV t L 0 90 (tIt t L s i) ≤ 90) : ldV (mSet (mSet (mSet (mTm t L (mSet (mSet (mSet D (94 + 10 * D 2 + 0) a) (94 + 10 * D 2 + 1) b) (94 + 10 * D 2 + 2) g) s (94 + 10 * D 2 + 4) n) (94 + 10 * D 2 + 3) (n : Int)) (94 + 10 * D 2 + 8) (-1)) 2 (D 2 + 1)) := by
  have hn := hv.n
  have key : ∀ j, mSet (mSet (mSet (mTm t L (mSet (mSet (mSet D (94 + 10 * D 2 + 0) a) (94 + 10 * D 2 + 1) b) (94 + 10 * D 2 + 2) g) s (94 + 10 * D 2 + 4) n) (94 + 10 * D 2 + 3) (n : Int)) (94 + 10 * D 2 + 8) (-1)) 2 (D 2 + 1) j = if j = 2 then D 2 + 1 else if j = 94 + 10 * D 2 + 8 then -1 else if j = 94 + 10 * D 2 + 3 then (n : Int) else mTm t L (mSet (mSet (mSet D (94 + 10 * D 2 + 0) a) (94 + 10 * D 2 + 1) b) (94 + 10 * D 2 + 2) g) s (94 + 10 * D 2 + 4) n j := fun j => rfl
  have keyo : ∀ j, (j < 94 + 10 * D 2 + 4 ∨ 94 + 10 * D 2 + 4 + n ≤ j) → mTm t L (mSet (mSet (mSet D (94 + 10 * D 2 + 0) a) (94 + 10 * D 2 + 1) b) (94 + 10 * D 2 + 2) g) s (94 + 10 * D 2 + 4) n j = if j = 94 + 10 * D 2 + 2 then g else if j = 94 + 10 * D 2 + 1 then b else if j = 94 + 10 * D 2 + 0 then a else D j := fun j hj => mTm_o hj
  have keyi : ∀ i : Nat, i < n → mTm t L (mSet (mSet (mSet D (94 + 10 * D 2 + 0) a) (94 + 10 * D 2 + 1) b) (94 + 10 * D 2 + 2) g) s (94 + 10 * D 2 + 4) n (94 + 10 * D 2 + 4 + (i : Int)) = tNumV t L 0 90 (tIt t L s i) := fun i hi => mTm_at hi
  generalize mTm t L (mSet (mSet (mSet D (94 + 10 * D 2 + 0) a) (94 + 10 * D 2 + 1) b) (94 + 10 * D 2 + 2) g) s (94 + 10 * D 2 + 4) n = T at key keyo keyi ⊢
  generalize mSet (mSet (mSet T (94 + 10 * D 2 + 3) (n : Int)) (94 + 10 * D 2 + 8) (-1)) 2 (D 2 + 1) = E at key ⊢
  have e2 : E 2 = D 2 + 1 := by rw [key, if_pos rfl]
  have eo : ∀ j, j ≠ 2 → (j < 94 + 10 * D 2 ∨ 94 + 10 * D 2 + 9 ≤ j) → E j = D j := fun j j1 hj => by
    rw [key, if_neg j1, if_neg (by omega), if_neg (by omega), keyo j (by omega), if_neg (by omega), if_neg (by omega), if_neg (by omega)]
  have k0 : E (94 + 10 * D 2 + 0) = a := by rw [key, if_neg (by omega), if_neg (by omega), if_neg (by omega), keyo _ (by omega), if_neg (by omega), if_neg (by omega), if_pos rfl]
  have k1 : E (94 + 10 * D 2 + 1) = b := by rw [key, if_neg (by omega), if_neg (by omega), if_neg (by omega), keyo _ (by omega), if_neg (by omega), if_pos rfl]
  have k2 : E (94 + 10 * D 2 + 2) = g := by rw [key, if_neg (by omega), if_neg (by omega), if_neg (by omega), keyo _ (by omega), if_pos rfl]
  have k3 : E (94 + 10 * D 2 + 3) = (n : Int) := by rw [key, if_neg (by omega), if_neg (by omega), if_pos rfl]
  have k8 : E (94 + 10 * D 2 + 8) = -1 := by rw [key, if_neg (by omega), if_pos rfl]
  have kt : ∀ k : Int, 0 ≤ k → k < 4 → 0 ≤ E (94 + 10 * D 2 + (4 + k)) ∧ E (94 + 10 * D 2 + (4 + k)) ≤ 90 := fun k q0 q1 => by
    rw [key, if_neg (by omega), if_neg (by omega), if_neg (by omega)]
    by_cases w : k < n
    · have z := keyi k.toNat (by omega)
      rw [show 94 + 10 * D 2 + 4 + ((k.toNat : Nat) : Int) = 94 + 10 * D 2 + (4 + k) by omega] at z
      rw [z]
      exact ht _ (by omega)
    · rw [keyo _ (by omega), if_neg (by omega), if_neg (by omega), if_neg (by omega)]
      exact (hv.f (D 2) (by omega) (by omega)).2.2.2 k q0 q1
  have e1 := eo 1 (by decide) (by omega)
  have nse : nS E = nS D := by unfold nS; rw [e1]
  have hnS := nS_D hv
  refine ⟨?_, ?_, ?_, ?_, ?_, ?_, ?_, ?_⟩
  · rw [eo 0 (by decide) (by omega), e1, e2, eo 3 (by decide) (by omega), eo 4 (by decide) (by omega), eo 5 (by decide) (by omega)]; omega
  · intro j
    by_cases c : j ≠ 2 ∧ (j < 94 + 10 * D 2 ∨ 94 + 10 * D 2 + 9 ≤ j)
    · rw [eo j c.1 c.2]; exact hv.b j
    · by_cases c2 : j = 2
      · rw [c2, e2]; constructor <;> omega
      · have c3 : j = 94 + 10 * D 2 + 0 ∨ j = 94 + 10 * D 2 + 1 ∨ j = 94 + 10 * D 2 + 2 ∨ j = 94 + 10 * D 2 + 3 ∨ j = 94 + 10 * D 2 + 8 ∨ (∃ k : Int, 0 ≤ k ∧ k < 4 ∧ j = 94 + 10 * D 2 + (4 + k)) := by
          by_cases c4 : j < 94 + 10 * D 2 + 4
          · omega
          · by_cases c5 : j = 94 + 10 * D 2 + 8
            · omega
            · exact Or.inr (Or.inr (Or.inr (Or.inr (Or.inr ⟨j - (94 + 10 * D 2 + 4), by omega, by omega, by omega⟩))))
        rcases c3 with c3 | c3 | c3 | c3 | c3 | ⟨k, q0, q1, c3⟩
        · rw [c3, k0]; constructor <;> omega
        · rw [c3, k1]; constructor <;> omega
        · rw [c3, k2]; constructor <;> omega
        · rw [c3, k3]; constructor <;> omega
        · rw [c3, k8]; decide
        · rw [c3]; have := kt k q0 q1; constructor <;> omega
  · intro h h0 h1
    have q := hv.h h h0 h1
    unfold mH at q ⊢
    rw [eo _ (by omega) (by omega), eo _ (by omega) (by omega)]; exact q
  · intro s s0 s1
    have q := hv.sc s s0 s1
    unfold mS at q ⊢
    rw [e1, eo 0 (by decide) (by omega), eo (14 + 8 * s + 0) (by omega) (by omega), eo (14 + 8 * s + 1) (by omega) (by omega), eo (14 + 8 * s + 2) (by omega) (by omega), eo (14 + 8 * s + 3) (by omega) (by omega), eo (14 + 8 * s + 4) (by omega) (by omega), eo (14 + 8 * s + 5) (by omega) (by omega), eo (14 + 8 * s + 6) (by omega) (by omega), eo (14 + 8 * s + 7) (by omega) (by omega)]
    exact ⟨q.1, fun z k q0 q1 => by rw [eo _ (by omega) (by omega)]; exact q.2 z k q0 q1⟩
  · intro f f0 f1
    have q := hv.f f f0 f1
    by_cases w : f = D 2
    · subst w
      unfold mF at q ⊢
      rw [e2, k0, k1, k2, k3, k8, eo (94 + 10 * D 2 + 9) (by omega) (by omega)]
      exact ⟨fun _ => by omega, fun z => absurd (by omega) z, q.2.2.1, kt⟩
    · unfold mF at q ⊢
      rw [e2, eo (94 + 10 * f + 0) (by omega) (by omega), eo (94 + 10 * f + 1) (by omega) (by omega), eo (94 + 10 * f + 2) (by omega) (by omega), eo (94 + 10 * f + 3) (by omega) (by omega), eo (94 + 10 * f + 8) (by omega) (by omega), eo (94 + 10 * f + 9) (by omega) (by omega)]
      exact ⟨fun z => q.1 (by omega), fun z => q.2.1 (by omega), q.2.2.1, fun k j0 j1 => by rw [eo _ (by omega) (by omega)]; exact q.2.2.2 k j0 j1⟩
  · intro j j0 j1; rw [eo j (by omega) (by omega)]; exact hv.p j j0 j1
  · intro j j0 j1; rw [eo j (by omega) (by omega)]; exact hv.r j j0 j1
  · intro h; rw [nse, mCn_cg (D := D) fun i hi => eo _ (by omega) (by omega)]; exact hv.c h
theorem ldB_V {s : tS} (hv : ldV D) (e : (ldB t L (s, D)).1.2 = 0) : ldV (ldB t L (s, D)).2 := by
  have hn := hv.n
  unfold ldB at e ⊢
  by_cases c1 : tWd t L (zsbi 1) s
  · rw [if_pos c1] at e ⊢
    by_cases k : D 0 < 4
    · have q : ldHouse t L (s, D) = (tNumS t L 1 100 (tNumS t L 1 99 (tAdv t L s)), mSet (mSet (mSet D (6 + 2 * D 0 + 0) (tNumV t L 1 99 (tAdv t L s))) (6 + 2 * D 0 + 1) (tNumV t L 1 100 (tNumS t L 1 99 (tAdv t L s)))) 0 (D 0 + 1)) := if_pos k
      rw [q] at e ⊢
      have a := tNumS_2 e
      have b := tNumS_2 a.1
      exact ldV_house hv k b.2.1 b.2.2.1 a.2.1 a.2.2.1
    · have q : ldHouse t L (s, D) = (tFail 3 s, D) := if_neg k
      rw [q] at e; exact absurd e (tFail_2 (by decide))
  · rw [if_neg c1] at e ⊢
    by_cases c2 : tWd t L (zsbi 2) s
    · rw [if_pos c2] at e ⊢
      by_cases k : D 1 < 10
      · have q : ldScreen t L (s, D) = (tNumS t L 0 9999 (tNumS t L 1 6 (tNumS t L 1 500 (tHs t L D (tAdv t L s)))), mSet (mBook (mSet (mSet (mSet (mSet D (14 + 8 * D 1 + 0) (tv t L (tAdv t L s).1)) (14 + 8 * D 1 + 1) (tNumV t L 1 500 (tHs t L D (tAdv t L s)))) (14 + 8 * D 1 + 2) (tNumV t L 1 6 (tNumS t L 1 500 (tHs t L D (tAdv t L s))))) (14 + 8 * D 1 + 3) (tNumV t L 0 9999 (tNumS t L 1 6 (tNumS t L 1 500 (tHs t L D (tAdv t L s)))))) (D 1) (-1) (-1) 0 0) 1 (D 1 + 1)) := if_pos k
        rw [q] at e ⊢
        have a := tNumS_2 e
        have b := tNumS_2 a.1
        have c := tNumS_2 b.1
        have d := tHs_2 c.1
        exact ldV_screen hv k d.2.2.1 (by omega) d.2.2.2.2 c.2.1 c.2.2.1 b.2.1 b.2.2.1 a.2.1 a.2.2.1
      · have q : ldScreen t L (s, D) = (tFail 3 s, D) := if_neg k
        rw [q] at e; exact absurd e (tFail_2 (by decide))
    · rw [if_neg c2] at e ⊢
      by_cases c3 : tWd t L (zsbi 3) s
      · rw [if_pos c3] at e ⊢
        by_cases k : D 2 < 6
        · have q : ldFilm t L (s, D) = (tIt t L (tNumS t L 0 9999 (tNumS t L 0 100 (tNumS t L 0 9999 (tAdv t L s)))) (tmC t L (tNumS t L 0 9999 (tNumS t L 0 100 (tNumS t L 0 9999 (tAdv t L s))))), mSet (mSet (mSet (mTm t L (mSet (mSet (mSet D (94 + 10 * D 2 + 0) (tNumV t L 0 9999 (tAdv t L s))) (94 + 10 * D 2 + 1) (tNumV t L 0 100 (tNumS t L 0 9999 (tAdv t L s)))) (94 + 10 * D 2 + 2) (tNumV t L 0 9999 (tNumS t L 0 100 (tNumS t L 0 9999 (tAdv t L s))))) (tNumS t L 0 9999 (tNumS t L 0 100 (tNumS t L 0 9999 (tAdv t L s)))) (94 + 10 * D 2 + 4) (tmC t L (tNumS t L 0 9999 (tNumS t L 0 100 (tNumS t L 0 9999 (tAdv t L s)))))) (94 + 10 * D 2 + 3) (tmC t L (tNumS t L 0 9999 (tNumS t L 0 100 (tNumS t L 0 9999 (tAdv t L s)))) : Int)) (94 + 10 * D 2 + 8) (-1)) 2 (D 2 + 1)) := if_pos k
          rw [q] at e ⊢
          have a := tIt_2 e
          have b := tNumS_2 a.1
          have c := tNumS_2 b.1
          have d := tNumS_2 c.1
          have m := tmC_b (t := t) (L := L) (s := tNumS t L 0 9999 (tNumS t L 0 100 (tNumS t L 0 9999 (tAdv t L s))))
          exact ldV_film hv k d.2.1 d.2.2.1 c.2.1 c.2.2.1 b.2.1 b.2.2.1 m.1 m.2 a.2
        · rw [ldFilm_n k] at e; exact absurd e (tFail_2 (by decide))
      · rw [if_neg c3] at e ⊢
        by_cases c4 : tWd t L (zsbi 4) s
        · rw [if_pos c4] at e ⊢
          unfold ldPrints ldPr at e ⊢
          dsimp only at e ⊢
          have a := tNumS_2 e
          by_cases w : tWd t L (zsbi 5) (tNumS t L 0 (D 2 - 1) (tAdv t L s))
          · rw [if_pos w] at a
            rw [if_pos w, if_pos w]
            have b := tNumS_2 (tAdv_20 a.1)
            exact ldV_print hv (by omega) (by omega) a.2.1 a.2.2.1
          · rw [if_neg w] at a
            rw [if_neg w, if_neg w]
            have b := tNumS_2 a.1
            have c := tNumS_2 b.1
            exact ldV_print hv (by omega) (by omega) a.2.1 a.2.2.1
        · rw [if_neg c4] at e ⊢
          have e' : (tNumS t L 0 999 (tWdS t L (zsbi 6) s)).2 = 0 := e
          have a := tNumS_2 e'
          exact ldV_fee hv a.2.1 a.2.2.1
theorem ldC_V {s : tS} (hv : ldV D) (e : (ldC t L (s, D)).1.2 = 0) : ldV (ldC t L (s, D)).2 := by
  have e' : (tSgS t L 59 (ldB t L (s, D)).1).2 = 0 := e
  exact ldB_V hv (tSgS_2 e')
end ZLF

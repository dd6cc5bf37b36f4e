/-! the class: a draft's cells -/
section ZCD
variable {t : Int → Int} {L : Nat} {D : Int → Int} {c : Nat → Int → Int}
def zup (c : Nat → Int → Int) (k : Nat) (j v : Int) : Nat → Int → Int := fun k' j' => if k' = k ∧ j' = j then v else c k' j'
theorem zup_n {k k' : Nat} {j j' v : Int} (h : k' ≠ k) : zup c k j v k' j' = c k' j' := if_neg fun q => h q.1
theorem zup_j {k k' : Nat} {j j' v : Int} (h : j' ≠ j) : zup c k j v k' j' = c k' j' := if_neg fun q => h q.2
theorem zup_e {k : Nat} {j v : Int} : zup c k j v k j = v := if_pos ⟨rfl, rfl⟩
/-- the draft's cells say what the numbers say -/
def cDc (D : Int → Int) (c : Nat → Int → Int) : Prop :=
  (c 2100 0 = D 0 ∧ c 2100 3 = D 1 ∧ c 2100 7 = D 2) ∧
  (∀ h, 0 ≤ h → h < D 0 → c 2101 h = mH D h 0 ∧ c 2102 h = mCn D h (nS D) ∧ c 2203 h = mH D h 1) ∧
  (∀ s, 0 ≤ s → s < D 1 → c 2104 s = mS D s 0 ∧ c 2105 s = mS D s 1 ∧ c 2106 s = mS D s 2 ∧ c 2204 s = mS D s 3) ∧
  (∀ f, 0 ≤ f → f < D 2 → c 2108 f = mF D f 0 ∧ c 2109 f = mF D f 1 ∧ c 2110 f = mF D f 2 ∧ c 2111 f = mF D f 3 ∧ c 2211 f = mF D f 0 ∧ ∀ k, 0 ≤ k → k < mF D f 3 → c 2112 (f * 4 + k) = mF D f (4 + k)) ∧
  (c 2200 0 = 0 ∧ c 2200 1 = 0 ∧ c 2200 2 = D 4) ∧
  (∀ j, 0 ≤ j → j < 30 → c 2205 j = D (154 + j)) ∧
  (∀ j, 0 ≤ j → j < 10 → c 2206 j = -1 ∧ c 2207 j = -1 ∧ c 2208 j = 0 ∧ c 2209 j = 0) ∧
  (∀ j, 0 ≤ j → j < 6 → c 2210 j = -1 ∧ c 2212 j = 0) ∧ (∀ j, 0 ≤ j → j < 24 → c 2213 j = 0) ∧ ∀ j, 0 ≤ j → j < 4 → c 2214 j = 0
theorem mCn_0 {h : Int} {n : Nat} (e : ∀ i : Nat, i < n → mS D i 0 ≠ h) : mCn D h n = 0 := by
  induction n with
  | zero => rfl
  | succ n ih =>
    have a : mCn D h (n + 1) = mCn D h n + zb (mS D n 0 = h) := rfl
    have b : zb (mS D n 0 = h) = 0 := if_neg (e n (by omega))
    rw [a, ih (fun i hi => e i (by omega)), b]; rfl
theorem cD_house {p q : Int} (hd : cDc D c) (hv : ldV D) (h4 : D 0 < 4) : cDc (mSet (mSet (mSet D (6 + 2 * D 0 + 0) p) (6 + 2 * D 0 + 1) q) 0 (D 0 + 1)) (zup (zup (zup (zup c 2101 (D 0) p) 2102 (D 0) 0) 2203 (D 0) q) 2100 0 (D 0 + 1)) := by
  have hn := hv.n
  have hnS := nS_D hv
  have key : ∀ j, mSet (mSet (mSet D (6 + 2 * D 0 + 0) p) (6 + 2 * D 0 + 1) q) 0 (D 0 + 1) j = if j = 0 then D 0 + 1 else if j = 6 + 2 * D 0 + 1 then q else if j = 6 + 2 * D 0 + 0 then p else D j := fun j => rfl
  generalize mSet (mSet (mSet D (6 + 2 * D 0 + 0) p) (6 + 2 * D 0 + 1) q) 0 (D 0 + 1) = E at key ⊢
  have e0 : E 0 = D 0 + 1 := by rw [key, if_pos rfl]
  have eo : ∀ j, j ≠ 0 → (j < 6 + 2 * D 0 ∨ 6 + 2 * D 0 + 2 ≤ j) → E j = D j := fun j j0 hj => by rw [key, if_neg j0, if_neg (by omega), if_neg (by omega)]
  have ep : E (6 + 2 * D 0 + 0) = p := by rw [key, if_neg (by omega), if_neg (by omega), if_pos rfl]
  have eq : E (6 + 2 * D 0 + 1) = q := by rw [key, if_neg (by omega), if_pos rfl]
  have nse : nS E = nS D := by unfold nS; rw [eo 1 (by decide) (by omega)]
  have cn : ∀ x, mCn E x (nS E) = mCn D x (nS D) := fun x => by rw [nse]; exact mCn_cg fun i _ => eo _ (by omega) (by omega)
  obtain ⟨h1, h2, h3, h5, h6, h7, h8, h9, h10, h11⟩ := hd
  refine ⟨⟨by rw [e0]; exact zup_e, ?_, ?_⟩, fun x x0 x1 => ?_, fun s s0 s1 => ?_, fun f f0 f1 => ?_, ⟨?_, ?_, ?_⟩, fun j j0 j1 => ?_, fun j j0 j1 => ?_, fun j j0 j1 => ?_, fun j j0 j1 => ?_, fun j j0 j1 => ?_⟩
  · rw [zup_j (by decide), zup_n (by decide), zup_n (by decide), zup_n (by decide), eo 1 (by decide) (by omega)]; exact h1.2.1
  · rw [zup_j (by decide), zup_n (by decide), zup_n (by decide), zup_n (by decide), eo 2 (by decide) (by omega)]; exact h1.2.2
  · rw [cn]
    by_cases z : x = D 0
    · subst z
      refine ⟨?_, ?_, ?_⟩
      · rw [zup_n (by decide), zup_n (by decide), zup_n (by decide), zup_e]; exact ep.symm
      · rw [zup_n (by decide), zup_n (by decide), zup_e]
        refine (mCn_0 fun i hi => ?_).symm
        have := (hv.sc i (by omega) (by omega)).1 (by omega)
        omega
      · rw [zup_n (by decide), zup_e]; exact eq.symm
    · have a := h2 x x0 (by omega)
      unfold mH at a ⊢
      rw [eo (6 + 2 * x + 0) (by omega) (by omega), eo (6 + 2 * x + 1) (by omega) (by omega)]
      refine ⟨?_, ?_, ?_⟩
      · rw [zup_n (by decide), zup_n (by decide), zup_n (by decide), zup_j z]; exact a.1
      · rw [zup_n (by decide), zup_n (by decide), zup_j z, zup_n (by decide)]; exact a.2.1
      · rw [zup_n (by decide), zup_j z, zup_n (by decide), zup_n (by decide)]; exact a.2.2
  · rw [eo 1 (by decide) (by omega)] at s1
    have a := h3 s s0 s1
    unfold mS at a ⊢
    simp (disch := decide) only [zup_n]
    rw [eo (14 + 8 * s + 0) (by omega) (by omega), eo (14 + 8 * s + 1) (by omega) (by omega), eo (14 + 8 * s + 2) (by omega) (by omega), eo (14 + 8 * s + 3) (by omega) (by omega)]
    exact a
  · rw [eo 2 (by decide) (by omega)] at f1
    have a := h5 f f0 f1
    unfold mF at a ⊢
    simp (disch := decide) only [zup_n]
    rw [eo (94 + 10 * f + 0) (by omega) (by omega), eo (94 + 10 * f + 1) (by omega) (by omega), eo (94 + 10 * f + 2) (by omega) (by omega), eo (94 + 10 * f + 3) (by omega) (by omega)]
    exact ⟨a.1, a.2.1, a.2.2.1, a.2.2.2.1, a.2.2.2.2.1, fun k k0 k1 => by rw [eo _ (by omega) (by omega)]; exact a.2.2.2.2.2 k k0 k1⟩
  · simp (disch := decide) only [zup_n]; exact h6.1
  · simp (disch := decide) only [zup_n]; exact h6.2.1
  · simp (disch := decide) only [zup_n]; rw [eo 4 (by decide) (by omega)]; exact h6.2.2
  · simp (disch := decide) only [zup_n]; rw [eo _ (by omega) (by omega)]; exact h7 j j0 j1
  · simp (disch := decide) only [zup_n]; exact h8 j j0 j1
  · simp (disch := decide) only [zup_n]; exact h9 j j0 j1
  · simp (disch := decide) only [zup_n]; exact h10 j j0 j1
  · simp (disch := decide) only [zup_n]; exact h11 j j0 j1
theorem cD_fee {v : Int} (hd : cDc D c) (hv : ldV D) : cDc (mSet D 4 v) (zup c 2200 2 v) := by
  have hn := hv.n
  have eo : ∀ j, j ≠ 4 → mSet D 4 v j = D j := fun j hj => mSet_o hj
  have e4 : mSet D 4 v 4 = v := mSet_at _ _ _
  generalize mSet D 4 v = E at eo e4 ⊢
  have nse : nS E = nS D := by unfold nS; rw [eo 1 (by decide)]
  have cn : ∀ x, mCn E x (nS E) = mCn D x (nS D) := fun x => by rw [nse]; exact mCn_cg fun i _ => eo _ (by omega)
  obtain ⟨h1, h2, h3, h5, h6, h7, h8, h9, h10, h11⟩ := hd
  refine ⟨?_, fun x x0 x1 => ?_, fun s s0 s1 => ?_, fun f f0 f1 => ?_, ⟨?_, ?_, ?_⟩, fun j j0 j1 => ?_, fun j j0 j1 => ?_, fun j j0 j1 => ?_, fun j j0 j1 => ?_, fun j j0 j1 => ?_⟩
  · simp (disch := decide) only [zup_n]; rw [eo 0 (by decide), eo 1 (by decide), eo 2 (by decide)]; exact h1
  · rw [eo 0 (by decide)] at x1
    simp (disch := decide) only [zup_n]; rw [cn]
    have a := h2 x x0 x1
    unfold mH at a ⊢
    rw [eo _ (by omega), eo _ (by omega)]; exact a
  · rw [eo 1 (by decide)] at s1
    have a := h3 s s0 s1
    unfold mS at a ⊢
    simp (disch := decide) only [zup_n]
    rw [eo (14 + 8 * s + 0) (by omega), eo (14 + 8 * s + 1) (by omega), eo (14 + 8 * s + 2) (by omega), eo (14 + 8 * s + 3) (by omega)]
    exact a
  · rw [eo 2 (by decide)] at f1
    have a := h5 f f0 f1
    unfold mF at a ⊢
    simp (disch := decide) only [zup_n]
    rw [eo (94 + 10 * f + 0) (by omega), eo (94 + 10 * f + 1) (by omega), eo (94 + 10 * f + 2) (by omega), eo (94 + 10 * f + 3) (by omega)]
    exact ⟨a.1, a.2.1, a.2.2.1, a.2.2.2.1, a.2.2.2.2.1, fun k k0 k1 => by rw [eo _ (by omega)]; exact a.2.2.2.2.2 k k0 k1⟩
  · rw [zup_j (by decide)]; exact h6.1
  · rw [zup_j (by decide)]; exact h6.2.1
  · rw [e4]; exact zup_e
  · simp (disch := decide) only [zup_n]; rw [eo _ (by omega)]; exact h7 j j0 j1
  · simp (disch := decide) only [zup_n]; exact h8 j j0 j1
  · simp (disch := decide) only [zup_n]; exact h9 j j0 j1
  · simp (disch := decide) only [zup_n]; exact h10 j j0 j1
  · simp (disch := decide) only [zup_n]; exact h11 j j0 j1
theorem cD_print {i v : Int} (hd : cDc D c) (hv : ldV D) (i0 : 0 ≤ i) (i1 : i < 30) : cDc (mSet D (154 + i) v) (zup c 2205 i v) := by
  have hn := hv.n
  have hnS := nS_D hv
  have eo : ∀ j, j ≠ 154 + i → mSet D (154 + i) v j = D j := fun j hj => mSet_o hj
  have e4 : mSet D (154 + i) v (154 + i) = v := mSet_at _ _ _
  generalize mSet D (154 + i) v = E at eo e4 ⊢
  have nse : nS E = nS D := by unfold nS; rw [eo 1 (by omega)]
  have cn : ∀ x, mCn E x (nS E) = mCn D x (nS D) := fun x => by rw [nse]; exact mCn_cg fun k hk => eo _ (by omega)
  obtain ⟨h1, h2, h3, h5, h6, h7, h8, h9, h10, h11⟩ := hd
  refine ⟨?_, fun x x0 x1 => ?_, fun s s0 s1 => ?_, fun f f0 f1 => ?_, ?_, fun j j0 j1 => ?_, fun j j0 j1 => ?_, fun j j0 j1 => ?_, fun j j0 j1 => ?_, fun j j0 j1 => ?_⟩
  · simp (disch := decide) only [zup_n]; rw [eo 0 (by omega), eo 1 (by omega), eo 2 (by omega)]; exact h1
  · rw [eo 0 (by omega)] at x1
    simp (disch := decide) only [zup_n]; rw [cn]
    have a := h2 x x0 x1
    unfold mH at a ⊢
    rw [eo _ (by omega), eo _ (by omega)]; exact a
  · rw [eo 1 (by omega)] at s1
    have a := h3 s s0 s1
    unfold mS at a ⊢
    simp (disch := decide) only [zup_n]
    rw [eo (14 + 8 * s + 0) (by omega), eo (14 + 8 * s + 1) (by omega), eo (14 + 8 * s + 2) (by omega), eo (14 + 8 * s + 3) (by omega)]
    exact a
  · rw [eo 2 (by omega)] at f1
    have a := h5 f f0 f1
    have b := (hv.f f f0 (by omega)).1 f1
    unfold mF at a b ⊢
    simp (disch := decide) only [zup_n]
    rw [eo (94 + 10 * f + 0) (by omega), eo (94 + 10 * f + 1) (by omega), eo (94 + 10 * f + 2) (by omega), eo (94 + 10 * f + 3) (by omega)]
    exact ⟨a.1, a.2.1, a.2.2.1, a.2.2.2.1, a.2.2.2.2.1, fun k k0 k1 => by rw [eo _ (by omega)]; exact a.2.2.2.2.2 k k0 k1⟩
  · simp (disch := decide) only [zup_n]; rw [eo 4 (by omega)]; exact h6
  · by_cases z : j = i
    · subst z; rw [zup_e, e4]
    · rw [zup_j z, eo _ (by omega)]; exact h7 j j0 j1
  · simp (disch := decide) only [zup_n]; exact h8 j j0 j1
  · simp (disch := decide) only [zup_n]; exact h9 j j0 j1
  · simp (disch := decide) only [zup_n]; exact h10 j j0 j1
  · simp (disch := decide) only [zup_n]; exact h11 j j0 j1
theorem cD_screen {v a b r : Int} (hd : cDc D c) (hv : ldV D) (h4 : D 1 < 10) (v0 : 0 ≤ v) (v1 : v < D 0) : cDc (mSet (mBook (mSet (mSet (mSet (mSet D (14 + 8 * D 1 + 0) v) (14 + 8 * D 1 + 1) a) (14 + 8 * D 1 + 2) b) (14 + 8 * D 1 + 3) r) (D 1) (-1) (-1) 0 0) 1 (D 1 + 1)) (zup (zup (zup (zup (zup (zup c 2104 (D 1) v) 2105 (D 1) a) 2106 (D 1) b) 2204 (D 1) r) 2102 v (c 2102 v + 1)) 2100 3 (D 1 + 1)) := by
  have hn := hv.n
  have hnS := nS_D hv
  have key : ∀ j, mSet (mBook (mSet (mSet (mSet (mSet D (14 + 8 * D 1 + 0) v) (14 + 8 * D 1 + 1) a) (14 + 8 * D 1 + 2) b) (14 + 8 * D 1 + 3) r) (D 1) (-1) (-1) 0 0) 1 (D 1 + 1) j = if j = 1 then D 1 + 1 else if j = 14 + 8 * D 1 + 7 then 0 else if j = 14 + 8 * D 1 + 6 then 0 else if j = 14 + 8 * D 1 + 5 then -1 else if j = 14 + 8 * D 1 + 4 then -1 else if j = 14 + 8 * D 1 + 3 then r else if j = 14 + 8 * D 1 + 2 then b else if j = 14 + 8 * D 1 + 1 then a else if j = 14 + 8 * D 1 + 0 then v else D j := fun j => rfl
  generalize mSet (mBook (mSet (mSet (mSet (mSet D (14 + 8 * D 1 + 0) v) (14 + 8 * D 1 + 1) a) (14 + 8 * D 1 + 2) b) (14 + 8 * D 1 + 3) r) (D 1) (-1) (-1) 0 0) 1 (D 1 + 1) = E at key ⊢
  have e1 : E 1 = D 1 + 1 := by rw [key, if_pos rfl]
  have eo : ∀ j, j ≠ 1 → (j < 14 + 8 * D 1 ∨ 14 + 8 * D 1 + 8 ≤ j) → E j = D j := fun j j1 hj => by
    rw [key, if_neg j1, if_neg (by omega), if_neg (by omega), if_neg (by omega), if_neg (by omega), if_neg (by omega), if_neg (by omega), if_neg (by omega), if_neg (by omega)]
  have k0 : E (14 + 8 * D 1 + 0) = v := by rw [key]; (repeat rw [if_neg (by omega)]); rw [if_pos rfl]
  have k1 : E (14 + 8 * D 1 + 1) = a := by rw [key, if_neg (by omega), if_neg (by omega), if_neg (by omega), if_neg (by omega), if_neg (by omega), if_neg (by omega), if_neg (by omega), if_pos rfl]
  have k2 : E (14 + 8 * D 1 + 2) = b := by rw [key, if_neg (by omega), if_neg (by omega), if_neg (by omega), if_neg (by omega), if_neg (by omega), if_neg (by omega), if_pos rfl]
  have k3 : E (14 + 8 * D 1 + 3) = r := by rw [key, if_neg (by omega), if_neg (by omega), if_neg (by omega), if_neg (by omega), if_neg (by omega), if_pos rfl]
  have nse : nS E = nS D + 1 := by unfold nS; rw [e1]; omega
  have cn : ∀ x, mCn E x (nS E) = mCn D x (nS D) + zb (v = x) := fun x => by
    have q2 : mCn E x (nS D + 1) = mCn E x (nS D) + zb (mS E (nS D) 0 = x) := rfl
    have q3 : mS E (nS D) 0 = v := by unfold mS; rw [hnS]; exact k0
    have q4 : mCn E x (nS D) = mCn D x (nS D) := mCn_cg fun i hi => eo _ (by omega) (by omega)
    rw [nse, q2, q3, q4]
  obtain ⟨h1, h2, h3, h5, h6, h7, h8, h9, h10, h11⟩ := hd
  have hc2 := (h2 v v0 v1).2.1
  refine ⟨⟨?_, by rw [e1]; exact zup_e, ?_⟩, fun x x0 x1 => ?_, fun s s0 s1 => ?_, fun f f0 f1 => ?_, ⟨?_, ?_, ?_⟩, fun j j0 j1 => ?_, fun j j0 j1 => ?_, fun j j0 j1 => ?_, fun j j0 j1 => ?_, fun j j0 j1 => ?_⟩
  · rw [zup_j (by decide)]; simp (disch := decide) only [zup_n]; rw [eo 0 (by decide) (by omega)]; exact h1.1
  · rw [zup_j (by decide)]; simp (disch := decide) only [zup_n]; rw [eo 2 (by decide) (by omega)]; exact h1.2.2
  · rw [eo 0 (by decide) (by omega)] at x1
    have a := h2 x x0 x1
    rw [cn]
    unfold mH at a ⊢
    rw [eo _ (by omega) (by omega), eo _ (by omega) (by omega)]
    refine ⟨by simp (disch := decide) only [zup_n]; exact a.1, ?_, by simp (disch := decide) only [zup_n]; exact a.2.2⟩
    rw [zup_n (by decide)]
    by_cases z : x = v
    · subst z
      rw [zup_e, hc2, show zb (x = x) = 1 from if_pos rfl]
    · rw [zup_j z, show zb (v = x) = 0 from if_neg (fun q => z q.symm)]
      simp (disch := decide) only [zup_n]
      rw [a.2.1]; omega
  · rw [e1] at s1
    by_cases z : s = D 1
    · subst z
      unfold mS
      rw [k0, k1, k2, k3]
      refine ⟨?_, ?_, ?_, ?_⟩
      · rw [zup_n (by decide), zup_n (by decide), zup_n (by decide), zup_n (by decide), zup_n (by decide)]; exact zup_e
      · rw [zup_n (by decide), zup_n (by decide), zup_n (by decide), zup_n (by decide)]; exact zup_e
      · rw [zup_n (by decide), zup_n (by decide), zup_n (by decide)]; exact zup_e
      · rw [zup_n (by decide), zup_n (by decide)]; exact zup_e
    · have a := h3 s s0 (by omega)
      unfold mS at a ⊢
      rw [eo (14 + 8 * s + 0) (by omega) (by omega), eo (14 + 8 * s + 1) (by omega) (by omega), eo (14 + 8 * s + 2) (by omega) (by omega), eo (14 + 8 * s + 3) (by omega) (by omega)]
      refine ⟨?_, ?_, ?_, ?_⟩
      · simp (disch := first | decide | exact z) only [zup_n, zup_j]; exact a.1
      · simp (disch := first | decide | exact z) only [zup_n, zup_j]; exact a.2.1
      · simp (disch := first | decide | exact z) only [zup_n, zup_j]; exact a.2.2.1
      · simp (disch := first | decide | exact z) only [zup_n, zup_j]; exact a.2.2.2
  · rw [eo 2 (by decide) (by omega)] at f1
    have a := h5 f f0 f1
    unfold mF at a ⊢
    simp (disch := decide) only [zup_n]
    rw [eo (94 + 10 * f + 0) (by omega) (by omega), eo (94 + 10 * f + 1) (by omega) (by omega), eo (94 + 10 * f + 2) (by omega) (by omega), eo (94 + 10 * f + 3) (by omega) (by omega)]
    exact ⟨a.1, a.2.1, a.2.2.1, a.2.2.2.1, a.2.2.2.2.1, fun k q0 q1 => by rw [eo _ (by omega) (by omega)]; exact a.2.2.2.2.2 k q0 q1⟩
  · simp (disch := decide) only [zup_n]; exact h6.1
  · simp (disch := decide) only [zup_n]; exact h6.2.1
  · simp (disch := decide) only [zup_n]; rw [eo 4 (by decide) (by omega)]; exact h6.2.2
  · simp (disch := decide) only [zup_n]; rw [eo _ (by omega) (by omega)]; exact h7 j j0 j1
  · simp (disch := decide) only [zup_n]; exact h8 j j0 j1
  · simp (disch := decide) only [zup_n]; exact h9 j j0 j1
  · simp (disch := decide) only [zup_n]; exact h10 j j0 j1
  · simp (disch := decide) only [zup_n]; exact h11 j j0 j1
/-- the terms' cells -/
def ctm (t : Int → Int) (L : Nat) (c : Nat → Int → Int) (s : tS) (b : Int) : Nat → Nat → Int → Int
  | 0 => c
  | n + 1 => zup (ctm t L c s b n) 2112 (b + (n : Int)) (tNumV t L 0 90 (tIt t L s n))
theorem ctm_n {s : tS} {b : Int} {n k : Nat} {j : Int} (h : k ≠ 2112) : ctm t L c s b n k j = c k j := by
  induction n with
  | zero => rfl
  | succ n ih => exact (zup_n h).trans ih
theorem ctm_j {s : tS} {b : Int} {n k : Nat} {j : Int} (h : j < b ∨ b + n ≤ j) : ctm t L c s b n k j = c k j := by
  induction n with
  | zero => rfl
  | succ n ih => exact (zup_j (by omega)).trans (ih (by omega))
theorem ctm_at {s : tS} {b : Int} {n i : Nat} (h : i < n) : ctm t L c s b n 2112 (b + (i : Int)) = tNumV t L 0 90 (tIt t L s i) := by
  induction n with
  | zero => exact absurd h (Nat.not_lt_zero _)
  | succ n ih =>
    by_cases e : i = n
    · subst e; exact zup_e
    · exact (zup_j (by omega)).trans (ih (by omega))
theorem cD_film {a b g : Int} {s : tS} {n : Nat} (hd : cDc D c) (hv : ldV D) (h4 : D 2 < 6) (n1 : n ≤ 4) : cDc (mSet (mSet (mSet (mTm t L (mSet (mSet (mSet D (94 + 10 * D 2 + 0) a) (94 + 10 * D 2 + 1) b) (94 + 10 * D 2 + 2) g) s (94 + 10 * D 2 + 4) n) (94 + 10 * D 2 + 3) (n : Int)) (94 + 10 * D 2 + 8) (-1)) 2 (D 2 + 1)) (zup (zup (zup (ctm t L (zup (zup (zup c 2108 (D 2) a) 2109 (D 2) b) 2110 (D 2) g) s (D 2 * 4) n) 2111 (D 2) (n : Int)) 2211 (D 2) a) 2100 7 (D 2 + 1)) := by
  have hn := hv.n
  have hnS := nS_D hv
  have key : ∀ j, mSet (mSet (mSet (mTm t L (mSet (mSet (mSet D (94 + 10 * D 2 + 0) a) (94 + 10 * D 2 + 1) b) (94 + 10 * D 2 + 2) g) s (94 + 10 * D 2 + 4) n) (94 + 10 * D 2 + 3) (n : Int)) (94 + 10 * D 2 + 8) (-1)) 2 (D 2 + 1) j = if j = 2 then D 2 + 1 else if j = 94 + 10 * D 2 + 8 then -1 else if j = 94 + 10 * D 2 + 3 then (n : Int) else mTm t L (mSet (mSet (mSet D (94 + 10 * D 2 + 0) a) (94 + 10 * D 2 + 1) b) (94 + 10 * D 2 + 2) g) s (94 + 10 * D 2 + 4) n j := fun j => rfl
  have keyo : ∀ j, (j < 94 + 10 * D 2 + 4 ∨ 94 + 10 * D 2 + 4 + n ≤ j) → mTm t L (mSet (mSet (mSet D (94 + 10 * D 2 + 0) a) (94 + 10 * D 2 + 1) b) (94 + 10 * D 2 + 2) g) s (94 + 10 * D 2 + 4) n j = if j = 94 + 10 * D 2 + 2 then g else if j = 94 + 10 * D 2 + 1 then b else if j = 94 + 10 * D 2 + 0 then a else D j := fun j hj => mTm_o hj
  have keyi : ∀ i : Nat, i < n → mTm t L (mSet (mSet (mSet D (94 + 10 * D 2 + 0) a) (94 + 10 * D 2 + 1) b) (94 + 10 * D 2 + 2) g) s (94 + 10 * D 2 + 4) n (94 + 10 * D 2 + 4 + (i : Int)) = tNumV t L 0 90 (tIt t L s i) := fun i hi => mTm_at hi
  generalize mTm t L (mSet (mSet (mSet D (94 + 10 * D 2 + 0) a) (94 + 10 * D 2 + 1) b) (94 + 10 * D 2 + 2) g) s (94 + 10 * D 2 + 4) n = T at key keyo keyi ⊢
  generalize mSet (mSet (mSet T (94 + 10 * D 2 + 3) (n : Int)) (94 + 10 * D 2 + 8) (-1)) 2 (D 2 + 1) = E at key ⊢
  have e2 : E 2 = D 2 + 1 := by rw [key, if_pos rfl]
  have eo : ∀ j, j ≠ 2 → (j < 94 + 10 * D 2 ∨ 94 + 10 * D 2 + 9 ≤ j) → E j = D j := fun j j1 hj => by
    rw [key, if_neg j1, if_neg (by omega), if_neg (by omega), keyo j (by omega), if_neg (by omega), if_neg (by omega), if_neg (by omega)]
  have k0 : E (94 + 10 * D 2 + 0) = a := by rw [key, if_neg (by omega), if_neg (by omega), if_neg (by omega), keyo _ (by omega), if_neg (by omega), if_neg (by omega), if_pos rfl]
  have k1 : E (94 + 10 * D 2 + 1) = b := by rw [key, if_neg (by omega), if_neg (by omega), if_neg (by omega), keyo _ (by omega), if_neg (by omega), if_pos rfl]
  have k2 : E (94 + 10 * D 2 + 2) = g := by rw [key, if_neg (by omega), if_neg (by omega), if_neg (by omega), keyo _ (by omega), if_pos rfl]
  have k3 : E (94 + 10 * D 2 + 3) = (n : Int) := by rw [key, if_neg (by omega), if_neg (by omega), if_pos rfl]
  have kt : ∀ k : Int, 0 ≤ k → k < n → E (94 + 10 * D 2 + (4 + k)) = tNumV t L 0 90 (tIt t L s k.toNat) := fun k q0 q1 => by
    have z := keyi k.toNat (by omega)
    rw [show 94 + 10 * D 2 + 4 + ((k.toNat : Nat) : Int) = 94 + 10 * D 2 + (4 + k) by omega] at z
    rw [key, if_neg (by omega), if_neg (by omega), if_neg (by omega), z]
  have nse : nS E = nS D := by unfold nS; rw [eo 1 (by decide) (by omega)]
  have cn : ∀ x, mCn E x (nS E) = mCn D x (nS D) := fun x => by rw [nse]; exact mCn_cg fun k hk => eo _ (by omega) (by omega)
  obtain ⟨h1, h2, h3, h5, h6, h7, h8, h9, h10, h11⟩ := hd
  refine ⟨⟨?_, ?_, by rw [e2]; exact zup_e⟩, fun x x0 x1 => ?_, fun s s0 s1 => ?_, fun f f0 f1 => ?_, ⟨?_, ?_, ?_⟩, fun j j0 j1 => ?_, fun j j0 j1 => ?_, fun j j0 j1 => ?_, fun j j0 j1 => ?_, fun j j0 j1 => ?_⟩
  · rw [zup_j (by decide)]; simp (disch := decide) only [zup_n, ctm_n]; rw [eo 0 (by decide) (by omega)]; exact h1.1
  · rw [zup_j (by decide)]; simp (disch := decide) only [zup_n, ctm_n]; rw [eo 1 (by decide) (by omega)]; exact h1.2.1
  · rw [eo 0 (by decide) (by omega)] at x1
    simp (disch := decide) only [zup_n, ctm_n]; rw [cn]
    have a := h2 x x0 x1
    unfold mH at a ⊢
    rw [eo _ (by omega) (by omega), eo _ (by omega) (by omega)]; exact a
  · rw [eo 1 (by decide) (by omega)] at s1
    have a := h3 s s0 s1
    unfold mS at a ⊢
    simp (disch := decide) only [zup_n, ctm_n]
    rw [eo (14 + 8 * s + 0) (by omega) (by omega), eo (14 + 8 * s + 1) (by omega) (by omega), eo (14 + 8 * s + 2) (by omega) (by omega), eo (14 + 8 * s + 3) (by omega) (by omega)]
    exact a
  · rw [e2] at f1
    by_cases z : f = D 2
    · subst z
      unfold mF
      rw [k0, k1, k2, k3]
      refine ⟨?_, ?_, ?_, ?_, ?_, fun k q0 q1 => ?_⟩
      · rw [zup_n (by decide), zup_n (by decide), zup_n (by decide), ctm_n (by decide), zup_n (by decide), zup_n (by decide)]; exact zup_e
      · rw [zup_n (by decide), zup_n (by decide), zup_n (by decide), ctm_n (by decide), zup_n (by decide)]; exact zup_e
      · rw [zup_n (by decide), zup_n (by decide), zup_n (by decide), ctm_n (by decide)]; exact zup_e
      · rw [zup_n (by decide), zup_n (by decide)]; exact zup_e
      · rw [zup_n (by decide)]; exact zup_e
      · rw [kt k q0 q1, zup_n (by decide), zup_n (by decide), zup_n (by decide)]
        have w := ctm_at (t := t) (L := L) (c := zup (zup (zup c 2108 (D 2) a) 2109 (D 2) b) 2110 (D 2) g) (s := s) (b := D 2 * 4) (n := n) (i := k.toNat) (by omega)
        rw [show D 2 * 4 + ((k.toNat : Nat) : Int) = D 2 * 4 + k by omega] at w
        exact w
    · have a := h5 f f0 (by omega)
      have b9 := (hv.f f f0 (by omega)).1 (by omega)
      unfold mF at a b9 ⊢
      rw [eo (94 + 10 * f + 0) (by omega) (by omega), eo (94 + 10 * f + 1) (by omega) (by omega), eo (94 + 10 * f + 2) (by omega) (by omega), eo (94 + 10 * f + 3) (by omega) (by omega)]
      refine ⟨?_, ?_, ?_, ?_, ?_, fun k q0 q1 => ?_⟩
      · simp (disch := first | decide | exact z) only [zup_n, zup_j, ctm_n]; exact a.1
      · simp (disch := first | decide | exact z) only [zup_n, zup_j, ctm_n]; exact a.2.1
      · simp (disch := first | decide | exact z) only [zup_n, zup_j, ctm_n]; exact a.2.2.1
      · simp (disch := first | decide | exact z) only [zup_n, zup_j, ctm_n]; exact a.2.2.2.1
      · simp (disch := first | decide | exact z) only [zup_n, zup_j, ctm_n]; exact a.2.2.2.2.1
      · rw [zup_n (by decide), zup_n (by decide), zup_n (by decide), ctm_j (by omega), zup_n (by decide), zup_n (by decide), zup_n (by decide), eo _ (by omega) (by omega)]
        exact a.2.2.2.2.2 k q0 q1
  · simp (disch := decide) only [zup_n, ctm_n]; exact h6.1
  · simp (disch := decide) only [zup_n, ctm_n]; exact h6.2.1
  · simp (disch := decide) only [zup_n, ctm_n]; rw [eo 4 (by decide) (by omega)]; exact h6.2.2
  · simp (disch := decide) only [zup_n, ctm_n]; rw [eo _ (by omega) (by omega)]; exact h7 j j0 j1
  · simp (disch := decide) only [zup_n, ctm_n]; exact h8 j j0 j1
  · simp (disch := decide) only [zup_n, ctm_n]; exact h9 j j0 j1
  · simp (disch := decide) only [zup_n, ctm_n]; exact h10 j j0 j1
  · simp (disch := decide) only [zup_n, ctm_n]; exact h11 j j0 j1
end ZCD

/-! the law's own chain, drawn: what holds in between -/
section ZI3
variable {σ0 σ σ' : zMem} {E : Nat → Nat} {N : Int → Int} {a b c : Int} {h m : Nat}
def zB (σ0 σ : zMem) (k : Nat) : Prop := zn σ ≤ zn σ0 + k ∧ zcs σ ≤ zcs σ0 + k ∧ zss σ ≤ zss σ0 + 100 * k
/-- the numbers so far: a houses, b screens, c films -/
def dQ (a b c : Int) (N : Int → Int) : Prop :=
  (∀ h, 0 ≤ h → h < a → 1 ≤ mH N h 0 ∧ mH N h 0 ≤ 20 ∧ 1 ≤ mH N h 1 ∧ mH N h 1 ≤ 100) ∧
  (∀ s, 0 ≤ s → s < b → 0 ≤ mS N s 0 ∧ mS N s 0 < a ∧ 1 ≤ mS N s 1 ∧ mS N s 1 ≤ 60 ∧ 1 ≤ mS N s 2 ∧ mS N s 2 ≤ 6 ∧ 0 ≤ mS N s 3 ∧ mS N s 3 ≤ 199 ∧ mS N s 4 = -1 ∧ mS N s 5 = -1 ∧ mS N s 6 = 0 ∧ mS N s 7 = 0) ∧
  (∀ f, 0 ≤ f → f < c → 0 ≤ mF N f 0 ∧ mF N f 0 ≤ 399 ∧ 0 ≤ mF N f 1 ∧ mF N f 1 ≤ 100 ∧ 0 ≤ mF N f 2 ∧ mF N f 2 ≤ 3999 ∧ 1 ≤ mF N f 3 ∧ mF N f 3 ≤ 4 ∧ mF N f 8 = -1 ∧ mF N f 9 = 0 ∧ ∀ k, 0 ≤ k → k < 4 → 0 ≤ mF N f (4 + k) ∧ mF N f (4 + k) ≤ 90) ∧
  (∀ f p, 0 ≤ f → f < 6 → 0 ≤ p → p < 5 → 0 ≤ N (154 + 5 * f + p) ∧ N (154 + 5 * f + p) ≤ 3) ∧
  ∀ j, j < 6 ∨ (6 + 2 * a ≤ j ∧ j < 14) ∨ (14 + 8 * b ≤ j ∧ j < 94) ∨ (94 + 10 * c ≤ j ∧ j < 154) ∨ 184 ≤ j → N j = 0
def dI (σ0 : zMem) (h : Nat) (a b c : Int) (N : Int → Int) (E : Nat → Nat) (m : Nat) (σ : zMem) : Prop := E 0 = h ∧ eQ a b c N σ E ∧ eU E h (zn σ) ∧ dQ a b c N ∧ zGw h σ0 σ ∧ zB σ0 σ m
def dC (σ : zMem) (h : Nat) (c0 c1 c2 c4 : Int) : Prop := zia σ h ((0 : Nat) : Int) = c0 ∧ zia σ h ((1 : Nat) : Int) = c1 ∧ zia σ h ((2 : Nat) : Int) = c2 ∧ zia σ h ((3 : Nat) : Int) = 0 ∧ zia σ h ((4 : Nat) : Int) = c4 ∧ zia σ h ((5 : Nat) : Int) = 0
theorem dI.k0 (d : dI σ0 h a b c N E m σ) : zkd σ h = (0, 12) := d.1 ▸ d.2.1.1.1.1
theorem dI.l0 (d : dI σ0 h a b c N E m σ) : h < zn σ := by have := d.2.1.1.1.2.1; rw [d.1] at this; exact this
theorem dI.f (d : dI σ0 h a b c N E m σ) : ∀ k t n, (k, t, n) ∈ eF → zra σ h ((k : Nat) : Int) = some (E k) ∧ E k < zn σ ∧ zkd σ (E k) = (t, n) := fun k t n q => by
  have := d.2.1.1.1.2.2 k t n q
  rw [d.1] at this
  exact this
theorem dI.r8 (d : dI σ0 h a b c N E m σ) : ∀ i : Int, 0 ≤ i → i < c → zra σ (E 8) i = some (E (800 + i.toNat)) ∧ E (800 + i.toNat) < zn σ ∧ zkd σ (E (800 + i.toNat)) = (1, 10) := d.2.1.1.2.2.2.1
theorem dI.r9 (d : dI σ0 h a b c N E m σ) : ∀ i : Int, 0 ≤ i → i < 6 → zra σ (E 9) i = some (E (900 + i.toNat)) ∧ E (900 + i.toNat) < zn σ ∧ zkd σ (E (900 + i.toNat)) = (1, 5) := d.2.1.1.2.2.2.2.1
theorem dI.inj (d : dI σ0 h a b c N E m σ) : ∀ i j, E i = E j → i = j := d.2.1.1.2.2.2.2.2.2
theorem zB.wk {k : Nat} (z : zB σ0 σ k) {k2 : Nat} (hk : k ≤ k2) : zB σ0 σ k2 := by unfold zB at z ⊢; omega
/-- a row laid: the memory, apart from the row, as it was -/
theorem nR_of {g x : Int} {mm k : Nat} {s1 : zMem} (hk : zn s1 = zn σ + 1) (hkd : ∀ y, zkd s1 y = if y = zn σ then (1, mm) else zkd σ y) (hra : ∀ y j, zra s1 y j = if y = zn σ then none else zra σ y j) (hia : ∀ y j, y < zn σ → zia s1 y j = zia σ y j) (hE : E k < zn σ) : nR σ (zsr s1 (E k) x (some (zn σ))) E k x mm := by
  refine ⟨by show zn σ < zn s1; omega, fun y hy => ⟨?_, fun j => hia y j hy, fun j hj => ?_⟩, ?_, ?_⟩
  · show zkd s1 y = _
    rw [hkd, if_neg (by omega)]
  · rw [zra_sr, if_neg hj, hra, if_neg (by omega)]
  · rw [zra_sr, if_pos ⟨rfl, rfl⟩]
  · show zkd s1 _ = _
    rw [hkd, if_pos rfl]
/-- a new row, its cells written -/
def nwR (σ s1 : zMem) (mm : Nat) : Prop := (zn s1 = zn σ + 1 ∧ zcs s1 = zcs σ + 1 ∧ zss s1 = zss σ + mm) ∧ (∀ y, zkd s1 y = if y = zn σ then (1, mm) else zkd σ y) ∧ (∀ y j, zra s1 y j = if y = zn σ then none else zra σ y j) ∧ ∀ y j, y < zn σ → zia s1 y j = zia σ y j
theorem nwR_0 (σ : zMem) (mm : Nat) : nwR σ (znw σ 1 mm mm) mm := ⟨⟨rfl, rfl, rfl⟩, fun y => rfl, fun y j => rfl, fun y j hy => by rw [zia_nw, if_neg (by omega)]⟩
theorem nwR.si {s1 : zMem} {mm : Nat} (r : nwR σ s1 mm) {j v : Int} : nwR σ (zsi s1 (zn σ) j v) mm := ⟨r.1, r.2.1, r.2.2.1, fun y k hy => by rw [zia_si, if_neg (by omega)]; exact r.2.2.2 y k hy⟩
theorem nwR.gw {s1 : zMem} {mm : Nat} (r : nwR σ s1 mm) {n : Nat} (hn : n ≤ zn σ) {x : Int} {y : Nat} (hy : n ≤ y) {v : Option Nat} : zGw n σ (zsr s1 y x v) := ⟨by show zn σ ≤ zn s1; have := r.1.1; omega, fun z hz => ⟨by show zkd s1 z = _; rw [r.2.1, if_neg (by omega)], fun j => ⟨by rw [zra_sr, if_neg (by omega), r.2.2.1, if_neg (by omega)], r.2.2.2 z j (by omega)⟩⟩⟩
theorem dI_q6 {R : Int → Int} (d : dQ a b c N) (hv : 1 ≤ R 0 ∧ R 0 ≤ 20 ∧ 1 ≤ R 1 ∧ R 1 ≤ 100) (bz : b = 0) (a0 : 0 ≤ a ∧ a ≤ 4) (b0 : 0 ≤ b ∧ b ≤ 10) (c0 : 0 ≤ c ∧ c ≤ 6) (hx : a < 4) : dQ (a + 1) b c (fun j => if 6 + 2 * a ≤ j ∧ j < 6 + 2 * a + 2 then R (j - (6 + 2 * a)) else N j) := by
  obtain ⟨qH, qS, qF, qP, qZ⟩ := d
  have n1 : ∀ k, 0 ≤ k → k < 2 → (fun j => if 6 + 2 * a ≤ j ∧ j < 6 + 2 * a + 2 then R (j - (6 + 2 * a)) else N j) (6 + 2 * a + k) = R k := fun k k0 k1 => by
    show (if _ then _ else _) = _
    rw [if_pos (by omega), show 6 + 2 * a + k - (6 + 2 * a) = k by omega]
  have n2 : ∀ j, j < 6 + 2 * a ∨ 6 + 2 * a + 2 ≤ j → (fun j => if 6 + 2 * a ≤ j ∧ j < 6 + 2 * a + 2 then R (j - (6 + 2 * a)) else N j) j = N j := fun j hj => if_neg (by omega)
  generalize (fun j => if 6 + 2 * a ≤ j ∧ j < 6 + 2 * a + 2 then R (j - (6 + 2 * a)) else N j) = N' at n1 n2 ⊢
  refine ⟨fun x x0 x1 => ?_, fun x x0 x1 => ?_, fun x x0 x1 => ?_, fun f p f0 f1 p0 p1 => ?_, fun j hj => ?_⟩
  · by_cases e : x = a
    · rw [e]
      have e0 : mH N' a 0 = R 0 := n1 0 (by omega) (by omega)
      have e1 : mH N' a 1 = R 1 := n1 1 (by omega) (by omega)
      omega
    · have q := qH x x0 (by omega)
      have e0 : mH N' x 0 = mH N x 0 := n2 _ (by omega)
      have e1 : mH N' x 1 = mH N x 1 := n2 _ (by omega)
      omega
  · exact absurd x1 (by omega)
  · have q := qF x x0 (by omega)
    have e0 : mF N' x 0 = mF N x 0 := n2 _ (by omega)
    have e1 : mF N' x 1 = mF N x 1 := n2 _ (by omega)
    have e2 : mF N' x 2 = mF N x 2 := n2 _ (by omega)
    have e3 : mF N' x 3 = mF N x 3 := n2 _ (by omega)
    have e4 : mF N' x 4 = mF N x 4 := n2 _ (by omega)
    have e5 : mF N' x 5 = mF N x 5 := n2 _ (by omega)
    have e6 : mF N' x 6 = mF N x 6 := n2 _ (by omega)
    have e7 : mF N' x 7 = mF N x 7 := n2 _ (by omega)
    have e8 : mF N' x 8 = mF N x 8 := n2 _ (by omega)
    have e9 : mF N' x 9 = mF N x 9 := n2 _ (by omega)
    have e4k : ∀ k, 0 ≤ k → k < 4 → mF N' x (4 + k) = mF N x (4 + k) := fun k k0 k1 => n2 _ (by omega)
    rw [e0, e1, e2, e3, e8, e9]
    refine ⟨q.1, q.2.1, q.2.2.1, q.2.2.2.1, q.2.2.2.2.1, q.2.2.2.2.2.1, q.2.2.2.2.2.2.1, q.2.2.2.2.2.2.2.1, q.2.2.2.2.2.2.2.2.1, q.2.2.2.2.2.2.2.2.2.1, fun k k0 k1 => ?_⟩
    rw [e4k k k0 k1]
    exact q.2.2.2.2.2.2.2.2.2.2 k k0 k1
  · rw [n2 _ (by omega)]
    exact qP f p f0 f1 p0 p1
  · rw [n2 _ (by omega)]
    exact qZ j (by omega)
theorem dI_q7 {R : Int → Int} (d : dQ a b c N) (hv : 0 ≤ R 0 ∧ R 0 < a ∧ 1 ≤ R 1 ∧ R 1 ≤ 60 ∧ 1 ≤ R 2 ∧ R 2 ≤ 6 ∧ 0 ≤ R 3 ∧ R 3 ≤ 199 ∧ R 4 = -1 ∧ R 5 = -1 ∧ R 6 = 0 ∧ R 7 = 0) (a0 : 0 ≤ a ∧ a ≤ 4) (b0 : 0 ≤ b ∧ b ≤ 10) (c0 : 0 ≤ c ∧ c ≤ 6) (hx : b < 10) : dQ a (b + 1) c (fun j => if 14 + 8 * b ≤ j ∧ j < 14 + 8 * b + 8 then R (j - (14 + 8 * b)) else N j) := by
  obtain ⟨qH, qS, qF, qP, qZ⟩ := d
  have n1 : ∀ k, 0 ≤ k → k < 8 → (fun j => if 14 + 8 * b ≤ j ∧ j < 14 + 8 * b + 8 then R (j - (14 + 8 * b)) else N j) (14 + 8 * b + k) = R k := fun k k0 k1 => by
    show (if _ then _ else _) = _
    rw [if_pos (by omega), show 14 + 8 * b + k - (14 + 8 * b) = k by omega]
  have n2 : ∀ j, j < 14 + 8 * b ∨ 14 + 8 * b + 8 ≤ j → (fun j => if 14 + 8 * b ≤ j ∧ j < 14 + 8 * b + 8 then R (j - (14 + 8 * b)) else N j) j = N j := fun j hj => if_neg (by omega)
  generalize (fun j => if 14 + 8 * b ≤ j ∧ j < 14 + 8 * b + 8 then R (j - (14 + 8 * b)) else N j) = N' at n1 n2 ⊢
  refine ⟨fun x x0 x1 => ?_, fun x x0 x1 => ?_, fun x x0 x1 => ?_, fun f p f0 f1 p0 p1 => ?_, fun j hj => ?_⟩
  · have q := qH x x0 (by omega)
    have e0 : mH N' x 0 = mH N x 0 := n2 _ (by omega)
    have e1 : mH N' x 1 = mH N x 1 := n2 _ (by omega)
    omega
  · by_cases e : x = b
    · rw [e]
      have e0 : mS N' b 0 = R 0 := n1 0 (by omega) (by omega)
      have e1 : mS N' b 1 = R 1 := n1 1 (by omega) (by omega)
      have e2 : mS N' b 2 = R 2 := n1 2 (by omega) (by omega)
      have e3 : mS N' b 3 = R 3 := n1 3 (by omega) (by omega)
      have e4 : mS N' b 4 = R 4 := n1 4 (by omega) (by omega)
      have e5 : mS N' b 5 = R 5 := n1 5 (by omega) (by omega)
      have e6 : mS N' b 6 = R 6 := n1 6 (by omega) (by omega)
      have e7 : mS N' b 7 = R 7 := n1 7 (by omega) (by omega)
      omega
    · have q := qS x x0 (by omega)
      have e0 : mS N' x 0 = mS N x 0 := n2 _ (by omega)
      have e1 : mS N' x 1 = mS N x 1 := n2 _ (by omega)
      have e2 : mS N' x 2 = mS N x 2 := n2 _ (by omega)
      have e3 : mS N' x 3 = mS N x 3 := n2 _ (by omega)
      have e4 : mS N' x 4 = mS N x 4 := n2 _ (by omega)
      have e5 : mS N' x 5 = mS N x 5 := n2 _ (by omega)
      have e6 : mS N' x 6 = mS N x 6 := n2 _ (by omega)
      have e7 : mS N' x 7 = mS N x 7 := n2 _ (by omega)
      omega
  · have q := qF x x0 (by omega)
    have e0 : mF N' x 0 = mF N x 0 := n2 _ (by omega)
    have e1 : mF N' x 1 = mF N x 1 := n2 _ (by omega)
    have e2 : mF N' x 2 = mF N x 2 := n2 _ (by omega)
    have e3 : mF N' x 3 = mF N x 3 := n2 _ (by omega)
    have e4 : mF N' x 4 = mF N x 4 := n2 _ (by omega)
    have e5 : mF N' x 5 = mF N x 5 := n2 _ (by omega)
    have e6 : mF N' x 6 = mF N x 6 := n2 _ (by omega)
    have e7 : mF N' x 7 = mF N x 7 := n2 _ (by omega)
    have e8 : mF N' x 8 = mF N x 8 := n2 _ (by omega)
    have e9 : mF N' x 9 = mF N x 9 := n2 _ (by omega)
    have e4k : ∀ k, 0 ≤ k → k < 4 → mF N' x (4 + k) = mF N x (4 + k) := fun k k0 k1 => n2 _ (by omega)
    rw [e0, e1, e2, e3, e8, e9]
    refine ⟨q.1, q.2.1, q.2.2.1, q.2.2.2.1, q.2.2.2.2.1, q.2.2.2.2.2.1, q.2.2.2.2.2.2.1, q.2.2.2.2.2.2.2.1, q.2.2.2.2.2.2.2.2.1, q.2.2.2.2.2.2.2.2.2.1, fun k k0 k1 => ?_⟩
    rw [e4k k k0 k1]
    exact q.2.2.2.2.2.2.2.2.2.2 k k0 k1
  · rw [n2 _ (by omega)]
    exact qP f p f0 f1 p0 p1
  · rw [n2 _ (by omega)]
    exact qZ j (by omega)
theorem dI_q8 {R : Int → Int} (d : dQ a b c N) (hv : 0 ≤ R 0 ∧ R 0 ≤ 399 ∧ 0 ≤ R 1 ∧ R 1 ≤ 100 ∧ 0 ≤ R 2 ∧ R 2 ≤ 3999 ∧ 1 ≤ R 3 ∧ R 3 ≤ 4 ∧ R 8 = -1 ∧ R 9 = 0 ∧ ∀ k, 0 ≤ k → k < 4 → 0 ≤ R (4 + k) ∧ R (4 + k) ≤ 90) (a0 : 0 ≤ a ∧ a ≤ 4) (b0 : 0 ≤ b ∧ b ≤ 10) (c0 : 0 ≤ c ∧ c ≤ 6) (hx : c < 6) : dQ a b (c + 1) (fun j => if 94 + 10 * c ≤ j ∧ j < 94 + 10 * c + 10 then R (j - (94 + 10 * c)) else N j) := by
  obtain ⟨qH, qS, qF, qP, qZ⟩ := d
  have n1 : ∀ k, 0 ≤ k → k < 10 → (fun j => if 94 + 10 * c ≤ j ∧ j < 94 + 10 * c + 10 then R (j - (94 + 10 * c)) else N j) (94 + 10 * c + k) = R k := fun k k0 k1 => by
    show (if _ then _ else _) = _
    rw [if_pos (by omega), show 94 + 10 * c + k - (94 + 10 * c) = k by omega]
  have n2 : ∀ j, j < 94 + 10 * c ∨ 94 + 10 * c + 10 ≤ j → (fun j => if 94 + 10 * c ≤ j ∧ j < 94 + 10 * c + 10 then R (j - (94 + 10 * c)) else N j) j = N j := fun j hj => if_neg (by omega)
  generalize (fun j => if 94 + 10 * c ≤ j ∧ j < 94 + 10 * c + 10 then R (j - (94 + 10 * c)) else N j) = N' at n1 n2 ⊢
  refine ⟨fun x x0 x1 => ?_, fun x x0 x1 => ?_, fun x x0 x1 => ?_, fun f p f0 f1 p0 p1 => ?_, fun j hj => ?_⟩
  · have q := qH x x0 (by omega)
    have e0 : mH N' x 0 = mH N x 0 := n2 _ (by omega)
    have e1 : mH N' x 1 = mH N x 1 := n2 _ (by omega)
    omega
  · have q := qS x x0 (by omega)
    have e0 : mS N' x 0 = mS N x 0 := n2 _ (by omega)
    have e1 : mS N' x 1 = mS N x 1 := n2 _ (by omega)
    have e2 : mS N' x 2 = mS N x 2 := n2 _ (by omega)
    have e3 : mS N' x 3 = mS N x 3 := n2 _ (by omega)
    have e4 : mS N' x 4 = mS N x 4 := n2 _ (by omega)
    have e5 : mS N' x 5 = mS N x 5 := n2 _ (by omega)
    have e6 : mS N' x 6 = mS N x 6 := n2 _ (by omega)
    have e7 : mS N' x 7 = mS N x 7 := n2 _ (by omega)
    omega
  · by_cases e : x = c
    · rw [e]
      have e0 : mF N' c 0 = R 0 := n1 0 (by omega) (by omega)
      have e1 : mF N' c 1 = R 1 := n1 1 (by omega) (by omega)
      have e2 : mF N' c 2 = R 2 := n1 2 (by omega) (by omega)
      have e3 : mF N' c 3 = R 3 := n1 3 (by omega) (by omega)
      have e4 : mF N' c 4 = R 4 := n1 4 (by omega) (by omega)
      have e5 : mF N' c 5 = R 5 := n1 5 (by omega) (by omega)
      have e6 : mF N' c 6 = R 6 := n1 6 (by omega) (by omega)
      have e7 : mF N' c 7 = R 7 := n1 7 (by omega) (by omega)
      have e8 : mF N' c 8 = R 8 := n1 8 (by omega) (by omega)
      have e9 : mF N' c 9 = R 9 := n1 9 (by omega) (by omega)
      have e4k : ∀ k, 0 ≤ k → k < 4 → mF N' c (4 + k) = R (4 + k) := fun k k0 k1 => n1 (4 + k) (by omega) (by omega)
      obtain ⟨w0, w1, w2, w3, w4, w5, w6, w7, w8, w9, wk⟩ := hv
      refine ⟨by omega, by omega, by omega, by omega, by omega, by omega, by omega, by omega, by omega, by omega, fun k k0 k1 => ?_⟩
      rw [e4k k k0 k1]
      exact wk k k0 k1
    · have q := qF x x0 (by omega)
      have e0 : mF N' x 0 = mF N x 0 := n2 _ (by omega)
      have e1 : mF N' x 1 = mF N x 1 := n2 _ (by omega)
      have e2 : mF N' x 2 = mF N x 2 := n2 _ (by omega)
      have e3 : mF N' x 3 = mF N x 3 := n2 _ (by omega)
      have e4 : mF N' x 4 = mF N x 4 := n2 _ (by omega)
      have e5 : mF N' x 5 = mF N x 5 := n2 _ (by omega)
      have e6 : mF N' x 6 = mF N x 6 := n2 _ (by omega)
      have e7 : mF N' x 7 = mF N x 7 := n2 _ (by omega)
      have e8 : mF N' x 8 = mF N x 8 := n2 _ (by omega)
      have e9 : mF N' x 9 = mF N x 9 := n2 _ (by omega)
      have e4k : ∀ k, 0 ≤ k → k < 4 → mF N' x (4 + k) = mF N x (4 + k) := fun k k0 k1 => n2 _ (by omega)
      rw [e0, e1, e2, e3, e8, e9]
      refine ⟨q.1, q.2.1, q.2.2.1, q.2.2.2.1, q.2.2.2.2.1, q.2.2.2.2.2.1, q.2.2.2.2.2.2.1, q.2.2.2.2.2.2.2.1, q.2.2.2.2.2.2.2.2.1, q.2.2.2.2.2.2.2.2.2.1, fun k k0 k1 => ?_⟩
      rw [e4k k k0 k1]
      exact q.2.2.2.2.2.2.2.2.2.2 k k0 k1
  · rw [n2 _ (by omega)]
    exact qP f p f0 f1 p0 p1
  · rw [n2 _ (by omega)]
    exact qZ j (by omega)
theorem dI_6 {s1 : zMem} (d : dI σ0 h a b c N E m σ) (hz : zn σ < zbg) (a0 : 0 ≤ a ∧ a ≤ 4) (b0 : 0 ≤ b ∧ b ≤ 10) (c0 : 0 ≤ c ∧ c ≤ 6) (hx : a < 4) (bz : b = 0) (r : nwR σ s1 2) (hv : 1 ≤ zia s1 (zn σ) 0 ∧ zia s1 (zn σ) 0 ≤ 20 ∧ 1 ≤ zia s1 (zn σ) 1 ∧ zia s1 (zn σ) 1 ≤ 100) : ∃ N' E', dI σ0 h (a + 1) b c N' E' (m + 1) (zsr s1 (E 6) a (some (zn σ))) ∧ (∀ j, zia (zsr s1 (E 6) a (some (zn σ))) h j = zia σ h j) ∧ (∀ j, (6 + 2 * a ≤ j ∧ j < 6 + 2 * a + 2 → N' j = zia s1 (zn σ) (j - (6 + 2 * a))) ∧ (j < 6 + 2 * a ∨ 6 + 2 * a + 2 ≤ j → N' j = N j)) := by
  have l0 := d.l0
  have eg : E 6 < zn σ := (d.f 6 6 4 (by decide)).2.1
  have q := dI_q6 d.2.2.2.1 hv bz a0 b0 c0 hx
  have n1 : ∀ j, 6 + 2 * a ≤ j ∧ j < 6 + 2 * a + 2 → (fun j => if 6 + 2 * a ≤ j ∧ j < 6 + 2 * a + 2 then zia s1 (zn σ) (j - (6 + 2 * a)) else N j) j = zia s1 (zn σ) (j - (6 + 2 * a)) := fun j hj => if_pos hj
  have n2 : ∀ j, j < 6 + 2 * a ∨ 6 + 2 * a + 2 ≤ j → (fun j => if 6 + 2 * a ≤ j ∧ j < 6 + 2 * a + 2 then zia s1 (zn σ) (j - (6 + 2 * a)) else N j) j = N j := fun j hj => if_neg (by omega)
  refine ⟨fun j => if 6 + 2 * a ≤ j ∧ j < 6 + 2 * a + 2 then zia s1 (zn σ) (j - (6 + 2 * a)) else N j, eUp E (100 * 6 + a.toNat) (zn σ), ⟨by rw [eUp_o (by omega)]; exact d.1, eQ_6 d.2.1 d.2.2.1 hz a0 b0 c0 hx (nR_of (g := 0) r.1.1 r.2.1 r.2.2.1 r.2.2.2 eg) (fun k k0 k1 => ?_) n2, ?_, q, d.2.2.2.2.1.tr (r.gw (Nat.le_of_lt l0) ?_), ?_⟩, fun j => r.2.2.2 _ j l0, fun j => ⟨n1 j, n2 j⟩⟩
  · show zia s1 (zn σ) k = _
    have w := n1 (6 + 2 * a + k) (by omega)
    rw [show 6 + 2 * a + k - (6 + 2 * a) = k by omega] at w
    exact w.symm
  · exact d.2.2.1.up (Nat.le_of_lt l0) (by show zn σ < zn s1; have := r.1.1; omega)
  · have := d.2.2.1 6; have e1 : zbg = 1000000 := rfl; omega
  · have := d.2.2.2.2.2; obtain ⟨r1, r2, r3⟩ := r.1
    refine ⟨?_, ?_, ?_⟩
    · show zn s1 ≤ _; have := this.1; omega
    · show zcs s1 ≤ _; have := this.2.1; omega
    · show zss s1 ≤ _; have := this.2.2; omega
theorem dI_7 {s1 : zMem} (d : dI σ0 h a b c N E m σ) (hz : zn σ < zbg) (a0 : 0 ≤ a ∧ a ≤ 4) (b0 : 0 ≤ b ∧ b ≤ 10) (c0 : 0 ≤ c ∧ c ≤ 6) (hx : b < 10) (r : nwR σ s1 8) (hv : 0 ≤ zia s1 (zn σ) 0 ∧ zia s1 (zn σ) 0 < a ∧ 1 ≤ zia s1 (zn σ) 1 ∧ zia s1 (zn σ) 1 ≤ 60 ∧ 1 ≤ zia s1 (zn σ) 2 ∧ zia s1 (zn σ) 2 ≤ 6 ∧ 0 ≤ zia s1 (zn σ) 3 ∧ zia s1 (zn σ) 3 ≤ 199 ∧ zia s1 (zn σ) 4 = -1 ∧ zia s1 (zn σ) 5 = -1 ∧ zia s1 (zn σ) 6 = 0 ∧ zia s1 (zn σ) 7 = 0) : ∃ N' E', dI σ0 h a (b + 1) c N' E' (m + 1) (zsr s1 (E 7) b (some (zn σ))) ∧ (∀ j, zia (zsr s1 (E 7) b (some (zn σ))) h j = zia σ h j) ∧ (∀ j, (14 + 8 * b ≤ j ∧ j < 14 + 8 * b + 8 → N' j = zia s1 (zn σ) (j - (14 + 8 * b))) ∧ (j < 14 + 8 * b ∨ 14 + 8 * b + 8 ≤ j → N' j = N j)) := by
  have l0 := d.l0
  have eg : E 7 < zn σ := (d.f 7 6 10 (by decide)).2.1
  have q := dI_q7 d.2.2.2.1 hv a0 b0 c0 hx
  have n1 : ∀ j, 14 + 8 * b ≤ j ∧ j < 14 + 8 * b + 8 → (fun j => if 14 + 8 * b ≤ j ∧ j < 14 + 8 * b + 8 then zia s1 (zn σ) (j - (14 + 8 * b)) else N j) j = zia s1 (zn σ) (j - (14 + 8 * b)) := fun j hj => if_pos hj
  have n2 : ∀ j, j < 14 + 8 * b ∨ 14 + 8 * b + 8 ≤ j → (fun j => if 14 + 8 * b ≤ j ∧ j < 14 + 8 * b + 8 then zia s1 (zn σ) (j - (14 + 8 * b)) else N j) j = N j := fun j hj => if_neg (by omega)
  refine ⟨fun j => if 14 + 8 * b ≤ j ∧ j < 14 + 8 * b + 8 then zia s1 (zn σ) (j - (14 + 8 * b)) else N j, eUp E (100 * 7 + b.toNat) (zn σ), ⟨by rw [eUp_o (by omega)]; exact d.1, eQ_7 d.2.1 d.2.2.1 hz a0 b0 c0 hx (nR_of (g := 0) r.1.1 r.2.1 r.2.2.1 r.2.2.2 eg) (fun k k0 k1 => ?_) n2, ?_, q, d.2.2.2.2.1.tr (r.gw (Nat.le_of_lt l0) ?_), ?_⟩, fun j => r.2.2.2 _ j l0, fun j => ⟨n1 j, n2 j⟩⟩
  · show zia s1 (zn σ) k = _
    have w := n1 (14 + 8 * b + k) (by omega)
    rw [show 14 + 8 * b + k - (14 + 8 * b) = k by omega] at w
    exact w.symm
  · exact d.2.2.1.up (Nat.le_of_lt l0) (by show zn σ < zn s1; have := r.1.1; omega)
  · have := d.2.2.1 7; have e1 : zbg = 1000000 := rfl; omega
  · have := d.2.2.2.2.2; obtain ⟨r1, r2, r3⟩ := r.1
    refine ⟨?_, ?_, ?_⟩
    · show zn s1 ≤ _; have := this.1; omega
    · show zcs s1 ≤ _; have := this.2.1; omega
    · show zss s1 ≤ _; have := this.2.2; omega
theorem dI_8 {s1 : zMem} (d : dI σ0 h a b c N E m σ) (hz : zn σ < zbg) (a0 : 0 ≤ a ∧ a ≤ 4) (b0 : 0 ≤ b ∧ b ≤ 10) (c0 : 0 ≤ c ∧ c ≤ 6) (hx : c < 6) (r : nwR σ s1 10) (hv : 0 ≤ zia s1 (zn σ) 0 ∧ zia s1 (zn σ) 0 ≤ 399 ∧ 0 ≤ zia s1 (zn σ) 1 ∧ zia s1 (zn σ) 1 ≤ 100 ∧ 0 ≤ zia s1 (zn σ) 2 ∧ zia s1 (zn σ) 2 ≤ 3999 ∧ 1 ≤ zia s1 (zn σ) 3 ∧ zia s1 (zn σ) 3 ≤ 4 ∧ zia s1 (zn σ) 8 = -1 ∧ zia s1 (zn σ) 9 = 0 ∧ ∀ k, 0 ≤ k → k < 4 → 0 ≤ zia s1 (zn σ) (4 + k) ∧ zia s1 (zn σ) (4 + k) ≤ 90) : ∃ N' E', dI σ0 h a b (c + 1) N' E' (m + 1) (zsr s1 (E 8) c (some (zn σ))) ∧ (∀ j, zia (zsr s1 (E 8) c (some (zn σ))) h j = zia σ h j) ∧ (∀ j, (94 + 10 * c ≤ j ∧ j < 94 + 10 * c + 10 → N' j = zia s1 (zn σ) (j - (94 + 10 * c))) ∧ (j < 94 + 10 * c ∨ 94 + 10 * c + 10 ≤ j → N' j = N j)) := by
  have l0 := d.l0
  have eg : E 8 < zn σ := (d.f 8 6 6 (by decide)).2.1
  have q := dI_q8 d.2.2.2.1 hv a0 b0 c0 hx
  have n1 : ∀ j, 94 + 10 * c ≤ j ∧ j < 94 + 10 * c + 10 → (fun j => if 94 + 10 * c ≤ j ∧ j < 94 + 10 * c + 10 then zia s1 (zn σ) (j - (94 + 10 * c)) else N j) j = zia s1 (zn σ) (j - (94 + 10 * c)) := fun j hj => if_pos hj
  have n2 : ∀ j, j < 94 + 10 * c ∨ 94 + 10 * c + 10 ≤ j → (fun j => if 94 + 10 * c ≤ j ∧ j < 94 + 10 * c + 10 then zia s1 (zn σ) (j - (94 + 10 * c)) else N j) j = N j := fun j hj => if_neg (by omega)
  refine ⟨fun j => if 94 + 10 * c ≤ j ∧ j < 94 + 10 * c + 10 then zia s1 (zn σ) (j - (94 + 10 * c)) else N j, eUp E (100 * 8 + c.toNat) (zn σ), ⟨by rw [eUp_o (by omega)]; exact d.1, eQ_8 d.2.1 d.2.2.1 hz a0 b0 c0 hx (nR_of (g := 0) r.1.1 r.2.1 r.2.2.1 r.2.2.2 eg) (fun k k0 k1 => ?_) n2, ?_, q, d.2.2.2.2.1.tr (r.gw (Nat.le_of_lt l0) ?_), ?_⟩, fun j => r.2.2.2 _ j l0, fun j => ⟨n1 j, n2 j⟩⟩
  · show zia s1 (zn σ) k = _
    have w := n1 (94 + 10 * c + k) (by omega)
    rw [show 94 + 10 * c + k - (94 + 10 * c) = k by omega] at w
    exact w.symm
  · exact d.2.2.1.up (Nat.le_of_lt l0) (by show zn σ < zn s1; have := r.1.1; omega)
  · have := d.2.2.1 8; have e1 : zbg = 1000000 := rfl; omega
  · have := d.2.2.2.2.2; obtain ⟨r1, r2, r3⟩ := r.1
    refine ⟨?_, ?_, ?_⟩
    · show zn s1 ≤ _; have := this.1; omega
    · show zcs s1 ≤ _; have := this.2.1; omega
    · show zss s1 ≤ _; have := this.2.2; omega
theorem dI.gw (d : dI σ0 h a b c N E m σ) (a0 : a ≤ 4) (b0 : b ≤ 10) (c0 : c ≤ 6) (g : zGw (zn σ) σ σ') (hb : zB σ0 σ' (m + 1)) : dI σ0 h a b c N E (m + 1) σ' := ⟨d.1, d.2.1.gw a0 b0 c0 g, d.2.2.1.wk g.1, d.2.2.2.1, d.2.2.2.2.1.tr (g.wk (Nat.le_of_lt d.l0)), hb⟩
theorem dI.i0 (d : dI σ0 h a b c N E m σ) {j v : Int} : dI σ0 h a b c N E m (zsi σ h j v) := ⟨d.1, by have := d.2.1.i0 (j := j) (v := v); rw [d.1] at this; exact this, d.2.2.1, d.2.2.2.1, zGw_si d.2.2.2.2.1 (Nat.le_refl _), d.2.2.2.2.2⟩
theorem dI.ge (d : dI σ0 h a b c N E m σ) {k : Nat} (hk : E k < zn σ) (hz : zn σ < zbg) : h ≤ E k := by have := d.2.2.1 k; have e1 : zbg = 1000000 := rfl; omega
theorem dI.i8 (d : dI σ0 h a b c N E m σ) (hz : zn σ < zbg) (a0 : a ≤ 4) (b0 : b ≤ 10) (c0 : c ≤ 6) {f k v : Int} (f0 : 0 ≤ f) (f1 : f < c) (k0 : 0 ≤ k) (k1 : k < 4) (v0 : 0 ≤ v) (v1 : v ≤ 90) (a1 : 0 ≤ a) (b1 : 0 ≤ b) : dI σ0 h a b c (mSet N (94 + 10 * f + (4 + k)) v) E m (zsi σ (E (800 + f.toNat)) (4 + k) v) := by
  obtain ⟨qH, qS, qF, qP, qZ⟩ := d.2.2.2.1
  refine ⟨d.1, d.2.1.i8 a0 b0 c0 f0 f1 (by omega) (by omega), d.2.2.1, ⟨fun x x0 x1 => ?_, fun x x0 x1 => ?_, fun x x0 x1 => ?_, fun x p x0 x1 p0 p1 => ?_, fun j hj => ?_⟩, zGw_si d.2.2.2.2.1 (d.ge (d.r8 f f0 f1).2.1 hz), d.2.2.2.2.2⟩
  · rw [mHs_o (by omega), mHs_o (by omega)]; exact qH x x0 x1
  · rw [mSs_o (by omega), mSs_o (by omega), mSs_o (by omega), mSs_o (by omega), mSs_o (by omega), mSs_o (by omega), mSs_o (by omega), mSs_o (by omega)]; exact qS x x0 x1
  · have q := qF x x0 x1
    rw [mFs_o (by omega), mFs_o (by omega), mFs_o (by omega), mFs_o (by omega), mFs_o (by omega), mFs_o (by omega)]
    refine ⟨q.1, q.2.1, q.2.2.1, q.2.2.2.1, q.2.2.2.2.1, q.2.2.2.2.2.1, q.2.2.2.2.2.2.1, q.2.2.2.2.2.2.2.1, q.2.2.2.2.2.2.2.2.1, q.2.2.2.2.2.2.2.2.2.1, fun j j0 j1 => ?_⟩
    by_cases e : x = f ∧ j = k
    · obtain ⟨e1, e2⟩ := e
      subst e1 e2
      have : mF (mSet N (94 + 10 * x + (4 + j)) v) x (4 + j) = v := if_pos rfl
      rw [this]; omega
    · rw [mFs_o (by omega)]; exact q.2.2.2.2.2.2.2.2.2.2 j j0 j1
  · rw [mSet_o (by omega)]; exact qP x p x0 x1 p0 p1
  · rw [mSet_o (by omega)]; exact qZ j hj
theorem dI.i9 (d : dI σ0 h a b c N E m σ) (hz : zn σ < zbg) (a0 : a ≤ 4) (b0 : b ≤ 10) (c0 : c ≤ 6) {f k v : Int} (f0 : 0 ≤ f) (f1 : f < 6) (k0 : 0 ≤ k) (k1 : k < 5) (v0 : 0 ≤ v) (v1 : v ≤ 3) (a1 : 0 ≤ a) (b1 : 0 ≤ b) (c1 : 0 ≤ c) : dI σ0 h a b c (mSet N (154 + 5 * f + k) v) E m (zsi σ (E (900 + f.toNat)) k v) := by
  obtain ⟨qH, qS, qF, qP, qZ⟩ := d.2.2.2.1
  refine ⟨d.1, d.2.1.i9 a0 b0 c0 f0 f1 k0 k1, d.2.2.1, ⟨fun x x0 x1 => ?_, fun x x0 x1 => ?_, fun x x0 x1 => ?_, fun x p x0 x1 p0 p1 => ?_, fun j hj => ?_⟩, zGw_si d.2.2.2.2.1 (d.ge (d.r9 f f0 f1).2.1 hz), d.2.2.2.2.2⟩
  · rw [mHs_o (by omega), mHs_o (by omega)]; exact qH x x0 x1
  · rw [mSs_o (by omega), mSs_o (by omega), mSs_o (by omega), mSs_o (by omega), mSs_o (by omega), mSs_o (by omega), mSs_o (by omega), mSs_o (by omega)]; exact qS x x0 x1
  · have q := qF x x0 x1
    rw [mFs_o (by omega), mFs_o (by omega), mFs_o (by omega), mFs_o (by omega), mFs_o (by omega), mFs_o (by omega)]
    refine ⟨q.1, q.2.1, q.2.2.1, q.2.2.2.1, q.2.2.2.2.1, q.2.2.2.2.2.1, q.2.2.2.2.2.2.1, q.2.2.2.2.2.2.2.1, q.2.2.2.2.2.2.2.2.1, q.2.2.2.2.2.2.2.2.2.1, fun j j0 j1 => ?_⟩
    rw [mFs_o (by omega)]; exact q.2.2.2.2.2.2.2.2.2.2 j j0 j1
  · by_cases e : x = f ∧ p = k
    · obtain ⟨e1, e2⟩ := e
      subst e1 e2
      rw [mSet_at]; omega
    · rw [mSet_o (by omega)]; exact qP x p x0 x1 p0 p1
  · rw [mSet_o (by omega)]; exact qZ j hj
def fN (N : Int → Int) (a b c e : Int) : Int → Int := fun j => if j = 0 then a else if j = 1 then b else if j = 2 then c else if j = 4 then e else N j
theorem fN_o {e j : Int} (hj : j ≠ 0 ∧ j ≠ 1 ∧ j ≠ 2 ∧ j ≠ 4) : fN N a b c e j = N j := by
  unfold fN
  rw [if_neg hj.1, if_neg hj.2.1, if_neg hj.2.2.1, if_neg hj.2.2.2]
theorem fN_0 {e : Int} : fN N a b c e 0 = a ∧ fN N a b c e 1 = b ∧ fN N a b c e 2 = c ∧ fN N a b c e 4 = e ∧ fN N a b c e 3 = N 3 ∧ fN N a b c e 5 = N 5 := ⟨rfl, rfl, rfl, rfl, rfl, rfl⟩
theorem fN_H {e x k : Int} (h : 0 ≤ x) (k0 : 0 ≤ k) : mH (fN N a b c e) x k = mH N x k := fN_o (by omega)
theorem fN_S {e x k : Int} (h : 0 ≤ x) (k0 : 0 ≤ k) : mS (fN N a b c e) x k = mS N x k := fN_o (by omega)
theorem fN_F {e x k : Int} (h : 0 ≤ x) (k0 : 0 ≤ k) : mF (fN N a b c e) x k = mF N x k := fN_o (by omega)
theorem fN_eO {e : Int} (d : dI σ0 h a b c N E m σ) (g : dC σ h a b c e) (a0 : a ≤ 4) (c0 : c ≤ 6) : eO (fN N a b c e) σ E := by
  obtain ⟨e0, ⟨sh, c6, c7, c8, c9, c10, c11⟩, -, q, -⟩ := d
  obtain ⟨f0, f1, f2, f4, f3, f5⟩ := fN_0 (N := N) (a := a) (b := b) (c := c) (e := e)
  obtain ⟨qH, qS, qF, qP, qZ⟩ := q
  refine ⟨by rw [f0, f1, f2]; exact sh, ⟨?_, ?_, ?_, ?_, ?_, ?_⟩, fun x k x0 x1 k0 k1 => ?_, fun x k x0 x1 k0 k1 => ?_, fun x k x0 x1 hk => ?_, fun f p x0 x1 p0 p1 => ?_, fun x f x0 x1 k0 k1 => ?_, fun k k0 k1 => ?_⟩
  · rw [e0, f0]; exact g.1
  · rw [e0, f1]; exact g.2.1
  · rw [e0, f2]; exact g.2.2.1
  · rw [e0, f3, qZ 3 (by omega)]; exact g.2.2.2.1
  · rw [e0, f4]; exact g.2.2.2.2.1
  · rw [e0, f5, qZ 5 (by omega)]; exact g.2.2.2.2.2
  · rw [f0] at x1; rw [fN_H x0 k0]; exact c6 x k x0 x1 k0 k1
  · rw [f1] at x1; rw [fN_S x0 k0]; exact c7 x k x0 x1 k0 k1
  · rw [f2] at x1
    have q3 := qF x x0 x1
    rw [fN_F x0 (by omega)] at hk
    rw [fN_F x0 (by omega)]
    exact c8 x k x0 x1 (by omega) (by omega)
  · rw [f2] at x1; rw [f0] at p1
    rw [c9 f (p + 1) x0 (by omega) (by omega) (by omega)]
    show N (154 + 5 * f + (p + 1)) = fN N a b c e (154 + 5 * f + p + 1)
    rw [fN_o (by omega), show 154 + 5 * f + (p + 1) = 154 + 5 * f + p + 1 by omega]
  · rw [f0] at x1; rw [f2] at k1
    rw [c10 x f x0 (by omega) k0 (by omega)]
    show 0 = fN N a b c e (184 + 6 * x + f)
    rw [fN_o (by omega), qZ _ (by omega)]
  · rw [c11 k k0 k1, fN_o (by omega), qZ _ (by omega)]
theorem fN_mV {e : Int} (q : dQ a b c N) (a0 : 0 ≤ a ∧ a ≤ 3) (b0 : 0 ≤ b ∧ b ≤ 6) (c0 : 0 ≤ c ∧ c ≤ 4) (e0 : 0 ≤ e ∧ e ≤ 999) : mV (fN N a b c e) := by
  obtain ⟨f0, f1, f2, f4, f3, f5⟩ := fN_0 (N := N) (a := a) (b := b) (c := c) (e := e)
  obtain ⟨qH, qS, qF, qP, qZ⟩ := q
  have z3 := qZ 3 (by omega)
  have hh : ∀ x, 0 ≤ x → x < 4 → (0 ≤ mH N x 0 ∧ mH N x 0 ≤ 99 ∧ 0 ≤ mH N x 1 ∧ mH N x 1 ≤ 100) := fun x x0 x1 => by
    by_cases cc : x < a
    · have := qH x x0 cc; omega
    · have e1 : mH N x 0 = 0 := qZ _ (by omega)
      have e2 : mH N x 1 = 0 := qZ _ (by omega)
      omega
  have ss : ∀ s, 0 ≤ s → s < 10 → 0 ≤ mS N s 0 ∧ mS N s 0 < 4 ∧ 0 ≤ mS N s 1 ∧ mS N s 1 ≤ 500 ∧ 0 ≤ mS N s 2 ∧ mS N s 2 ≤ 6 ∧ 0 ≤ mS N s 3 ∧ mS N s 3 ≤ 9999 ∧ -1 ≤ mS N s 4 ∧ mS N s 4 < 6 ∧ -1 ≤ mS N s 5 ∧ mS N s 5 < 6 ∧ 0 ≤ mS N s 6 ∧ mS N s 6 < 7 ∧ 0 ≤ mS N s 7 ∧ mS N s 7 ≤ 1 := fun x x0 x1 => by
    by_cases cc : x < b
    · have := qS x x0 cc; omega
    · have g : ∀ k, 0 ≤ k → k < 8 → mS N x k = 0 := fun k k0 k1 => qZ _ (by omega)
      have g0 := g 0 (by omega) (by omega); have g1 := g 1 (by omega) (by omega); have g2 := g 2 (by omega) (by omega); have g3 := g 3 (by omega) (by omega); have g4 := g 4 (by omega) (by omega); have g5 := g 5 (by omega) (by omega); have g6 := g 6 (by omega) (by omega); have g7 := g 7 (by omega) (by omega)
      omega
  have ff : ∀ f, 0 ≤ f → f < 6 → (0 ≤ mF N f 0 ∧ mF N f 0 ≤ 9999 ∧ 0 ≤ mF N f 1 ∧ mF N f 1 ≤ 100 ∧ 0 ≤ mF N f 2 ∧ mF N f 2 ≤ 9999 ∧ 0 ≤ mF N f 3 ∧ mF N f 3 ≤ 4 ∧ (f < c → 1 ≤ mF N f 3) ∧ -1 ≤ mF N f 8 ∧ mF N f 8 ≤ 0 ∧ 0 ≤ mF N f 9 ∧ mF N f 9 ≤ 0) ∧ ∀ k, 0 ≤ k → k < 4 → 0 ≤ mF N f (4 + k) ∧ mF N f (4 + k) ≤ 90 := fun x x0 x1 => by
    by_cases cc : x < c
    · have q := qF x x0 cc; exact ⟨by omega, q.2.2.2.2.2.2.2.2.2.2⟩
    · have g : ∀ k, 0 ≤ k → k < 10 → mF N x k = 0 := fun k k0 k1 => qZ _ (by omega)
      have g0 := g 0 (by omega) (by omega); have g1 := g 1 (by omega) (by omega); have g2 := g 2 (by omega) (by omega); have g3 := g 3 (by omega) (by omega); have g8 := g 8 (by omega) (by omega); have g9 := g 9 (by omega) (by omega)
      exact ⟨by omega, fun k k0 k1 => by have := g (4 + k) (by omega) (by omega); omega⟩
  refine ⟨by omega, fun j => ?_, fun x x0 x1 => ?_, fun x x0 x1 => ?_, fun x k x0 x1 k0 k1 => ?_, fun x x0 x1 => ?_, fun x f x0 x1 k0 k1 => ?_, fun f p x0 x1 p0 p1 => ?_⟩
  · by_cases w0 : j = 0
    · subst w0; rw [f0]; constructor <;> omega
    by_cases w1 : j = 1
    · subst w1; rw [f1]; constructor <;> omega
    by_cases w2 : j = 2
    · subst w2; rw [f2]; constructor <;> omega
    by_cases w4 : j = 4
    · subst w4; rw [f4]; constructor <;> omega
    rw [fN_o ⟨w0, w1, w2, w4⟩]
    by_cases w : j < 6 ∨ 184 ≤ j
    · rw [qZ j (by omega)]; decide
    by_cases wh : j < 14
    · have q := hh ((j - 6) / 2) (by omega) (by omega)
      have : (j - 6) % 2 = 0 ∨ (j - 6) % 2 = 1 := by omega
      rcases this with t | t
      · have e1 : mH N ((j - 6) / 2) 0 = N j := by unfold mH; congr 1; omega
        constructor <;> omega
      · have e1 : mH N ((j - 6) / 2) 1 = N j := by unfold mH; congr 1; omega
        constructor <;> omega
    by_cases ws : j < 94
    · have q := ss ((j - 14) / 8) (by omega) (by omega)
      have g : ∀ k, (j - 14) % 8 = k → mS N ((j - 14) / 8) k = N j := fun k hk => by unfold mS; congr 1; omega
      have : (j - 14) % 8 = 0 ∨ (j - 14) % 8 = 1 ∨ (j - 14) % 8 = 2 ∨ (j - 14) % 8 = 3 ∨ (j - 14) % 8 = 4 ∨ (j - 14) % 8 = 5 ∨ (j - 14) % 8 = 6 ∨ (j - 14) % 8 = 7 := by omega
      rcases this with t | t | t | t | t | t | t | t <;> have e1 := g _ t <;> constructor <;> omega
    by_cases wf : j < 154
    · have q := ff ((j - 94) / 10) (by omega) (by omega)
      have g : ∀ k, (j - 94) % 10 = k → mF N ((j - 94) / 10) k = N j := fun k hk => by unfold mF; congr 1; omega
      have t0 := q.2 ((j - 94) % 10 - 4)
      have : (j - 94) % 10 = 0 ∨ (j - 94) % 10 = 1 ∨ (j - 94) % 10 = 2 ∨ (j - 94) % 10 = 3 ∨ (j - 94) % 10 = 8 ∨ (j - 94) % 10 = 9 ∨ (4 ≤ (j - 94) % 10 ∧ (j - 94) % 10 < 8) := by omega
      rcases this with t | t | t | t | t | t | t
      all_goals first | (have e1 := g _ t; constructor <;> omega) | skip
      have e1 : mF N ((j - 94) / 10) (4 + ((j - 94) % 10 - 4)) = N j := g _ (by omega)
      have t1 := t0 (by omega) (by omega)
      constructor <;> omega
    have q := qP ((j - 154) / 5) ((j - 154) % 5) (by omega) (by omega) (by omega) (by omega)
    rw [show 154 + 5 * ((j - 154) / 5) + (j - 154) % 5 = j by omega] at q
    constructor <;> omega
  · have := ss x x0 x1
    repeat rw [fN_S x0 (by omega)]
    exact this
  · have q := (ff x x0 x1).1
    rw [f2, f3, z3]
    repeat rw [fN_F x0 (by omega)]
    omega
  · rw [fN_F x0 (by omega)]; exact (ff x x0 x1).2 k k0 k1
  · repeat rw [fN_H x0 (by omega)]
    exact hh x x0 x1
  · have e1 : mR (fN N a b c e) x f = 0 := by
      show fN N a b c e (184 + 6 * x + f) = 0
      rw [fN_o (by omega), qZ _ (by omega)]
    rw [e1, f3, z3]; omega
  · have e1 : mP (fN N a b c e) f p = N (154 + 5 * f + (p + 1)) := by
      show fN N a b c e (154 + 5 * f + p + 1) = _
      rw [fN_o (by omega)]; congr 1; omega
    rw [e1]
    have := qP f (p + 1) x0 x1 (by omega) (by omega)
    omega
theorem fN_dN {e : Int} (q : dQ a b c N) (a0 : 1 ≤ a ∧ a ≤ 3) (b0 : 0 ≤ b ∧ b ≤ 6) (c0 : 1 ≤ c ∧ c ≤ 4) (e0 : 0 ≤ e ∧ e ≤ 999) (h3 : ∀ x, mCn (fN N a b c e) x (nS (fN N a b c e)) ≤ 3) : dN (fN N a b c e) := by
  obtain ⟨f0, f1, f2, f4, f3, f5⟩ := fN_0 (N := N) (a := a) (b := b) (c := c) (e := e)
  obtain ⟨qH, qS, qF, qP, qZ⟩ := q
  have z3 := qZ 3 (by omega)
  have z5 := qZ 5 (by omega)
  refine ⟨by omega, fun x x0 x1 => ?_, fun x x0 x1 => ?_, fun x x0 x1 => ?_, fun f p x0 x1 p0 p1 => ?_, fun x f x0 x1 k0 k1 => ?_, fun k k0 k1 => ?_, h3⟩
  · rw [f0] at x1; repeat rw [fN_H x0 (by omega)]
    exact qH x x0 x1
  · rw [f1] at x1; repeat rw [fN_S x0 (by omega)]
    rw [f0]; exact qS x x0 x1
  · rw [f2] at x1
    have q := qF x x0 x1
    rw [fN_F x0 (by omega), fN_F x0 (by omega), fN_F x0 (by omega), fN_F x0 (by omega), fN_F x0 (by omega), fN_F x0 (by omega)]
    refine ⟨q.1, q.2.1, q.2.2.1, q.2.2.2.1, q.2.2.2.2.1, q.2.2.2.2.2.1, q.2.2.2.2.2.2.1, q.2.2.2.2.2.2.2.1, q.2.2.2.2.2.2.2.2.1, q.2.2.2.2.2.2.2.2.2.1, fun k k0 k1 => ?_⟩
    rw [fN_F x0 (by omega)]; exact q.2.2.2.2.2.2.2.2.2.2 k k0 k1
  · rw [f2] at x1; rw [f0] at p1
    rw [fN_o (by omega)]; exact qP f p x0 (by omega) p0 (by omega)
  · rw [f0] at x1; rw [f2] at k1
    show fN N a b c e (184 + 6 * x + f) = 0
    rw [fN_o (by omega), qZ _ (by omega)]
  · rw [fN_o (by omega), qZ _ (by omega)]
theorem dQ_0 : dQ 0 0 0 (fun _ => 0) := ⟨fun x x0 x1 => absurd x1 (by omega), fun x x0 x1 => absurd x1 (by omega), fun x x0 x1 => absurd x1 (by omega), fun f p _ _ _ _ => ⟨show (0 : Int) ≤ 0 by decide, show (0 : Int) ≤ 3 by decide⟩, fun j _ => rfl⟩
end ZI3

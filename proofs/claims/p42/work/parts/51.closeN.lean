/-! a week closed: the numbers -/
section ZK1
variable {N : Int → Int}
/-- houses and screens are the same -/
def agr (N N' : Int → Int) : Prop := ∀ j, j < 94 → N' j = N j
theorem agr.S {N' : Int → Int} (h : agr N N') {s k : Int} (s1 : s < 10) (k1 : k < 8) : mS N' s k = mS N s k := h _ (by omega)
theorem agr.H {N' : Int → Int} (h : agr N N') {x k : Int} (s1 : x < 4) (k1 : k < 2) : mH N' x k = mH N x k := h _ (by omega)
theorem agr.eS {N' : Int → Int} (h : agr N N') : nS N' = nS N := congrArg Int.toNat (h 1 (by omega))
theorem agr.eH {N' : Int → Int} (h : agr N N') : nH N' = nH N := congrArg Int.toNat (h 0 (by omega))
theorem agr.sh {N' : Int → Int} (h : agr N N') {s : Int} (s1 : s < 10) (day : Int) : mSh N' s day = mSh N s day := by
  unfold mSh
  rw [h.S (k := 5) s1 (by omega), h.S (k := 6) s1 (by omega), h.S (k := 4) s1 (by omega)]
theorem agr.need {N' : Int → Int} (h : agr N N') (hV : mV N) (x f : Int) : mNeed N' x f = mNeed N x f := by
  have hs := nS_eq hV
  refine zmax_congr fun i _ => ?_
  unfold mCnt mCntN
  rw [h.eS]
  exact zsum_congr fun s hs2 => by rw [h.S (k := 0) (by omega) (by omega), h.sh (by omega)]
theorem agr.price {N' : Int → Int} (h : agr N N') (hV : mV N) {s : Int} (s0 : 0 ≤ s) (s1 : s < 10) : mPrice N' s = mPrice N s := by
  have := hV.s s s0 s1
  unfold mPrice
  rw [h.S (k := 0) s1 (by omega), h.H (by omega) (by omega)]
theorem agr.cap {N' : Int → Int} (h : agr N N') {s : Int} (s1 : s < 10) : mCap N' s = mCap N s := by
  unfold mCap
  rw [h.S (k := 1) s1 (by omega), h.S (k := 2) s1 (by omega)]
theorem mV_mid {N' : Int → Int} (hV : mV N) (a : agr N N') (hp : ∀ j, 154 ≤ j → j < 184 → N' j = N j) (hf : ∀ f k, 0 ≤ f → f < 6 → 0 ≤ k → k < 8 → mF N' f k = mF N f k) (h8 : ∀ f, 0 ≤ f → f < 6 → -1 ≤ mF N' f 8 ∧ mF N' f 8 ≤ N 3) (hr : ∀ h f, 0 ≤ h → h < 4 → 0 ≤ f → f < 6 → 0 ≤ mR N' h f ∧ mR N' h f ≤ N 3 + 1) (b : ∀ j, zrg (N' j)) : mV N' := by
  refine ⟨by rw [a 0 (by omega), a 1 (by omega), a 2 (by omega), a 3 (by omega)]; exact hV.n, b, fun s s0 s1 => ?_, fun f f0 f1 => ?_, fun f k f0 f1 k0 k1 => ?_, fun h h0 h1 => ?_, fun h f h0 h1 f0 f1 => ?_, fun f p f0 f1 p0 p1 => ?_⟩
  · have q := hV.s s s0 s1
    rw [a.S (k := 0) s1 (by omega), a.S (k := 1) s1 (by omega), a.S (k := 2) s1 (by omega), a.S (k := 3) s1 (by omega), a.S (k := 4) s1 (by omega), a.S (k := 5) s1 (by omega), a.S (k := 6) s1 (by omega), a.S (k := 7) s1 (by omega)]
    exact q
  · have q := hV.f f f0 f1
    have r := h8 f f0 f1
    rw [hf f 0 f0 f1 (by omega) (by omega), hf f 1 f0 f1 (by omega) (by omega), hf f 2 f0 f1 (by omega) (by omega), hf f 3 f0 f1 (by omega) (by omega), a 2 (by omega), a 3 (by omega)]
    omega
  · rw [hf f (4 + k) f0 f1 (by omega) (by omega)]; exact hV.t f k f0 f1 k0 k1
  · rw [a.H h1 (by omega), a.H h1 (by omega)]; exact hV.h h h0 h1
  · rw [a 3 (by omega)]; exact hr h f h0 h1 f0 f1
  · rw [show mP N' f p = mP N f p from hp _ (by omega) (by omega)]; exact hV.p f p f0 f1 p0 p1
def clA (N : Int → Int) (k : Int) : Int := if k = 0 then cAllN N (nS N) else if k = 1 then zsum (fun h => cShN N h (nF N)) (nH N) else if k = 2 then mRent N (-1) else N 4 * N 5
def kwN (N am : Int → Int) (x : Nat) : Int → Int := fun j => if 208 ≤ j ∧ j < 208 + (x : Int) then N j + am (j - 208) else if 212 ≤ j ∧ j < 216 then am (j - 212) else if j = 216 then 0 else if 217 ≤ j ∧ j < 312 then N (j - 5) else N j
def clB (N : Int → Int) (f : Int) : Nat → Int
  | 0 => mF N f 8
  | n + 1 => if 0 < mNeed N n f ∧ clB N f n = -1 then N 3 else clB N f n
def kfF (N : Int → Int) (x t n : Nat) (f k : Int) : Int := if k = 9 then (if f < ((x + t : Nat) : Int) then mF N f 9 + cFt N f else mF N f 9) else if k = 8 then (if f < (x : Int) then clB N f (nH N) else if f = (x : Int) then clB N f n else mF N f 8) else mF N f k
def kfR (N : Int → Int) (x n : Nat) (h f : Int) : Int := if (f < (x : Int) ∧ h < (nH N : Int)) ∨ (f = (x : Int) ∧ h < (n : Int)) then mR N h f + zb (0 < mNeed N h f) else mR N h f
def kfG (N : Int → Int) (x t n : Nat) : Int → Int := fun j => if 94 ≤ j ∧ j < 154 then kfF N x t n ((j - 94) / 10) ((j - 94) % 10) else if 184 ≤ j ∧ j < 208 then kfR N x n ((j - 184) / 6) ((j - 184) % 6) else kwN N (clA N) 4 j
def hFl (N : Int → Int) (s : Int) : Int := if mHold N s then mSh N s 6 else -1
def hsS (N : Int → Int) (y : Nat) (s k : Int) : Int := if s < (y : Int) ∧ 4 ≤ k then (if k = 4 then hFl N s else if k = 5 then -1 else if k = 6 then 0 else zb (mHold N s)) else mS N s k
def hsG (N : Int → Int) (y : Nat) : Int → Int := fun j => if 14 ≤ j ∧ j < 94 then hsS N y ((j - 14) / 8) ((j - 14) % 8) else if j = 216 then zsum (fun s => zb (mHold N s)) y else kfG N (nF N) 0 0 j
def clN (N : Int → Int) : Int → Int := fun j => if j = 3 then N 3 + 1 else if j = 5 then 0 else hsG N (nS N) j
theorem kwN_a {am : Int → Int} {x : Nat} {j : Int} (hj : j < 208) : kwN N am x j = N j := by
  unfold kwN
  rw [if_neg (by omega), if_neg (by omega), if_neg (by omega), if_neg (by omega)]
theorem kfG_F {x t n : Nat} {f k : Int} (f0 : 0 ≤ f) (f1 : f < 6) (k0 : 0 ≤ k) (k1 : k < 10) : mF (kfG N x t n) f k = kfF N x t n f k := by
  show kfG N x t n (94 + 10 * f + k) = _
  unfold kfG
  rw [if_pos (by omega), show (94 + 10 * f + k - 94) / 10 = f by omega, show (94 + 10 * f + k - 94) % 10 = k by omega]
theorem kfG_R {x t n : Nat} {h f : Int} (h0 : 0 ≤ h) (h1 : h < 4) (f0 : 0 ≤ f) (f1 : f < 6) : mR (kfG N x t n) h f = kfR N x n h f := by
  show kfG N x t n (184 + 6 * h + f) = _
  unfold kfG
  rw [if_neg (by omega), if_pos (by omega), show (184 + 6 * h + f - 184) / 6 = h by omega, show (184 + 6 * h + f - 184) % 6 = f by omega]
theorem kfG_o {x t n : Nat} {j : Int} (h : j < 94 ∨ (154 ≤ j ∧ j < 184) ∨ 208 ≤ j) : kfG N x t n j = kwN N (clA N) 4 j := by
  unfold kfG
  rw [if_neg (by omega), if_neg (by omega)]
theorem kfG_agr (x t n : Nat) : agr N (kfG N x t n) := fun j hj => (kfG_o (by omega)).trans (kwN_a (by omega))
theorem hsG_S {y : Nat} {s k : Int} (s0 : 0 ≤ s) (s1 : s < 10) (k0 : 0 ≤ k) (k1 : k < 8) : mS (hsG N y) s k = hsS N y s k := by
  show hsG N y (14 + 8 * s + k) = _
  unfold hsG
  rw [if_pos (by omega), show (14 + 8 * s + k - 14) / 8 = s by omega, show (14 + 8 * s + k - 14) % 8 = k by omega]
theorem hsG_o {y : Nat} {j : Int} (h : j < 14 ∨ 94 ≤ j) (h2 : j ≠ 216) : hsG N y j = kfG N (nF N) 0 0 j := by
  unfold hsG
  rw [if_neg (by omega), if_neg h2]
theorem clB_b (hV : mV N) {f : Int} (f0 : 0 ≤ f) (f1 : f < 6) : ∀ n : Nat, (clB N f n = mF N f 8 ∨ clB N f n = N 3) := by
  intro n
  induction n with
  | zero => exact Or.inl rfl
  | succ n ih =>
    show (if 0 < mNeed N n f ∧ clB N f n = -1 then N 3 else clB N f n) = _ ∨ (if 0 < mNeed N n f ∧ clB N f n = -1 then N 3 else clB N f n) = _
    by_cases c : 0 < mNeed N n f ∧ clB N f n = -1
    · rw [if_pos c]; exact Or.inr rfl
    · rw [if_neg c]; exact ih
theorem clB_r (hV : mV N) {f : Int} (f0 : 0 ≤ f) (f1 : f < 6) (n : Nat) : -1 ≤ clB N f n ∧ clB N f n ≤ N 3 := by
  have q := hV.f f f0 f1
  have hn := hV.n
  rcases clB_b hV f0 f1 n with e | e <;> omega
end ZK1

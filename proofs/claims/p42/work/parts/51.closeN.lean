/-! a week closed: the numbers -/
section ZK1
variable {N : Int → Int}
/-- houses and screens are the same -/
def agr (N N' : Int → Int) : Prop := ∀ j, j < 94 → N' j = N j
theorem agr.S {N' : Int → Int} (h : agr N N') {s k : Int} (s1 : s < 10) (k1 : k < 8) : mS N' s k = mS N s k := h _ (by omega)
theorem agr.H {N' : Int → Int} (h : agr N N') {x k : Int} (s1 : x < 4) (k1 : k < 2) : mH N' x k = mH N x k := h _ (by omega)
theorem agr.eS {N' : Int → Int} (h : agr N N') : nS N' = nS N := congrArg Int.toNat (h 1 (by omega))
theorem agr.eH {N' : Int → Int} (h : agr N N') : nH N' = nH N := congrArg Int.toNat (h 0 (by omega))
theorem agr.eF {N' : Int → Int} (h : agr N N') : nF N' = nF N := congrArg Int.toNat (h 2 (by omega))
theorem agr.sh {N' : Int → Int} (h : agr N N') {s : Int} (s1 : s < 10) (day : Int) : mSh N' s day = mSh N s day := by
  unfold mSh
  rw [h.S (k := 5) s1 (by omega), h.S (k := 6) s1 (by omega), h.S (k := 4) s1 (by omega)]
theorem agr.need {N' : Int → Int} (h : agr N N') (hV : mV N) (x f : Int) : mNeed N' x f = mNeed N x f := by
  have hs := nS_eq hV
  refine zmax_congr fun i _ => ?_
  unfold mCnt mCntN
  rw [h.eS]
  exact zsum_congr fun s hs2 => by rw [h.S (k := 0) (by omega) (by omega), h.sh (by omega)]
theorem agr.price {N' : Int → Int} (h : agr N N') (hV : mV N) {s : Int} (s0 : 0 ≤ s) (s1 : s < 10) : mPrice N' s = mPrice N s := by
  have := hV.s s s0 s1
  unfold mPrice
  rw [h.S (k := 0) s1 (by omega), h.H (by omega) (by omega)]
theorem agr.cap {N' : Int → Int} (h : agr N N') {s : Int} (s1 : s < 10) : mCap N' s = mCap N s := by
  unfold mCap
  rw [h.S (k := 1) s1 (by omega), h.S (k := 2) s1 (by omega)]
theorem agr.by {N' g : Int → Int} (h : agr N N') (hV : mV N) {s : Int} (s0 : 0 ≤ s) (s1 : s < 10) (f : Int) : gBy N' g s f = gBy N g s f := by
  show gByN N' g s f 7 * mPrice N' s = gByN N g s f 7 * mPrice N s
  rw [h.price hV s0 s1, show gByN N' g s f 7 = gByN N g s f 7 from zsum_congr fun i _ => by rw [h.sh s1]]
theorem agr.gin {N' g : Int → Int} (h : agr N N') (hV : mV N) (x f : Int) : gIn N' g x f = gIn N g x f := by
  have hs := nS_eq hV
  show gInN N' g x f (nS N') = gInN N g x f _
  rw [h.eS]
  exact zsum_congr fun s hs2 => by rw [h.S (k := 0) (by omega) (by omega), h.by hV (by omega) (by omega)]
theorem agr.rent {N' : Int → Int} (h : agr N N') (hV : mV N) (x : Int) : mRent N' x = mRent N x := by
  have hs := nS_eq hV
  show mRentN N' x (nS N') = mRentN N x _
  rw [h.eS]
  exact zsum_congr fun s hs2 => by rw [h.S (k := 0) (by omega) (by omega), h.S (k := 3) (by omega) (by omega)]
theorem agr.days {N' : Int → Int} (h : agr N N') {s : Int} (s1 : s < 10) (f : Int) : mDays N' s f = mDays N s f := zsum_congr fun i _ => by rw [h.sh s1]
theorem agr.hold {N' g : Int → Int} (h : agr N N') (hV : mV N) {s : Int} (s0 : 0 ≤ s) (s1 : s < 10) : mHoldM N' g s ↔ mHoldM N g s := by
  have := hV.s s s0 s1
  unfold mHoldM
  rw [h.sh s1, h.S (k := 0) s1 (by omega), h.H (k := 1) (by omega) (by omega), h.days s1, h.cap s1, h.price hV s0 s1, h.by hV s0 s1]
theorem agr_shares {N' g : Int → Int} (h : ∀ j, j < 208 → N' j = N j) (hV : mV N) {x : Int} (x0 : 0 ≤ x) (x1 : x < 4) : gShares N' g x = gShares N g x := by
  have a : agr N N' := fun j hj => h j (by omega)
  have hf := nF_eq hV
  show gSharesN N' g x (nF N') = gSharesN N g x _
  rw [a.eF]
  refine zsum_congr fun f hf2 => ?_
  have q := hV.f f (by omega) (by omega)
  have r := hV.r x f x0 x1 (by omega) (by omega)
  have e3 : mF N' f 3 = mF N f 3 := h _ (by omega)
  have e2 : mF N' f 2 = mF N f 2 := h _ (by omega)
  have er : mR N' x f = mR N x f := h _ (by omega)
  have ei : mIdx N' x f = mIdx N x f := by unfold mIdx; rw [er, e3]
  have ib : mIdx N x f ≤ 3 := by unfold mIdx; omega
  have e4 : mF N' f (4 + mIdx N x f) = mF N f (4 + mIdx N x f) := h _ (by omega)
  unfold gShare mShare
  rw [a.need hV, a.gin hV, ei, e4, e2]
theorem mV_mid {N' : Int → Int} (hV : mV N) (a : agr N N') (hp : ∀ j, 154 ≤ j → j < 184 → N' j = N j) (hf : ∀ f k, 0 ≤ f → f < 6 → 0 ≤ k → k < 8 → mF N' f k = mF N f k) (h8 : ∀ f, 0 ≤ f → f < 6 → -1 ≤ mF N' f 8 ∧ mF N' f 8 ≤ N 3) (hr : ∀ h f, 0 ≤ h → h < 4 → 0 ≤ f → f < 6 → 0 ≤ mR N' h f ∧ mR N' h f ≤ N 3 + 1) (b : ∀ j, zrg (N' j)) : mV N' := by
  refine ⟨by rw [a 0 (by omega), a 1 (by omega), a 2 (by omega), a 3 (by omega)]; exact hV.n, b, fun s s0 s1 => ?_, fun f f0 f1 => ?_, fun f k f0 f1 k0 k1 => ?_, fun h h0 h1 => ?_, fun h f h0 h1 f0 f1 => ?_, fun f p f0 f1 p0 p1 => ?_⟩
  · have q := hV.s s s0 s1
    rw [a.S (k := 0) s1 (by omega), a.S (k := 1) s1 (by omega), a.S (k := 2) s1 (by omega), a.S (k := 3) s1 (by omega), a.S (k := 4) s1 (by omega), a.S (k := 5) s1 (by omega), a.S (k := 6) s1 (by omega), a.S (k := 7) s1 (by omega)]
    exact q
  · have q := hV.f f f0 f1
    have r := h8 f f0 f1
    rw [hf f 0 f0 f1 (by omega) (by omega), hf f 1 f0 f1 (by omega) (by omega), hf f 2 f0 f1 (by omega) (by omega), hf f 3 f0 f1 (by omega) (by omega), a 2 (by omega), a 3 (by omega)]
    omega
  · rw [hf f (4 + k) f0 f1 (by omega) (by omega)]; exact hV.t f k f0 f1 k0 k1
  · rw [a.H h1 (by omega), a.H h1 (by omega)]; exact hV.h h h0 h1
  · rw [a 3 (by omega)]; exact hr h f h0 h1 f0 f1
  · rw [show mP N' f p = mP N f p from hp _ (by omega) (by omega)]; exact hV.p f p f0 f1 p0 p1
def clA (N : Int → Int) (k : Int) : Int := if k = 0 then cAllN N (nS N) else if k = 1 then zsum (fun h => cShN N h (nF N)) (nH N) else if k = 2 then mRent N (-1) else N 4 * N 5
def shN (N : Int → Int) (x : Nat) : Int → Int := fun j => if 312 - (x : Int) ≤ j ∧ j < 312 then N (j - 5) else N j
def kwN (N am : Int → Int) (x : Nat) : Int → Int := fun j => if 208 ≤ j ∧ j < 208 + (x : Int) then N j + am (j - 208) else if 212 ≤ j ∧ j < 216 then am (j - 212) else if j = 216 then 0 else if 217 ≤ j ∧ j < 312 then N (j - 5) else N j
def clB (N : Int → Int) (f : Int) : Nat → Int
  | 0 => mF N f 8
  | n + 1 => if 0 < mNeed N n f ∧ clB N f n = -1 then N 3 else clB N f n
def kfF (N : Int → Int) (x t n : Nat) (f k : Int) : Int := if k = 9 then (if f < ((x + t : Nat) : Int) then mF N f 9 + cFt N f else mF N f 9) else if k = 8 then (if f < (x : Int) then clB N f (nH N) else if f = (x : Int) then clB N f n else mF N f 8) else mF N f k
def kfR (N : Int → Int) (x n : Nat) (h f : Int) : Int := if (f < (x : Int) ∧ h < (nH N : Int)) ∨ (f = (x : Int) ∧ h < (n : Int)) then mR N h f + zb (0 < mNeed N h f) else mR N h f
def kfG (N : Int → Int) (x t n : Nat) : Int → Int := fun j => if 94 ≤ j ∧ j < 154 then kfF N x t n ((j - 94) / 10) ((j - 94) % 10) else if 184 ≤ j ∧ j < 208 then kfR N x n ((j - 184) / 6) ((j - 184) % 6) else kwN N (clA N) 4 j
def hFl (N : Int → Int) (s : Int) : Int := if mHold N s then mSh N s 6 else -1
def hsS (N : Int → Int) (y : Nat) (s k : Int) : Int := if s < (y : Int) ∧ 4 ≤ k then (if k = 4 then hFl N s else if k = 5 then -1 else if k = 6 then 0 else zb (mHold N s)) else mS N s k
def hsG (N : Int → Int) (y : Nat) : Int → Int := fun j => if 14 ≤ j ∧ j < 94 then hsS N y ((j - 14) / 8) ((j - 14) % 8) else if j = 216 then zsum (fun s => zb (mHold N s)) y else kfG N (nF N) 0 0 j
def clN (N : Int → Int) : Int → Int := fun j => if j = 3 then N 3 + 1 else if j = 5 then 0 else hsG N (nS N) j
theorem shN_0 : shN N 0 = N := funext fun j => if_neg (by omega)
theorem shN_s {x : Nat} (hx : x < 95) {i v : Int} (ei : i = 311 - (x : Int)) (ev : v = shN N x (i - 5)) : mSet (shN N x) i v = shN N (x + 1) := funext fun j => by
  subst ei
  subst ev
  by_cases e : j = 311 - (x : Int)
  · subst e
    rw [mSet_at]
    unfold shN
    rw [if_neg (by omega), if_pos (by omega)]
  · rw [mSet_o e]
    unfold shN
    by_cases c : 312 - (x : Int) ≤ j ∧ j < 312
    · rw [if_pos c, if_pos (by omega)]
    · rw [if_neg c, if_neg (by omega)]
theorem shN_a (x : Nat) (hx : x ≤ 95) : ∀ j, j < 208 → shN N x j = N j := fun j hj => if_neg (by omega)
theorem shN_V (hV : mV N) {x : Nat} (hx : x ≤ 95) : mV (shN N x) := by
  have a := shN_a (N := N) x hx
  refine mV_mid hV (fun j hj => a j (by omega)) (fun j h0 h1 => a j (by omega)) (fun f k f0 f1 k0 k1 => a _ (by omega)) (fun f f0 f1 => by rw [show mF (shN N x) f 8 = mF N f 8 from a _ (by omega)]; have := hV.f f f0 f1; omega) (fun h f h0 h1 f0 f1 => by rw [show mR (shN N x) h f = mR N h f from a _ (by omega)]; exact hV.r h f h0 h1 f0 f1) fun j => ?_
  unfold shN
  split
  · exact hV.b _
  · exact hV.b _
theorem kwN_0 {am : Int → Int} {v0 v1 v2 v3 : Int} (e0 : v0 = am 0) (e1 : v1 = am 1) (e2 : v2 = am 2) (e3 : v3 = am 3) : mSet (mSet (mSet (mSet (mSet (shN N 95) 212 v0) 213 v1) 214 v2) 215 v3) 216 0 = kwN N am 0 := funext fun j => by
  unfold mSet kwN shN
  by_cases c6 : j = 216
  · rw [if_pos c6, if_neg (by omega), if_neg (by omega), if_pos c6]
  rw [if_neg c6]
  by_cases c5 : j = 215
  · rw [if_pos c5, if_neg (by omega), if_pos (by omega), c5, e3]; rfl
  rw [if_neg c5]
  by_cases c4 : j = 214
  · rw [if_pos c4, if_neg (by omega), if_pos (by omega), c4, e2]; rfl
  rw [if_neg c4]
  by_cases c3 : j = 213
  · rw [if_pos c3, if_neg (by omega), if_pos (by omega), c3, e1]; rfl
  rw [if_neg c3]
  by_cases c2 : j = 212
  · rw [if_pos c2, if_neg (by omega), if_pos (by omega), c2, e0]; rfl
  rw [if_neg c2]
  have n1 : ¬ (208 ≤ j ∧ j < 208 + ((0 : Nat) : Int)) := by omega
  rw [if_neg n1]
  have n2 : ¬ (212 ≤ j ∧ j < 216) := by omega
  rw [if_neg n2, if_neg c6]
  by_cases c : 217 ≤ j ∧ j < 312
  · rw [if_pos c, if_pos (by omega)]
  · rw [if_neg c, if_neg (by omega)]
theorem kwN_s {am : Int → Int} {x : Nat} (hx : x < 4) {i v : Int} (ei : i = 208 + (x : Int)) (ev : v = kwN N am x i + kwN N am x (212 + (x : Int))) : mSet (kwN N am x) i v = kwN N am (x + 1) := funext fun j => by
  subst ei
  by_cases e : j = 208 + (x : Int)
  · subst e
    rw [mSet_at, ev]
    unfold kwN
    have n1 : ¬ (208 ≤ 208 + (x : Int) ∧ 208 + (x : Int) < 208 + (x : Int)) := by omega
    have n2 : ¬ (212 ≤ 208 + (x : Int) ∧ 208 + (x : Int) < 216) := by omega
    have n3 : ¬ (208 + (x : Int) = 216) := by omega
    have n4 : ¬ (217 ≤ 208 + (x : Int) ∧ 208 + (x : Int) < 312) := by omega
    have n5 : ¬ (208 ≤ 212 + (x : Int) ∧ 212 + (x : Int) < 208 + (x : Int)) := by omega
    rw [if_neg n1, if_neg n2, if_neg n3, if_neg n4, if_neg n5, if_pos (by omega), if_pos (by omega)]
    rw [show 212 + (x : Int) - 212 = 208 + (x : Int) - 208 by omega]
  · rw [mSet_o e]
    unfold kwN
    by_cases c : 208 ≤ j ∧ j < 208 + (x : Int)
    · rw [if_pos c, if_pos (by omega)]
    · rw [if_neg c, if_neg (c := 208 ≤ j ∧ j < 208 + ((x + 1 : Nat) : Int)) (by omega)]
theorem kwN_a {am : Int → Int} {x : Nat} {j : Int} (hj : j < 208) : kwN N am x j = N j := by
  unfold kwN
  rw [if_neg (by omega), if_neg (by omega), if_neg (by omega), if_neg (by omega)]
theorem kfG_F {x t n : Nat} {f k : Int} (f0 : 0 ≤ f) (f1 : f < 6) (k0 : 0 ≤ k) (k1 : k < 10) : mF (kfG N x t n) f k = kfF N x t n f k := by
  show kfG N x t n (94 + 10 * f + k) = _
  unfold kfG
  rw [if_pos (by omega), show (94 + 10 * f + k - 94) / 10 = f by omega, show (94 + 10 * f + k - 94) % 10 = k by omega]
theorem kfG_R {x t n : Nat} {h f : Int} (h0 : 0 ≤ h) (h1 : h < 4) (f0 : 0 ≤ f) (f1 : f < 6) : mR (kfG N x t n) h f = kfR N x n h f := by
  show kfG N x t n (184 + 6 * h + f) = _
  unfold kfG
  rw [if_neg (by omega), if_pos (by omega), show (184 + 6 * h + f - 184) / 6 = h by omega, show (184 + 6 * h + f - 184) % 6 = f by omega]
theorem kfG_o {x t n : Nat} {j : Int} (h : j < 94 ∨ (154 ≤ j ∧ j < 184) ∨ 208 ≤ j) : kfG N x t n j = kwN N (clA N) 4 j := by
  unfold kfG
  rw [if_neg (by omega), if_neg (by omega)]
theorem kfG_agr (x t n : Nat) : agr N (kfG N x t n) := fun j hj => (kfG_o (by omega)).trans (kwN_a (by omega))
/-- two such functions are the same where their films' and runs' cells are -/
theorem kfG_ext {x t n x' t' n' : Nat} (hf : ∀ f k, 0 ≤ f → f < 6 → 0 ≤ k → k < 10 → kfF N x t n f k = kfF N x' t' n' f k) (hr : ∀ h f, 0 ≤ h → h < 4 → 0 ≤ f → f < 6 → kfR N x n h f = kfR N x' n' h f) : kfG N x t n = kfG N x' t' n' := funext fun j => by
  unfold kfG
  by_cases c : 94 ≤ j ∧ j < 154
  · rw [if_pos c, if_pos c]; exact hf _ _ (by omega) (by omega) (by omega) (by omega)
  · rw [if_neg c, if_neg c]
    by_cases c2 : 184 ≤ j ∧ j < 208
    · rw [if_pos c2, if_pos c2]; exact hr _ _ (by omega) (by omega) (by omega) (by omega)
    · rw [if_neg c2, if_neg c2]
theorem kfG_0 : kfG N 0 0 0 = kwN N (clA N) 4 := funext fun j => by
  by_cases c : 94 ≤ j ∧ j < 154
  · rw [kwN_a (by omega)]
    have e := kfG_F (N := N) (x := 0) (t := 0) (n := 0) (f := (j - 94) / 10) (k := (j - 94) % 10) (by omega) (by omega) (by omega) (by omega)
    have e2 : mF (kfG N 0 0 0) ((j - 94) / 10) ((j - 94) % 10) = kfG N 0 0 0 j := by show kfG N 0 0 0 (94 + 10 * ((j - 94) / 10) + (j - 94) % 10) = _; rw [show 94 + 10 * ((j - 94) / 10) + (j - 94) % 10 = j by omega]
    have e3 : mF N ((j - 94) / 10) ((j - 94) % 10) = N j := by show N (94 + 10 * ((j - 94) / 10) + (j - 94) % 10) = _; rw [show 94 + 10 * ((j - 94) / 10) + (j - 94) % 10 = j by omega]
    rw [← e2, e, ← e3]
    unfold kfF
    by_cases k9 : (j - 94) % 10 = 9
    · rw [if_pos k9, if_neg (by omega), k9]
    · rw [if_neg k9]
      by_cases k8 : (j - 94) % 10 = 8
      · rw [if_pos k8, if_neg (by omega), k8]
        by_cases z : (j - 94) / 10 = ((0 : Nat) : Int)
        · rw [if_pos z]; rfl
        · rw [if_neg z]
      · rw [if_neg k8]
  · unfold kfG
    rw [if_neg c]
    by_cases c2 : 184 ≤ j ∧ j < 208
    · rw [if_pos c2, kwN_a (by omega)]
      unfold kfR
      rw [if_neg (by omega)]
      show N (184 + 6 * ((j - 184) / 6) + (j - 184) % 6) = N j
      rw [show 184 + 6 * ((j - 184) / 6) + (j - 184) % 6 = j by omega]
    · rw [if_neg c2]
theorem kfG_n {x : Nat} : kfG N x 1 (nH N) = kfG N (x + 1) 0 0 := kfG_ext (fun f k f0 f1 k0 k1 => by
    unfold kfF
    by_cases k9 : k = 9
    · rw [if_pos k9, if_pos k9]
    · rw [if_neg k9, if_neg k9]
      by_cases k8 : k = 8
      · rw [if_pos k8, if_pos k8]
        by_cases a : f < (x : Int)
        · rw [if_pos a, if_pos (by omega)]
        · rw [if_neg a]
          by_cases b : f = (x : Int)
          · rw [if_pos b, if_pos (by omega)]
          · rw [if_neg b, if_neg (c := f < ((x + 1 : Nat) : Int)) (by omega)]
            by_cases e : f = ((x + 1 : Nat) : Int)
            · rw [if_pos e]; rfl
            · rw [if_neg e]
      · rw [if_neg k8, if_neg k8]) (fun h f h0 h1 f0 f1 => by
    unfold kfR
    by_cases a : (f < (x : Int) ∧ h < (nH N : Int)) ∨ (f = (x : Int) ∧ h < (nH N : Int))
    · rw [if_pos a, if_pos (by omega)]
    · rw [if_neg a, if_neg (by omega)])
theorem kfG_no {x n : Nat} (h : ¬ 0 < mNeed N n x) : kfG N x 1 n = kfG N x 1 (n + 1) := kfG_ext (fun f k f0 f1 k0 k1 => by
    unfold kfF
    by_cases k9 : k = 9
    · rw [if_pos k9, if_pos k9]
    · rw [if_neg k9, if_neg k9]
      by_cases k8 : k = 8
      · rw [if_pos k8, if_pos k8]
        by_cases b : f = (x : Int)
        · have e : clB N f (n + 1) = clB N f n := if_neg fun z => by rw [b] at z; exact h z.1
          rw [e]
        · rw [if_neg b, if_neg b]
      · rw [if_neg k8, if_neg k8]) (fun y f h0 h1 f0 f1 => by
    unfold kfR
    by_cases a : (f < (x : Int) ∧ y < (nH N : Int)) ∨ (f = (x : Int) ∧ y < (n : Int))
    · rw [if_pos a, if_pos (by omega)]
    · rw [if_neg a]
      by_cases b : (f < (x : Int) ∧ y < (nH N : Int)) ∨ (f = (x : Int) ∧ y < ((n + 1 : Nat) : Int))
      · have e1 : f = (x : Int) := by omega
        have e2 : y = (n : Int) := by omega
        rw [if_pos b, e1, e2, ← zbF h]; omega
      · rw [if_neg b])
theorem kfG_t {x : Nat} (hx : x < 6) {i v : Int} (ei : i = 94 + 10 * (x : Int) + 9) (ev : v = kfG N x 0 0 i + cFt N x) : mSet (kfG N x 0 0) i v = kfG N x 1 0 := funext fun j => by
  subst ei
  by_cases e : j = 94 + 10 * (x : Int) + 9
  · subst e
    rw [mSet_at, ev]
    have a := kfG_F (N := N) (x := x) (t := 0) (n := 0) (f := x) (k := 9) (by omega) (by omega) (by omega) (by omega)
    have b := kfG_F (N := N) (x := x) (t := 1) (n := 0) (f := x) (k := 9) (by omega) (by omega) (by omega) (by omega)
    show mF (kfG N x 0 0) x 9 + _ = mF (kfG N x 1 0) x 9
    rw [a, b]
    unfold kfF
    rw [if_pos rfl, if_pos rfl, if_neg (by omega), if_pos (by omega)]
  · rw [mSet_o e]
    unfold kfG
    by_cases c : 94 ≤ j ∧ j < 154
    · rw [if_pos c, if_pos c]
      unfold kfF
      by_cases k9 : (j - 94) % 10 = 9
      · rw [if_pos k9, if_pos k9]
        by_cases l : (j - 94) / 10 < (x : Int)
        · rw [if_pos (by omega), if_pos (by omega)]
        · rw [if_neg (by omega), if_neg (by omega)]
      · rw [if_neg k9, if_neg k9]
    · rw [if_neg c, if_neg c]
theorem kfG_yes {x n : Nat} (hx : x < 6) (hn : n < 4) (h : 0 < mNeed N n x) {i k v w : Int} (ei : i = 184 + 6 * (n : Int) + x) (ek : k = 94 + 10 * (x : Int) + 8) (ev : v = kfG N x 1 n i + 1) (ew : w = if kfG N x 1 n k = -1 then N 3 else kfG N x 1 n k) : mSet (mSet (kfG N x 1 n) i v) k w = kfG N x 1 (n + 1) := funext fun j => by
  subst ei
  subst ek
  have eF : kfG N x 1 n (94 + 10 * (x : Int) + 8) = clB N x n := by
    have a := kfG_F (N := N) (x := x) (t := 1) (n := n) (f := x) (k := 8) (by omega) (by omega) (by omega) (by omega)
    refine Eq.trans a ?_
    unfold kfF
    rw [if_neg (by omega), if_pos rfl, if_neg (by omega), if_pos rfl]
  have eR : kfG N x 1 n (184 + 6 * (n : Int) + x) = mR N n x := by
    have a := kfG_R (N := N) (x := x) (t := 1) (n := n) (h := n) (f := x) (by omega) (by omega) (by omega) (by omega)
    refine Eq.trans a ?_
    unfold kfR
    rw [if_neg (by omega)]
  rw [eF] at ew
  rw [eR] at ev
  by_cases e : j = 94 + 10 * (x : Int) + 8
  · subst e
    rw [mSet_at, ew]
    have b := kfG_F (N := N) (x := x) (t := 1) (n := n + 1) (f := x) (k := 8) (by omega) (by omega) (by omega) (by omega)
    show _ = mF (kfG N x 1 (n + 1)) x 8
    rw [b]
    unfold kfF
    rw [if_neg (c := (8 : Int) = 9) (by omega), if_pos (c := (8 : Int) = 8) rfl, if_neg (c := (x : Int) < (x : Int)) (by omega), if_pos (c := (x : Int) = (x : Int)) rfl]
    show _ = if 0 < mNeed N n x ∧ clB N x n = -1 then N 3 else clB N x n
    by_cases z : clB N x n = -1
    · rw [if_pos z, if_pos ⟨h, z⟩]
    · rw [if_neg z, if_neg (fun q => z q.2)]
  · rw [mSet_o e]
    by_cases e2 : j = 184 + 6 * (n : Int) + x
    · subst e2
      rw [mSet_at, ev]
      have b := kfG_R (N := N) (x := x) (t := 1) (n := n + 1) (h := n) (f := x) (by omega) (by omega) (by omega) (by omega)
      show _ = mR (kfG N x 1 (n + 1)) n x
      rw [b]
      unfold kfR
      rw [if_pos (by omega), ← zbT h]
    · rw [mSet_o e2]
      unfold kfG
      by_cases c : 94 ≤ j ∧ j < 154
      · rw [if_pos c, if_pos c]
        unfold kfF
        by_cases k9 : (j - 94) % 10 = 9
        · rw [if_pos k9, if_pos k9]
        · rw [if_neg k9, if_neg k9]
          by_cases k8 : (j - 94) % 10 = 8
          · rw [if_pos k8, if_pos k8, if_neg (c := (j - 94) / 10 = (x : Int)) (by omega), if_neg (c := (j - 94) / 10 = (x : Int)) (by omega)]
          · rw [if_neg k8, if_neg k8]
      · rw [if_neg c, if_neg c]
        by_cases c2 : 184 ≤ j ∧ j < 208
        · rw [if_pos c2, if_pos c2]
          unfold kfR
          by_cases a : ((j - 184) % 6 < (x : Int) ∧ (j - 184) / 6 < (nH N : Int)) ∨ ((j - 184) % 6 = (x : Int) ∧ (j - 184) / 6 < (n : Int))
          · rw [if_pos a, if_pos (by omega)]
          · rw [if_neg a, if_neg (by omega)]
        · rw [if_neg c2, if_neg c2]
theorem hsG_S {y : Nat} {s k : Int} (s0 : 0 ≤ s) (s1 : s < 10) (k0 : 0 ≤ k) (k1 : k < 8) : mS (hsG N y) s k = hsS N y s k := by
  show hsG N y (14 + 8 * s + k) = _
  unfold hsG
  rw [if_pos (by omega), show (14 + 8 * s + k - 14) / 8 = s by omega, show (14 + 8 * s + k - 14) % 8 = k by omega]
theorem hsG_o {y : Nat} {j : Int} (h : j < 14 ∨ 94 ≤ j) (h2 : j ≠ 216) : hsG N y j = kfG N (nF N) 0 0 j := by
  unfold hsG
  rw [if_neg (by omega), if_neg h2]
theorem hsG_0 : hsG N 0 = kfG N (nF N) 0 0 := funext fun j => by
  by_cases c : 14 ≤ j ∧ j < 94
  · rw [kfG_agr _ _ _ j (by omega)]
    unfold hsG
    rw [if_pos c]
    unfold hsS
    rw [if_neg (by omega)]
    show N (14 + 8 * ((j - 14) / 8) + (j - 14) % 8) = N j
    rw [show 14 + 8 * ((j - 14) / 8) + (j - 14) % 8 = j by omega]
  · by_cases e : j = 216
    · subst e
      rw [kfG_o (by omega)]
      rfl
    · exact hsG_o (by omega) e
theorem hsG_s {y : Nat} (hy : y < 10) {i v a e : Int} (ei : i = 216) (ea : a = hFl N y) (ee : e = zb (mHold N y)) (ev : v = mBook (hsG N y) y a (-1) 0 e i + e) : mSet (mBook (hsG N y) y a (-1) 0 e) i v = hsG N (y + 1) := funext fun j => by
  subst ei
  subst ea
  subst ee
  by_cases c6 : j = 216
  · subst c6
    rw [mSet_at, ev, mBook_o _ (by omega) (by omega) (by omega)]
    rfl
  · rw [mSet_o c6]
    by_cases c : 14 ≤ j ∧ j < 94
    · have s1 := mBook_at (hsG N y) (s := (y : Int)) (a := hFl N y) (b := -1) (c := 0) (e := zb (mHold N y)) ((j - 14) / 8) ((j - 14) % 8) (by omega) (by omega)
      have e1 : ∀ F : Int → Int, mS F ((j - 14) / 8) ((j - 14) % 8) = F j := fun F => by show F (14 + 8 * ((j - 14) / 8) + (j - 14) % 8) = F j; rw [show 14 + 8 * ((j - 14) / 8) + (j - 14) % 8 = j by omega]
      rw [e1] at s1
      rw [s1, ← e1 (hsG N (y + 1)), hsG_S (y := y + 1) (by omega) (by omega) (by omega) (by omega)]
      by_cases z : (j - 14) / 8 = (y : Int)
      · rw [if_pos z, z]
        unfold hsS
        by_cases k4 : 4 ≤ (j - 14) % 8
        · rw [if_pos (c := (y : Int) < ((y + 1 : Nat) : Int) ∧ 4 ≤ (j - 14) % 8) (by omega)]
          by_cases q4 : (j - 14) % 8 = 4
          · rw [if_pos q4, if_pos q4]
          · rw [if_neg q4, if_neg q4]
            by_cases q5 : (j - 14) % 8 = 5
            · rw [if_pos q5, if_pos q5]
            · rw [if_neg q5, if_neg q5]
              by_cases q6 : (j - 14) % 8 = 6
              · rw [if_pos q6, if_pos q6]
              · rw [if_neg q6, if_neg q6, if_pos (by omega)]
        · rw [if_neg (c := (y : Int) < ((y + 1 : Nat) : Int) ∧ 4 ≤ (j - 14) % 8) (by omega), if_neg (by omega), if_neg (by omega), if_neg (by omega), if_neg (by omega), hsG_S (y := y) (by omega) (by omega) (by omega) (by omega)]
          exact if_neg (by omega)
      · rw [if_neg z, hsG_S (y := y) (by omega) (by omega) (by omega) (by omega)]
        unfold hsS
        by_cases k4 : (j - 14) / 8 < (y : Int) ∧ 4 ≤ (j - 14) % 8
        · rw [if_pos k4, if_pos (c := (j - 14) / 8 < ((y + 1 : Nat) : Int) ∧ 4 ≤ (j - 14) % 8) (by omega)]
        · rw [if_neg k4, if_neg (c := (j - 14) / 8 < ((y + 1 : Nat) : Int) ∧ 4 ≤ (j - 14) % 8) (by omega)]
    · rw [mBook_o _ (by omega) (by omega) (by omega), hsG_o (by omega) c6, hsG_o (by omega) c6]
theorem hsG_sh {y : Nat} {s day : Int} (s0 : 0 ≤ s) (s1 : s < 10) (h : (y : Int) ≤ s) : mSh (hsG N y) s day = mSh N s day := by
  have e : ∀ k, 0 ≤ k → k < 8 → mS (hsG N y) s k = mS N s k := fun k k0 k1 => by
    rw [hsG_S s0 s1 k0 k1]; exact if_neg (by omega)
  unfold mSh
  rw [e 5 (by omega) (by omega), e 6 (by omega) (by omega), e 4 (by omega) (by omega)]
theorem clN_e {i k v : Int} (ei : i = 3) (ek : k = 5) (ev : v = hsG N (nS N) i + 1) : mSet (mSet (hsG N (nS N)) i v) k 0 = clN N := funext fun j => by
  subst ei
  subst ek
  unfold clN
  by_cases c3 : j = 3
  · subst c3
    rw [mSet_o (by omega), mSet_at, if_pos rfl, ev, hsG_o (by omega) (by omega), kfG_agr _ _ _ _ (by omega)]
  · rw [if_neg c3]
    by_cases c5 : j = 5
    · subst c5
      rw [mSet_at, if_pos rfl]
    · rw [mSet_o c5, mSet_o c3, if_neg c5]
theorem clB_b (hV : mV N) {f : Int} (f0 : 0 ≤ f) (f1 : f < 6) : ∀ n : Nat, (clB N f n = mF N f 8 ∨ clB N f n = N 3) := by
  intro n
  induction n with
  | zero => exact Or.inl rfl
  | succ n ih =>
    show (if 0 < mNeed N n f ∧ clB N f n = -1 then N 3 else clB N f n) = _ ∨ (if 0 < mNeed N n f ∧ clB N f n = -1 then N 3 else clB N f n) = _
    by_cases c : 0 < mNeed N n f ∧ clB N f n = -1
    · rw [if_pos c]; exact Or.inr rfl
    · rw [if_neg c]; exact ih
theorem clB_r (hV : mV N) {f : Int} (f0 : 0 ≤ f) (f1 : f < 6) (n : Nat) : -1 ≤ clB N f n ∧ clB N f n ≤ N 3 := by
  have q := hV.f f f0 f1
  have hn := hV.n
  rcases clB_b hV f0 f1 n with e | e <;> omega
end ZK1

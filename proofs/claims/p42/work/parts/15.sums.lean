/-! the reference: what a state holds, and its sums -/
section ZN
variable {G : zG} {d : Nat} {σ : zMem} {hm : Nat} {A : Nat → Nat}
def mV (N : Int → Int) : Prop :=
  (0 ≤ N 0 ∧ N 0 ≤ 4 ∧ 0 ≤ N 1 ∧ N 1 ≤ 10 ∧ 0 ≤ N 2 ∧ N 2 ≤ 6 ∧ 0 ≤ N 3 ∧ N 3 ≤ 60) ∧ (∀ j, zrg (N j)) ∧
  (∀ s, 0 ≤ s → s < 10 → 0 ≤ mS N s 0 ∧ mS N s 0 < 4 ∧ 0 ≤ mS N s 1 ∧ mS N s 1 ≤ 500 ∧ 0 ≤ mS N s 2 ∧ mS N s 2 ≤ 6 ∧ 0 ≤ mS N s 3 ∧ mS N s 3 ≤ 9999 ∧ -1 ≤ mS N s 4 ∧ mS N s 4 < 6 ∧ -1 ≤ mS N s 5 ∧ mS N s 5 < 6 ∧ 0 ≤ mS N s 6 ∧ mS N s 6 < 7 ∧ 0 ≤ mS N s 7 ∧ mS N s 7 ≤ 1) ∧
  (∀ f, 0 ≤ f → f < 6 → 0 ≤ mF N f 0 ∧ mF N f 0 ≤ 9999 ∧ 0 ≤ mF N f 1 ∧ mF N f 1 ≤ 100 ∧ 0 ≤ mF N f 2 ∧ mF N f 2 ≤ 9999 ∧ 0 ≤ mF N f 3 ∧ mF N f 3 ≤ 4 ∧ (f < N 2 → 1 ≤ mF N f 3) ∧ -1 ≤ mF N f 8 ∧ mF N f 8 ≤ N 3) ∧
  (∀ f k, 0 ≤ f → f < 6 → 0 ≤ k → k < 4 → 0 ≤ mF N f (4 + k) ∧ mF N f (4 + k) ≤ 90) ∧
  (∀ h, 0 ≤ h → h < 4 → 0 ≤ mH N h 0 ∧ mH N h 0 ≤ 99 ∧ 0 ≤ mH N h 1 ∧ mH N h 1 ≤ 100) ∧
  (∀ h f, 0 ≤ h → h < 4 → 0 ≤ f → f < 6 → 0 ≤ mR N h f ∧ mR N h f ≤ N 3 + 1) ∧
  (∀ f p, 0 ≤ f → f < 6 → -1 ≤ p → p < 4 → 0 ≤ mP N f p ∧ mP N f p ≤ 9)
theorem mV.n {N : Int → Int} (h : mV N) : 0 ≤ N 0 ∧ N 0 ≤ 4 ∧ 0 ≤ N 1 ∧ N 1 ≤ 10 ∧ 0 ≤ N 2 ∧ N 2 ≤ 6 ∧ 0 ≤ N 3 ∧ N 3 ≤ 60 := h.1
theorem mV.b {N : Int → Int} (h : mV N) : ∀ j, zrg (N j) := h.2.1
theorem mV.s {N : Int → Int} (h : mV N) : ∀ s, 0 ≤ s → s < 10 → 0 ≤ mS N s 0 ∧ mS N s 0 < 4 ∧ 0 ≤ mS N s 1 ∧ mS N s 1 ≤ 500 ∧ 0 ≤ mS N s 2 ∧ mS N s 2 ≤ 6 ∧ 0 ≤ mS N s 3 ∧ mS N s 3 ≤ 9999 ∧ -1 ≤ mS N s 4 ∧ mS N s 4 < 6 ∧ -1 ≤ mS N s 5 ∧ mS N s 5 < 6 ∧ 0 ≤ mS N s 6 ∧ mS N s 6 < 7 ∧ 0 ≤ mS N s 7 ∧ mS N s 7 ≤ 1 := h.2.2.1
theorem mV.f {N : Int → Int} (h : mV N) : ∀ f, 0 ≤ f → f < 6 → 0 ≤ mF N f 0 ∧ mF N f 0 ≤ 9999 ∧ 0 ≤ mF N f 1 ∧ mF N f 1 ≤ 100 ∧ 0 ≤ mF N f 2 ∧ mF N f 2 ≤ 9999 ∧ 0 ≤ mF N f 3 ∧ mF N f 3 ≤ 4 ∧ (f < N 2 → 1 ≤ mF N f 3) ∧ -1 ≤ mF N f 8 ∧ mF N f 8 ≤ N 3 := h.2.2.2.1
theorem mV.t {N : Int → Int} (h : mV N) : ∀ f k, 0 ≤ f → f < 6 → 0 ≤ k → k < 4 → 0 ≤ mF N f (4 + k) ∧ mF N f (4 + k) ≤ 90 := h.2.2.2.2.1
theorem mV.h {N : Int → Int} (h : mV N) : ∀ h, 0 ≤ h → h < 4 → 0 ≤ mH N h 0 ∧ mH N h 0 ≤ 99 ∧ 0 ≤ mH N h 1 ∧ mH N h 1 ≤ 100 := h.2.2.2.2.2.1
theorem mV.r {N : Int → Int} (h : mV N) : ∀ h f, 0 ≤ h → h < 4 → 0 ≤ f → f < 6 → 0 ≤ mR N h f ∧ mR N h f ≤ N 3 + 1 := h.2.2.2.2.2.2.1
theorem mV.p {N : Int → Int} (h : mV N) : ∀ f p, 0 ≤ f → f < 6 → -1 ≤ p → p < 4 → 0 ≤ mP N f p ∧ mP N f p ≤ 9 := h.2.2.2.2.2.2.2
def nS (N : Int → Int) : Nat := (N 1).toNat
def nH (N : Int → Int) : Nat := (N 0).toNat
def nF (N : Int → Int) : Nat := (N 2).toNat
theorem nS_eq {N : Int → Int} (h : mV N) : N 1 = (nS N : Int) ∧ nS N ≤ 10 := by have := h.n; unfold nS; omega
theorem nH_eq {N : Int → Int} (h : mV N) : N 0 = (nH N : Int) ∧ nH N ≤ 4 := by have := h.n; unfold nH; omega
theorem nF_eq {N : Int → Int} (h : mV N) : N 2 = (nF N : Int) ∧ nF N ≤ 6 := by have := h.n; unfold nF; omega
def mCntN (N : Int → Int) (h f day : Int) (n : Nat) : Int := zsum (fun s => zb (mS N s 0 = h ∧ mSh N s day = f)) n
def mCnt (N : Int → Int) (h f day : Int) : Int := mCntN N h f day (nS N)
def mNeedN (N : Int → Int) (h f : Int) (n : Nat) : Int := zmax (fun day => mCnt N h f day) n
def mNeed (N : Int → Int) (h f : Int) : Int := mNeedN N h f 7
def mAge (N : Int → Int) (f : Int) : Int := if mF N f 8 = -1 then 0 else N 3 - mF N f 8
def mDemN (N : Int → Int) (f : Int) : Nat → Int
  | 0 => mF N f 0
  | k + 1 => mDemN N f k * mF N f 1 / 100
def mDem (N : Int → Int) (f : Int) : Int := mDemN N f (mAge N f).toNat
def gG (g : Int → Int) (s : Int) (n : Nat) : Int := zsum (fun day => g (7 * s + day)) n
def gTake (N g : Int → Int) (s : Int) : Int := gG g s 7 * mPrice N s
def gByN (N g : Int → Int) (s f : Int) (n : Nat) : Int := zsum (fun day => if f = -1 ∨ mSh N s day = f then g (7 * s + day) else 0) n
def gBy (N g : Int → Int) (s f : Int) : Int := gByN N g s f 7 * mPrice N s
def gInN (N g : Int → Int) (h f : Int) (n : Nat) : Int := zsum (fun s => if h = -1 ∨ mS N s 0 = h then gBy N g s f else 0) n
def gIn (N g : Int → Int) (h f : Int) : Int := gInN N g h f (nS N)
def mIdx (N : Int → Int) (h f : Int) : Int := min (mR N h f) (mF N f 3 - 1)
def mShare (N : Int → Int) (h f t : Int) : Int := max (t * mF N f (4 + mIdx N h f) / 100) (min (mF N f 2) t)
def gShare (N g : Int → Int) (h f : Int) : Int := if 0 < mNeed N h f then mShare N h f (gIn N g h f) else 0
def gSharesN (N g : Int → Int) (h : Int) (n : Nat) : Int := zsum (fun f => gShare N g h f) n
def gShares (N g : Int → Int) (h : Int) : Int := gSharesN N g h (nF N)
def mRentN (N : Int → Int) (h : Int) (n : Nat) : Int := zsum (fun s => if h = -1 ∨ mS N s 0 = h then mS N s 3 else 0) n
def mRent (N : Int → Int) (h : Int) : Int := mRentN N h (nS N)
def mDaysN (N : Int → Int) (s f : Int) (n : Nat) : Int := zsum (fun day => zb (mSh N s day = f)) n
def mDays (N : Int → Int) (s f : Int) : Int := mDaysN N s f 7
theorem mSh_b {N : Int → Int} (h : mV N) {s : Int} (h0 : 0 ≤ s) (h1 : s < 10) (day : Int) : -1 ≤ mSh N s day ∧ mSh N s day < 6 := by
  have q := h.s s h0 h1
  unfold mSh
  split <;> omega
theorem mCap_b {N : Int → Int} (h : mV N) {s : Int} (h0 : 0 ≤ s) (h1 : s < 10) : 0 ≤ mCap N s ∧ mCap N s ≤ 3000 := by
  have q := h.s s h0 h1
  have a : 0 ≤ mS N s 1 * mS N s 2 := Int.mul_nonneg (by omega) (by omega)
  have b : mS N s 1 * mS N s 2 ≤ 500 * 6 := Int.mul_le_mul (by omega) (by omega) (by omega) (by omega)
  unfold mCap
  omega
theorem mPrice_b {N : Int → Int} (h : mV N) {s : Int} (h0 : 0 ≤ s) (h1 : s < 10) : 0 ≤ mPrice N s ∧ mPrice N s ≤ 99 := by
  have q := h.s s h0 h1
  have r := h.h (mS N s 0) (by omega) (by omega)
  unfold mPrice
  omega
theorem mCnt_b {N : Int → Int} (h : mV N) (ho f day : Int) : 0 ≤ mCnt N ho f day ∧ mCnt N ho f day ≤ 10 := by
  have e := nS_eq h
  have a := zsum_ge (f := fun s => zb (mS N s 0 = ho ∧ mSh N s day = f)) (n := nS N) (a := 0) fun i _ => zb_ge _
  have b := zsum_le (f := fun s => zb (mS N s 0 = ho ∧ mSh N s day = f)) (n := nS N) (a := 1) fun i _ => zb_le _
  unfold mCnt mCntN
  omega
theorem mNeed_b {N : Int → Int} (h : mV N) (ho f : Int) (n : Nat) : 0 ≤ mNeedN N ho f n ∧ mNeedN N ho f n ≤ 10 :=
  ⟨zmax_ge, zmax_le (by omega) fun i _ => (mCnt_b h ho f i).2⟩
theorem mAge_b {N : Int → Int} (h : mV N) {f : Int} (h0 : 0 ≤ f) (h1 : f < 6) : 0 ≤ mAge N f ∧ mAge N f ≤ 61 := by
  have q := h.f f h0 h1
  have r := h.n
  unfold mAge
  split <;> omega
theorem mDem_b {N : Int → Int} (h : mV N) {f : Int} (h0 : 0 ≤ f) (h1 : f < 6) (k : Nat) : 0 ≤ mDemN N f k ∧ mDemN N f k ≤ 9999 := by
  have q := h.f f h0 h1
  induction k with
  | zero => show 0 ≤ mF N f 0 ∧ mF N f 0 ≤ 9999; omega
  | succ k ih =>
    show 0 ≤ mDemN N f k * mF N f 1 / 100 ∧ mDemN N f k * mF N f 1 / 100 ≤ 9999
    have a : 0 ≤ mDemN N f k * mF N f 1 := Int.mul_nonneg (by omega) (by omega)
    have b : mDemN N f k * mF N f 1 ≤ 9999 * 100 := Int.mul_le_mul (by omega) (by omega) (by omega) (by omega)
    omega
theorem mDem_p {N : Int → Int} (h : mV N) {f : Int} (h0 : 0 ≤ f) (h1 : f < 6) (k : Nat) : 0 ≤ mDemN N f k * mF N f 1 ∧ mDemN N f k * mF N f 1 ≤ 999900 := by
  have q := h.f f h0 h1
  have c := mDem_b h h0 h1 k
  have a : 0 ≤ mDemN N f k * mF N f 1 := Int.mul_nonneg (by omega) (by omega)
  have b : mDemN N f k * mF N f 1 ≤ 9999 * 100 := Int.mul_le_mul (by omega) (by omega) (by omega) (by omega)
  omega
def gV (g : Int → Int) : Prop := ∀ j, 0 ≤ j → j < 70 → 0 ≤ g j ∧ g j ≤ 3000
theorem gByN_b {N g : Int → Int} (hg : gV g) {s : Int} (h0 : 0 ≤ s) (h1 : s < 10) (f : Int) (n : Nat) (hn : n ≤ 7) : 0 ≤ gByN N g s f n ∧ gByN N g s f n ≤ n * 3000 := by
  have a := zsum_ge (f := fun day => if f = -1 ∨ mSh N s day = f then g (7 * s + day) else 0) (n := n) (a := 0) fun i hi => by have := hg (7 * s + i) (by omega) (by omega); split <;> omega
  have b := zsum_le (f := fun day => if f = -1 ∨ mSh N s day = f then g (7 * s + day) else 0) (n := n) (a := 3000) fun i hi => by have := hg (7 * s + i) (by omega) (by omega); split <;> omega
  unfold gByN
  omega
theorem gBy_b {N g : Int → Int} (h : mV N) (hg : gV g) {s : Int} (h0 : 0 ≤ s) (h1 : s < 10) (f : Int) : 0 ≤ gBy N g s f ∧ gBy N g s f ≤ 2079000 := by
  have p := mPrice_b h h0 h1
  have q := gByN_b (N := N) hg h0 h1 f 7 (Nat.le_refl _)
  have a : 0 ≤ gByN N g s f 7 * mPrice N s := Int.mul_nonneg (by omega) (by omega)
  have b : gByN N g s f 7 * mPrice N s ≤ 21000 * 99 := Int.mul_le_mul (by omega) (by omega) (by omega) (by omega)
  unfold gBy
  omega
theorem gIn_b {N g : Int → Int} (h : mV N) (hg : gV g) (ho f : Int) (n : Nat) (hn : n ≤ 10) : 0 ≤ gInN N g ho f n ∧ gInN N g ho f n ≤ 20790000 := by
  have a := zsum_ge (f := fun s => if ho = -1 ∨ mS N s 0 = ho then gBy N g s f else 0) (n := n) (a := 0) fun i hi => by have := gBy_b h hg (s := i) (by omega) (by omega) f; split <;> omega
  have b := zsum_le (f := fun s => if ho = -1 ∨ mS N s 0 = ho then gBy N g s f else 0) (n := n) (a := 2079000) fun i hi => by have := gBy_b h hg (s := i) (by omega) (by omega) f; split <;> omega
  unfold gInN
  omega
theorem mIdx_b {N : Int → Int} (h : mV N) {ho f : Int} (a0 : 0 ≤ ho) (a1 : ho < 4) (h0 : 0 ≤ f) (h1 : f < N 2) : 0 ≤ mIdx N ho f ∧ mIdx N ho f < 4 ∧ 0 ≤ mF N f (4 + mIdx N ho f) ∧ mF N f (4 + mIdx N ho f) ≤ 90 := by
  have n := h.n
  have q := h.f f h0 (by omega)
  have r := h.r ho f a0 a1 h0 (by omega)
  have c : 0 ≤ mIdx N ho f ∧ mIdx N ho f < 4 := by unfold mIdx; omega
  have t := h.t f (mIdx N ho f) h0 (by omega) c.1 c.2
  omega
theorem mShare_p {N : Int → Int} (h : mV N) {ho f t : Int} (a0 : 0 ≤ ho) (a1 : ho < 4) (h0 : 0 ≤ f) (h1 : f < N 2) (t0 : 0 ≤ t) (t1 : t ≤ 20790000) : 0 ≤ t * mF N f (4 + mIdx N ho f) ∧ t * mF N f (4 + mIdx N ho f) ≤ 1871100000 := by
  have c := mIdx_b h a0 a1 h0 h1
  have a : 0 ≤ t * mF N f (4 + mIdx N ho f) := Int.mul_nonneg t0 (by omega)
  have b : t * mF N f (4 + mIdx N ho f) ≤ 20790000 * 90 := Int.mul_le_mul t1 (by omega) (by omega) (by omega)
  omega
end ZN

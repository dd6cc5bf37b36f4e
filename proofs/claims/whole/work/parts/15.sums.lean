/-! the reference: what a state holds, and its sums -/
section ZN
variable {G : zG} {d : Nat} {σ : zMem} {hm : Nat} {A : Nat → Nat}
def mV (N : Int → Int) : Prop :=
  (0 ≤ N 0 ∧ N 0 ≤ 4 ∧ 0 ≤ N 1 ∧ N 1 ≤ 10 ∧ 0 ≤ N 2 ∧ N 2 ≤ 6 ∧ 0 ≤ N 3 ∧ N 3 ≤ 60) ∧ (∀ j, zrg (N j)) ∧
  (∀ s, 0 ≤ s → s < 10 → 0 ≤ mS N s 0 ∧ mS N s 0 < 4 ∧ 0 ≤ mS N s 1 ∧ mS N s 1 ≤ 500 ∧ 0 ≤ mS N s 2 ∧ mS N s 2 ≤ 6 ∧ 0 ≤ mS N s 3 ∧ mS N s 3 ≤ 9999 ∧ -1 ≤ mS N s 4 ∧ mS N s 4 < 6 ∧ -1 ≤ mS N s 5 ∧ mS N s 5 < 6 ∧ 0 ≤ mS N s 6 ∧ mS N s 6 < 7 ∧ 0 ≤ mS N s 7 ∧ mS N s 7 ≤ 1) ∧
  (∀ f, 0 ≤ f → f < 6 → 0 ≤ mF N f 0 ∧ mF N f 0 ≤ 9999 ∧ 0 ≤ mF N f 1 ∧ mF N f 1 ≤ 100 ∧ 0 ≤ mF N f 2 ∧ mF N f 2 ≤ 9999 ∧ 0 ≤ mF N f 3 ∧ mF N f 3 ≤ 4 ∧ (f < N 2 → 1 ≤ mF N f 3) ∧ -1 ≤ mF N f 8 ∧ mF N f 8 ≤ N 3) ∧
  (∀ f k, 0 ≤ f → f < 6 → 0 ≤ k → k < 4 → 0 ≤ mF N f (4 + k) ∧ mF N f (4 + k) ≤ 90) ∧
  (∀ h, 0 ≤ h → h < 4 → 0 ≤ mH N h 0 ∧ mH N h 0 ≤ 99 ∧ 0 ≤ mH N h 1 ∧ mH N h 1 ≤ 100) ∧
  (∀ h f, 0 ≤ h → h < 4 → 0 ≤ f → f < 6 → 0 ≤ mR N h f ∧ mR N h f ≤ N 3 + 1) ∧
  (∀ f p, 0 ≤ f → f < 6 → -1 ≤ p → p < 4 → 0 ≤ mP N f p ∧ mP N f p ≤ 9)
theorem mV.n {N : Int → Int} (h : mV N) : 0 ≤ N 0 ∧ N 0 ≤ 4 ∧ 0 ≤ N 1 ∧ N 1 ≤ 10 ∧ 0 ≤ N 2 ∧ N 2 ≤ 6 ∧ 0 ≤ N 3 ∧ N 3 ≤ 60 := h.1
theorem mV.b {N : Int → Int} (h : mV N) : ∀ j, zrg (N j) := h.2.1
theorem mV.s {N : Int → Int} (h : mV N) : ∀ s, 0 ≤ s → s < 10 → 0 ≤ mS N s 0 ∧ mS N s 0 < 4 ∧ 0 ≤ mS N s 1 ∧ mS N s 1 ≤ 500 ∧ 0 ≤ mS N s 2 ∧ mS N s 2 ≤ 6 ∧ 0 ≤ mS N s 3 ∧ mS N s 3 ≤ 9999 ∧ -1 ≤ mS N s 4 ∧ mS N s 4 < 6 ∧ -1 ≤ mS N s 5 ∧ mS N s 5 < 6 ∧ 0 ≤ mS N s 6 ∧ mS N s 6 < 7 ∧ 0 ≤ mS N s 7 ∧ mS N s 7 ≤ 1 := h.2.2.1
theorem mV.f {N : Int → Int} (h : mV N) : ∀ f, 0 ≤ f → f < 6 → 0 ≤ mF N f 0 ∧ mF N f 0 ≤ 9999 ∧ 0 ≤ mF N f 1 ∧ mF N f 1 ≤ 100 ∧ 0 ≤ mF N f 2 ∧ mF N f 2 ≤ 9999 ∧ 0 ≤ mF N f 3 ∧ mF N f 3 ≤ 4 ∧ (f < N 2 → 1 ≤ mF N f 3) ∧ -1 ≤ mF N f 8 ∧ mF N f 8 ≤ N 3 := h.2.2.2.1
theorem mV.t {N : Int → Int} (h : mV N) : ∀ f k, 0 ≤ f → f < 6 → 0 ≤ k → k < 4 → 0 ≤ mF N f (4 + k) ∧ mF N f (4 + k) ≤ 90 := h.2.2.2.2.1
theorem mV.h {N : Int → Int} (h : mV N) : ∀ h, 0 ≤ h → h < 4 → 0 ≤ mH N h 0 ∧ mH N h 0 ≤ 99 ∧ 0 ≤ mH N h 1 ∧ mH N h 1 ≤ 100 := h.2.2.2.2.2.1
theorem mV.r {N : Int → Int} (h : mV N) : ∀ h f, 0 ≤ h → h < 4 → 0 ≤ f → f < 6 → 0 ≤ mR N h f ∧ mR N h f ≤ N 3 + 1 := h.2.2.2.2.2.2.1
theorem mV.p {N : Int → Int} (h : mV N) : ∀ f p, 0 ≤ f → f < 6 → -1 ≤ p → p < 4 → 0 ≤ mP N f p ∧ mP N f p ≤ 9 := h.2.2.2.2.2.2.2
def nS (N : Int → Int) : Nat := (N 1).toNat
def nH (N : Int → Int) : Nat := (N 0).toNat
def nF (N : Int → Int) : Nat := (N 2).toNat
theorem nS_eq {N : Int → Int} (h : mV N) : N 1 = (nS N : Int) ∧ nS N ≤ 10 := by have := h.n; unfold nS; omega
theorem nH_eq {N : Int → Int} (h : mV N) : N 0 = (nH N : Int) ∧ nH N ≤ 4 := by have := h.n; unfold nH; omega
theorem nF_eq {N : Int → Int} (h : mV N) : N 2 = (nF N : Int) ∧ nF N ≤ 6 := by have := h.n; unfold nF; omega
def mCntN (N : Int → Int) (h f day : Int) (n : Nat) : Int := zsum (fun s => zb (mS N s 0 = h ∧ mSh N s day = f)) n
def mCnt (N : Int → Int) (h f day : Int) : Int := mCntN N h f day (nS N)
def mNeedN (N : Int → Int) (h f : Int) (n : Nat) : Int := zmax (fun day => mCnt N h f day) n
def mNeed (N : Int → Int) (h f : Int) : Int := mNeedN N h f 7
def mAge (N : Int → Int) (f : Int) : Int := if mF N f 8 = -1 then 0 else N 3 - mF N f 8
def mDemN (N : Int → Int) (f : Int) : Nat → Int
  | 0 => mF N f 0
  | k + 1 => mDemN N f k * mF N f 1 / 100
def mDem (N : Int → Int) (f : Int) : Int := mDemN N f (mAge N f).toNat
def gG (g : Int → Int) (s : Int) (n : Nat) : Int := zsum (fun day => g (7 * s + day)) n
def gTake (N g : Int → Int) (s : Int) : Int := gG g s 7 * mPrice N s
def gByN (N g : Int → Int) (s f : Int) (n : Nat) : Int := zsum (fun day => if f = -1 ∨ mSh N s day = f then g (7 * s + day) else 0) n
def gBy (N g : Int → Int) (s f : Int) : Int := gByN N g s f 7 * mPrice N s
def gInN (N g : Int → Int) (h f : Int) (n : Nat) : Int := zsum (fun s => if h = -1 ∨ mS N s 0 = h then gBy N g s f else 0) n
def gIn (N g : Int → Int) (h f : Int) : Int := gInN N g h f (nS N)
def mIdx (N : Int → Int) (h f : Int) : Int := min (mR N h f) (mF N f 3 - 1)
def mShare (N : Int → Int) (h f t : Int) : Int := max (t * mF N f (4 + mIdx N h f) / 100) (min (mF N f 2) t)
def gShare (N g : Int → Int) (h f : Int) : Int := if 0 < mNeed N h f then mShare N h f (gIn N g h f) else 0
def gSharesN (N g : Int → Int) (h : Int) (n : Nat) : Int := zsum (fun f => gShare N g h f) n
def gShares (N g : Int → Int) (h : Int) : Int := gSharesN N g h (nF N)
def mRentN (N : Int → Int) (h : Int) (n : Nat) : Int := zsum (fun s => if h = -1 ∨ mS N s 0 = h then mS N s 3 else 0) n
def mRent (N : Int → Int) (h : Int) : Int := mRentN N h (nS N)
def mDaysN (N : Int → Int) (s f : Int) (n : Nat) : Int := zsum (fun day => zb (mSh N s day = f)) n
def mDays (N : Int → Int) (s f : Int) : Int := mDaysN N s f 7
theorem mSh_b {N : Int → Int} (h : mV N) {s : Int} (h0 : 0 ≤ s) (h1 : s < 10) (day : Int) : -1 ≤ mSh N s day ∧ mSh N s day < 6 := by
  have q := h.s s h0 h1
  unfold mSh
  split <;> omega
theorem mCap_b {N : Int → Int} (h : mV N) {s : Int} (h0 : 0 ≤ s) (h1 : s < 10) : 0 ≤ mCap N s ∧ mCap N s ≤ 3000 := by
  have q := h.s s h0 h1
  have a : 0 ≤ mS N s 1 * mS N s 2 := Int.mul_nonneg (by omega) (by omega)
  have b : mS N s 1 * mS N s 2 ≤ 500 * 6 := Int.mul_le_mul (by omega) (by omega) (by omega) (by omega)
  unfold mCap
  omega
theorem mPrice_b {N : Int → Int} (h : mV N) {s : Int} (h0 : 0 ≤ s) (h1 : s < 10) : 0 ≤ mPrice N s ∧ mPrice N s ≤ 99 := by
  have q := h.s s h0 h1
  have r := h.h (mS N s 0) (by omega) (by omega)
  unfold mPrice
  omega
theorem mCnt_b {N : Int → Int} (h : mV N) (ho f day : Int) : 0 ≤ mCnt N ho f day ∧ mCnt N ho f day ≤ 10 := by
  have e := nS_eq h
  have a := zsum_ge (f := fun s => zb (mS N s 0 = ho ∧ mSh N s day = f)) (n := nS N) (a := 0) fun i _ => zb_ge _
  have b := zsum_le (f := fun s => zb (mS N s 0 = ho ∧ mSh N s day = f)) (n := nS N) (a := 1) fun i _ => zb_le _
  unfold mCnt mCntN
  omega
theorem mNeed_b {N : Int → Int} (h : mV N) (ho f : Int) (n : Nat) : 0 ≤ mNeedN N ho f n ∧ mNeedN N ho f n ≤ 10 :=
  ⟨zmax_ge, zmax_le (by omega) fun i _ => (mCnt_b h ho f i).2⟩
theorem mAge_b {N : Int → Int} (h : mV N) {f : Int} (h0 : 0 ≤ f) (h1 : f < 6) : 0 ≤ mAge N f ∧ mAge N f ≤ 61 := by
  have q := h.f f h0 h1
  have r := h.n
  unfold mAge
  split <;> omega
theorem mDem_b {N : Int → Int} (h : mV N) {f : Int} (h0 : 0 ≤ f) (h1 : f < 6) (k : Nat) : 0 ≤ mDemN N f k ∧ mDemN N f k ≤ 9999 := by
  have q := h.f f h0 h1
  induction k with
  | zero => show 0 ≤ mF N f 0 ∧ mF N f 0 ≤ 9999; omega
  | succ k ih =>
    show 0 ≤ mDemN N f k * mF N f 1 / 100 ∧ mDemN N f k * mF N f 1 / 100 ≤ 9999
    have a : 0 ≤ mDemN N f k * mF N f 1 := Int.mul_nonneg (by omega) (by omega)
    have b : mDemN N f k * mF N f 1 ≤ 9999 * 100 := Int.mul_le_mul (by omega) (by omega) (by omega) (by omega)
    omega
theorem mDem_p {N : Int → Int} (h : mV N) {f : Int} (h0 : 0 ≤ f) (h1 : f < 6) (k : Nat) : 0 ≤ mDemN N f k * mF N f 1 ∧ mDemN N f k * mF N f 1 ≤ 999900 := by
  have q := h.f f h0 h1
  have c := mDem_b h h0 h1 k
  have a : 0 ≤ mDemN N f k * mF N f 1 := Int.mul_nonneg (by omega) (by omega)
  have b : mDemN N f k * mF N f 1 ≤ 9999 * 100 := Int.mul_le_mul (by omega) (by omega) (by omega) (by omega)
  omega
def gV (g : Int → Int) : Prop := ∀ j, 0 ≤ j → j < 70 → 0 ≤ g j ∧ g j ≤ 3000
theorem gByN_b {N g : Int → Int} (hg : gV g) {s : Int} (h0 : 0 ≤ s) (h1 : s < 10) (f : Int) (n : Nat) (hn : n ≤ 7) : 0 ≤ gByN N g s f n ∧ gByN N g s f n ≤ n * 3000 := by
  have a := zsum_ge (f := fun day => if f = -1 ∨ mSh N s day = f then g (7 * s + day) else 0) (n := n) (a := 0) fun i hi => by have := hg (7 * s + i) (by omega) (by omega); split <;> omega
  have b := zsum_le (f := fun day => if f = -1 ∨ mSh N s day = f then g (7 * s + day) else 0) (n := n) (a := 3000) fun i hi => by have := hg (7 * s + i) (by omega) (by omega); split <;> omega
  unfold gByN
  omega
theorem gBy_b {N g : Int → Int} (h : mV N) (hg : gV g) {s : Int} (h0 : 0 ≤ s) (h1 : s < 10) (f : Int) : 0 ≤ gBy N g s f ∧ gBy N g s f ≤ 2079000 := by
  have p := mPrice_b h h0 h1
  have q := gByN_b (N := N) hg h0 h1 f 7 (Nat.le_refl _)
  have a : 0 ≤ gByN N g s f 7 * mPrice N s := Int.mul_nonneg (by omega) (by omega)
  have b : gByN N g s f 7 * mPrice N s ≤ 21000 * 99 := Int.mul_le_mul (by omega) (by omega) (by omega) (by omega)
  unfold gBy
  omega
theorem gIn_b {N g : Int → Int} (h : mV N) (hg : gV g) (ho f : Int) (n : Nat) (hn : n ≤ 10) : 0 ≤ gInN N g ho f n ∧ gInN N g ho f n ≤ 20790000 := by
  have a := zsum_ge (f := fun s => if ho = -1 ∨ mS N s 0 = ho then gBy N g s f else 0) (n := n) (a := 0) fun i hi => by have := gBy_b h hg (s := i) (by omega) (by omega) f; split <;> omega
  have b := zsum_le (f := fun s => if ho = -1 ∨ mS N s 0 = ho then gBy N g s f else 0) (n := n) (a := 2079000) fun i hi => by have := gBy_b h hg (s := i) (by omega) (by omega) f; split <;> omega
  unfold gInN
  omega
theorem mIdx_b {N : Int → Int} (h : mV N) {ho f : Int} (a0 : 0 ≤ ho) (a1 : ho < 4) (h0 : 0 ≤ f) (h1 : f < N 2) : 0 ≤ mIdx N ho f ∧ mIdx N ho f < 4 ∧ 0 ≤ mF N f (4 + mIdx N ho f) ∧ mF N f (4 + mIdx N ho f) ≤ 90 := by
  have n := h.n
  have q := h.f f h0 (by omega)
  have r := h.r ho f a0 a1 h0 (by omega)
  have c : 0 ≤ mIdx N ho f ∧ mIdx N ho f < 4 := by unfold mIdx; omega
  have t := h.t f (mIdx N ho f) h0 (by omega) c.1 c.2
  omega
theorem mShare_p {N : Int → Int} (h : mV N) {ho f t : Int} (a0 : 0 ≤ ho) (a1 : ho < 4) (h0 : 0 ≤ f) (h1 : f < N 2) (t0 : 0 ≤ t) (t1 : t ≤ 20790000) : 0 ≤ t * mF N f (4 + mIdx N ho f) ∧ t * mF N f (4 + mIdx N ho f) ≤ 1871100000 := by
  have c := mIdx_b h a0 a1 h0 h1
  have a : 0 ≤ t * mF N f (4 + mIdx N ho f) := Int.mul_nonneg t0 (by omega)
  have b : t * mF N f (4 + mIdx N ho f) ≤ 20790000 * 90 := Int.mul_le_mul t1 (by omega) (by omega) (by omega)
  omega
theorem zt_X12_showing {h f b : Int} (hM : zMo σ hm A) (hV : mV (zia σ (A 0))) (h2 : zrg h) (h3 : zrg f) (h4 : zrg b) : zP1 G mX12_showing (d + 5) [zR hm, zI h, zI f, zI b] σ (mCnt (zia σ (A 0)) h f b) := by
  refine zE_of rfl (by simp [zcat]) (Nat.le_of_ble_eq_true rfl) ?_
  show zF G mX12_showing (d + 5) 0 [(0, zR hm), (1, zI h), (2, zI f), (3, zI b)] [] σ _
  have hb := hV.b
  have hn := hV.n
  have hs := nS_eq hV
  refine zF_iconst 1 dX12_showing_0 rfl ?_
  refine zF_istore 3 (ls' := [(4, zI 0), (0, zR hm), (1, zI h), (2, zI f), (3, zI b)]) dX12_showing_1 rfl (by decide) rfl ?_
  refine zF_iconst 4 dX12_showing_3 rfl ?_
  refine zF_istore 6 (ls' := [(5, zI 0), (4, zI 0), (0, zR hm), (1, zI h), (2, zI f), (3, zI b)]) dX12_showing_4 rfl (by decide) rfl ?_
  refine zF_locs (ls' := (fun (i : Nat) => [(5, zI (i : Int)), (4, zI (mCntN (zia σ (A 0)) h f b i)), (0, zR hm), (1, zI h), (2, zI f), (3, zI b)]) 0) ⟨zlI rfl (by first | rfl | omega | (push_cast; omega) | exact congrArg (_ + ·) (zbT (by assumption)) | exact congrArg (_ + ·) (zbF (by assumption)) | exact congrArg (_ + ·) (zbT (by omega)) | exact congrArg (_ + ·) (zbF (by omega)) | exact congrArg (_ + ·) (if_pos (by omega)).symm | exact congrArg (_ + ·) (if_neg (by omega)).symm | exact (if_pos (by omega)).symm | exact (if_neg (by omega)).symm | exact zsub_s (if_pos (by omega)).symm | exact zsub_s0 (if_neg (by omega)).symm | exact zadd0 (if_neg (by omega)).symm | exact zadd0 (zbF (by omega)) | exact (Int.sub_zero _).symm), zlI rfl (by first | rfl | omega | (push_cast; omega) | exact congrArg (_ + ·) (zbT (by assumption)) | exact congrArg (_ + ·) (zbF (by assumption)) | exact congrArg (_ + ·) (zbT (by omega)) | exact congrArg (_ + ·) (zbF (by omega)) | exact congrArg (_ + ·) (if_pos (by omega)).symm | exact congrArg (_ + ·) (if_neg (by omega)).symm | exact (if_pos (by omega)).symm | exact (if_neg (by omega)).symm | exact zsub_s (if_pos (by omega)).symm | exact zsub_s0 (if_neg (by omega)).symm | exact zadd0 (if_neg (by omega)).symm | exact zadd0 (zbF (by omega)) | exact (Int.sub_zero _).symm), rfl, rfl, rfl, rfl, trivial⟩ ?_
  refine zF_loop (n := (nS (zia σ (A 0)))) (fun (i : Nat) => [(5, zI (i : Int)), (4, zI (mCntN (zia σ (A 0)) h f b i)), (0, zR hm), (1, zI h), (2, zI f), (3, zI b)]) (fun _ => σ) (fun i hi ih6 => ?_) ?_
  · show zF G mX12_showing (d + 5) 6 [(5, zI (i : Int)), (4, zI (mCntN (zia σ (A 0)) h f b i)), (0, zR hm), (1, zI h), (2, zI f), (3, zI b)] [] σ _
    refine zF_iload 8 dX12_showing_6 rfl rfl ?_
    refine zF_aload_n 9 dX12_showing_8 rfl rfl ?_
    refine zF_callVi 12 (d2 := (d + 4)) (as := []) dX12_showing_9 rfl kX12_113 iX12_screens (ci := 12) rfl eX12_screens (Nat.le_refl _) hM.1 hM.2.1 rfl rfl (Nat.le_of_ble_eq_true rfl) (zn_X12_screens hM rfl) ?_
    refine zF_icmp_ge 43 15 dX12_showing_12 rfl rfl (by first | decide | exact hb _ | exact mSh_rg hb _ _ | assumption | exact zb_rg _ | (constructor <;> omega)) (by first | decide | exact hb _ | exact mSh_rg hb _ _ | assumption | exact zb_rg _ | (constructor <;> omega)) (fun c1 => ?_) (fun c1 => ?_)
    · exact absurd c1 (by omega)
    · refine zF_iload 17 dX12_showing_15 rfl rfl ?_
      refine zF_aload_n 18 dX12_showing_17 rfl rfl ?_
      refine zF_iload 20 dX12_showing_18 rfl rfl ?_
      refine zF_iload_n 21 dX12_showing_20 rfl rfl ?_
      refine zF_iload_n 22 dX12_showing_21 rfl rfl ?_
      refine zF_iload_n 23 dX12_showing_22 rfl rfl ?_
      refine zF_callVi 26 (d2 := (d + 4)) (as := [zI (i : Int), zI h, zI f, zI b]) dX12_showing_23 rfl kX12_132 iX12_shows (ci := 12) rfl eX12_shows (Nat.le_refl _) hM.1 hM.2.1 rfl rfl (Nat.le_of_ble_eq_true rfl) (zn_X12_shows hM rfl hb (by omega) (by omega) (by first | decide | exact hb _ | exact mSh_rg hb _ _ | assumption | exact zb_rg _ | (constructor <;> omega)) (by first | decide | exact hb _ | exact mSh_rg hb _ _ | assumption | exact zb_rg _ | (constructor <;> omega)) (by first | decide | exact hb _ | exact mSh_rg hb _ _ | assumption | exact zb_rg _ | (constructor <;> omega))) ?_
      refine zF_ifb_eq 33 29 dX12_showing_26 rfl rfl (fun c2 => ?_) (fun c2 => ?_)
      · refine zF_iconst 34 dX12_showing_33 rfl ?_
        refine zF_iadd 35 dX12_showing_34 rfl ?_
        refine zF_istore 37 (ls' := [(4, zI ((mCntN (zia σ (A 0)) h f b i) + 0)), (5, zI (i : Int)), (0, zR hm), (1, zI h), (2, zI f), (3, zI b)]) dX12_showing_35 rfl (by decide) rfl ?_
        refine zF_iinc 40 (ls' := [(5, zI ((i : Int) + 1)), (4, zI ((mCntN (zia σ (A 0)) h f b i) + 0)), (0, zR hm), (1, zI h), (2, zI f), (3, zI b)]) dX12_showing_37 rfl rfl rfl (by decide) rfl ?_
        refine zF_goto 6 dX12_showing_40 rfl ?_
        exact zF_locs (ls' := [(5, zI ((i + 1 : Nat) : Int)), (4, zI (mCntN (zia σ (A 0)) h f b (i + 1))), (0, zR hm), (1, zI h), (2, zI f), (3, zI b)]) ⟨zlI rfl (by first | rfl | omega | (push_cast; omega) | exact congrArg (_ + ·) (zbT (by assumption)) | exact congrArg (_ + ·) (zbF (by assumption)) | exact congrArg (_ + ·) (zbT (by omega)) | exact congrArg (_ + ·) (zbF (by omega)) | exact congrArg (_ + ·) (if_pos (by omega)).symm | exact congrArg (_ + ·) (if_neg (by omega)).symm | exact (if_pos (by omega)).symm | exact (if_neg (by omega)).symm | exact zsub_s (if_pos (by omega)).symm | exact zsub_s0 (if_neg (by omega)).symm | exact zadd0 (if_neg (by omega)).symm | exact zadd0 (zbF (by omega)) | exact (Int.sub_zero _).symm), zlI rfl (by first | rfl | omega | (push_cast; omega) | exact congrArg (_ + ·) (zbT (by assumption)) | exact congrArg (_ + ·) (zbF (by assumption)) | exact congrArg (_ + ·) (zbT (by omega)) | exact congrArg (_ + ·) (zbF (by omega)) | exact congrArg (_ + ·) (if_pos (by omega)).symm | exact congrArg (_ + ·) (if_neg (by omega)).symm | exact (if_pos (by omega)).symm | exact (if_neg (by omega)).symm | exact zsub_s (if_pos (by omega)).symm | exact zsub_s0 (if_neg (by omega)).symm | exact zadd0 (if_neg (by omega)).symm | exact zadd0 (zbF (by omega)) | exact (Int.sub_zero _).symm), rfl, rfl, rfl, rfl, trivial⟩ ih6
      · refine zF_iconst 30 dX12_showing_29 rfl ?_
        refine zF_goto 34 dX12_showing_30 rfl ?_
        refine zF_iadd 35 dX12_showing_34 rfl ?_
        refine zF_istore 37 (ls' := [(4, zI ((mCntN (zia σ (A 0)) h f b i) + 1)), (5, zI (i : Int)), (0, zR hm), (1, zI h), (2, zI f), (3, zI b)]) dX12_showing_35 rfl (by decide) rfl ?_
        refine zF_iinc 40 (ls' := [(5, zI ((i : Int) + 1)), (4, zI ((mCntN (zia σ (A 0)) h f b i) + 1)), (0, zR hm), (1, zI h), (2, zI f), (3, zI b)]) dX12_showing_37 rfl rfl rfl (by decide) rfl ?_
        refine zF_goto 6 dX12_showing_40 rfl ?_
        exact zF_locs (ls' := [(5, zI ((i + 1 : Nat) : Int)), (4, zI (mCntN (zia σ (A 0)) h f b (i + 1))), (0, zR hm), (1, zI h), (2, zI f), (3, zI b)]) ⟨zlI rfl (by first | rfl | omega | (push_cast; omega) | exact congrArg (_ + ·) (zbT (by assumption)) | exact congrArg (_ + ·) (zbF (by assumption)) | exact congrArg (_ + ·) (zbT (by omega)) | exact congrArg (_ + ·) (zbF (by omega)) | exact congrArg (_ + ·) (if_pos (by omega)).symm | exact congrArg (_ + ·) (if_neg (by omega)).symm | exact (if_pos (by omega)).symm | exact (if_neg (by omega)).symm | exact zsub_s (if_pos (by omega)).symm | exact zsub_s0 (if_neg (by omega)).symm | exact zadd0 (if_neg (by omega)).symm | exact zadd0 (zbF (by omega)) | exact (Int.sub_zero _).symm), zlI rfl (by first | rfl | omega | (push_cast; omega) | exact congrArg (_ + ·) (zbT (by assumption)) | exact congrArg (_ + ·) (zbF (by assumption)) | exact congrArg (_ + ·) (zbT (by omega)) | exact congrArg (_ + ·) (zbF (by omega)) | exact congrArg (_ + ·) (if_pos (by omega)).symm | exact congrArg (_ + ·) (if_neg (by omega)).symm | exact (if_pos (by omega)).symm | exact (if_neg (by omega)).symm | exact zsub_s (if_pos (by omega)).symm | exact zsub_s0 (if_neg (by omega)).symm | exact zadd0 (if_neg (by omega)).symm | exact zadd0 (zbF (by omega)) | exact (Int.sub_zero _).symm), rfl, rfl, rfl, rfl, trivial⟩ ih6
  · show zF G mX12_showing (d + 5) 6 [(5, zI (((nS (zia σ (A 0))) : Nat) : Int)), (4, zI (mCntN (zia σ (A 0)) h f b (nS (zia σ (A 0))))), (0, zR hm), (1, zI h), (2, zI f), (3, zI b)] [] σ _
    refine zF_iload 8 dX12_showing_6 rfl rfl ?_
    refine zF_aload_n 9 dX12_showing_8 rfl rfl ?_
    refine zF_callVi 12 (d2 := (d + 4)) (as := []) dX12_showing_9 rfl kX12_113 iX12_screens (ci := 12) rfl eX12_screens (Nat.le_refl _) hM.1 hM.2.1 rfl rfl (Nat.le_of_ble_eq_true rfl) (zn_X12_screens hM rfl) ?_
    refine zF_icmp_ge 43 15 dX12_showing_12 rfl rfl (by first | decide | exact hb _ | exact mSh_rg hb _ _ | assumption | exact zb_rg _ | (constructor <;> omega)) (by first | decide | exact hb _ | exact mSh_rg hb _ _ | assumption | exact zb_rg _ | (constructor <;> omega)) (fun c3 => ?_) (fun c3 => ?_)
    · refine zF_iload 45 dX12_showing_43 rfl rfl ?_
      exact zF_iretP dX12_showing_45 rfl (rfl)
    · exact absurd c3 (by omega)
theorem zn_X12_showing {N : Int → Int} {h f b : Int} (hM : zMo σ hm A) (hN : zia σ (A 0) = N) (hV : mV N) (h2 : zrg h) (h3 : zrg f) (h4 : zrg b) : zP1 G mX12_showing (d + 5) [zR hm, zI h, zI f, zI b] σ (mCnt N h f b) := by
  subst hN
  exact zt_X12_showing hM hV h2 h3 h4
theorem zt_X12_needed {h f : Int} (hM : zMo σ hm A) (hV : mV (zia σ (A 0))) (h2 : zrg h) (h3 : zrg f) : zP1 G mX12_needed (d + 6) [zR hm, zI h, zI f] σ (mNeed (zia σ (A 0)) h f) := by
  refine zE_of rfl (by simp [zcat]) (Nat.le_of_ble_eq_true rfl) ?_
  show zF G mX12_needed (d + 6) 0 [(0, zR hm), (1, zI h), (2, zI f)] [] σ _
  have hb := hV.b
  have hn := hV.n
  refine zF_iconst 1 dX12_needed_0 rfl ?_
  refine zF_istore_n 2 (ls' := [(3, zI 0), (0, zR hm), (1, zI h), (2, zI f)]) dX12_needed_1 rfl (by decide) rfl ?_
  refine zF_iconst 3 dX12_needed_2 rfl ?_
  refine zF_istore 5 (ls' := [(4, zI 0), (3, zI 0), (0, zR hm), (1, zI h), (2, zI f)]) dX12_needed_3 rfl (by decide) rfl ?_
  refine zF_locs (ls' := (fun (i : Nat) => [(4, zI (i : Int)), (3, zI (mNeedN (zia σ (A 0)) h f i)), (0, zR hm), (1, zI h), (2, zI f)]) 0) ⟨zlI rfl (by first | rfl | omega | (push_cast; omega) | exact congrArg (_ + ·) (zbT (by assumption)) | exact congrArg (_ + ·) (zbF (by assumption)) | exact congrArg (_ + ·) (zbT (by omega)) | exact congrArg (_ + ·) (zbF (by omega)) | exact congrArg (_ + ·) (if_pos (by omega)).symm | exact congrArg (_ + ·) (if_neg (by omega)).symm | exact (if_pos (by omega)).symm | exact (if_neg (by omega)).symm | exact zsub_s (if_pos (by omega)).symm | exact zsub_s0 (if_neg (by omega)).symm | exact zadd0 (if_neg (by omega)).symm | exact zadd0 (zbF (by omega)) | exact (Int.sub_zero _).symm), zlI rfl (by first | rfl | omega | (push_cast; omega) | exact congrArg (_ + ·) (zbT (by assumption)) | exact congrArg (_ + ·) (zbF (by assumption)) | exact congrArg (_ + ·) (zbT (by omega)) | exact congrArg (_ + ·) (zbF (by omega)) | exact congrArg (_ + ·) (if_pos (by omega)).symm | exact congrArg (_ + ·) (if_neg (by omega)).symm | exact (if_pos (by omega)).symm | exact (if_neg (by omega)).symm | exact zsub_s (if_pos (by omega)).symm | exact zsub_s0 (if_neg (by omega)).symm | exact zadd0 (if_neg (by omega)).symm | exact zadd0 (zbF (by omega)) | exact (Int.sub_zero _).symm), rfl, rfl, rfl, trivial⟩ ?_
  refine zF_loop (n := 7) (fun (i : Nat) => [(4, zI (i : Int)), (3, zI (mNeedN (zia σ (A 0)) h f i)), (0, zR hm), (1, zI h), (2, zI f)]) (fun _ => σ) (fun i hi ih5 => ?_) ?_
  · show zF G mX12_needed (d + 6) 5 [(4, zI (i : Int)), (3, zI (mNeedN (zia σ (A 0)) h f i)), (0, zR hm), (1, zI h), (2, zI f)] [] σ _
    have q1 := mNeed_b hV h f i
    have q2 := mCnt_b hV h f (i : Int)
    refine zF_iload 7 dX12_needed_5 rfl rfl ?_
    refine zF_bipush 9 dX12_needed_7 rfl (by decide) ?_
    refine zF_icmp_ge 31 12 dX12_needed_9 rfl rfl (by first | decide | exact hb _ | exact mSh_rg hb _ _ | assumption | exact zb_rg _ | (constructor <;> omega)) (by first | decide | exact hb _ | exact mSh_rg hb _ _ | assumption | exact zb_rg _ | (constructor <;> omega)) (fun c1 => ?_) (fun c1 => ?_)
    · exact absurd c1 (by omega)
    · refine zF_iload_n 13 dX12_needed_12 rfl rfl ?_
      refine zF_aload_n 14 dX12_needed_13 rfl rfl ?_
      refine zF_iload_n 15 dX12_needed_14 rfl rfl ?_
      refine zF_iload_n 16 dX12_needed_15 rfl rfl ?_
      refine zF_iload 18 dX12_needed_16 rfl rfl ?_
      refine zF_callVi 21 (d2 := (d + 5)) (as := [zI h, zI f, zI (i : Int)]) dX12_needed_18 rfl kX12_136 iX12_showing (ci := 12) rfl eX12_showing (Nat.le_refl _) hM.1 hM.2.1 rfl rfl (Nat.le_of_ble_eq_true rfl) (zn_X12_showing hM rfl hV (by first | decide | exact hb _ | exact mSh_rg hb _ _ | assumption | exact zb_rg _ | (constructor <;> omega)) (by first | decide | exact hb _ | exact mSh_rg hb _ _ | assumption | exact zb_rg _ | (constructor <;> omega)) (by first | decide | exact hb _ | exact mSh_rg hb _ _ | assumption | exact zb_rg _ | (constructor <;> omega))) ?_
      refine zF_max 24 dX12_needed_21 rfl kX12_140 (Nat.le_refl _) (by first | decide | exact hb _ | exact mSh_rg hb _ _ | assumption | exact zb_rg _ | (constructor <;> omega)) (by first | decide | exact hb _ | exact mSh_rg hb _ _ | assumption | exact zb_rg _ | (constructor <;> omega)) (Nat.le_of_ble_eq_true rfl) ?_
      refine zF_istore_n 25 (ls' := [(3, zI (max (mNeedN (zia σ (A 0)) h f i) (mCnt (zia σ (A 0)) h f (i : Int)))), (4, zI (i : Int)), (0, zR hm), (1, zI h), (2, zI f)]) dX12_needed_24 rfl (by decide) rfl ?_
      refine zF_iinc 28 (ls' := [(4, zI ((i : Int) + 1)), (3, zI (max (mNeedN (zia σ (A 0)) h f i) (mCnt (zia σ (A 0)) h f (i : Int)))), (0, zR hm), (1, zI h), (2, zI f)]) dX12_needed_25 rfl rfl rfl (by decide) rfl ?_
      refine zF_goto 5 dX12_needed_28 rfl ?_
      exact zF_locs (ls' := [(4, zI ((i + 1 : Nat) : Int)), (3, zI (mNeedN (zia σ (A 0)) h f (i + 1))), (0, zR hm), (1, zI h), (2, zI f)]) ⟨zlI rfl (by first | rfl | omega | (push_cast; omega) | exact congrArg (_ + ·) (zbT (by assumption)) | exact congrArg (_ + ·) (zbF (by assumption)) | exact congrArg (_ + ·) (zbT (by omega)) | exact congrArg (_ + ·) (zbF (by omega)) | exact congrArg (_ + ·) (if_pos (by omega)).symm | exact congrArg (_ + ·) (if_neg (by omega)).symm | exact (if_pos (by omega)).symm | exact (if_neg (by omega)).symm | exact zsub_s (if_pos (by omega)).symm | exact zsub_s0 (if_neg (by omega)).symm | exact zadd0 (if_neg (by omega)).symm | exact zadd0 (zbF (by omega)) | exact (Int.sub_zero _).symm), zlI rfl (by first | rfl | omega | (push_cast; omega) | exact congrArg (_ + ·) (zbT (by assumption)) | exact congrArg (_ + ·) (zbF (by assumption)) | exact congrArg (_ + ·) (zbT (by omega)) | exact congrArg (_ + ·) (zbF (by omega)) | exact congrArg (_ + ·) (if_pos (by omega)).symm | exact congrArg (_ + ·) (if_neg (by omega)).symm | exact (if_pos (by omega)).symm | exact (if_neg (by omega)).symm | exact zsub_s (if_pos (by omega)).symm | exact zsub_s0 (if_neg (by omega)).symm | exact zadd0 (if_neg (by omega)).symm | exact zadd0 (zbF (by omega)) | exact (Int.sub_zero _).symm), rfl, rfl, rfl, trivial⟩ ih5
  · show zF G mX12_needed (d + 6) 5 [(4, zI ((7 : Nat) : Int)), (3, zI (mNeedN (zia σ (A 0)) h f 7)), (0, zR hm), (1, zI h), (2, zI f)] [] σ _
    refine zF_iload 7 dX12_needed_5 rfl rfl ?_
    refine zF_bipush 9 dX12_needed_7 rfl (by decide) ?_
    refine zF_icmp_ge 31 12 dX12_needed_9 rfl rfl (by first | decide | exact hb _ | exact mSh_rg hb _ _ | assumption | exact zb_rg _ | (constructor <;> omega)) (by first | decide | exact hb _ | exact mSh_rg hb _ _ | assumption | exact zb_rg _ | (constructor <;> omega)) (fun c2 => ?_) (fun c2 => ?_)
    · refine zF_iload_n 32 dX12_needed_31 rfl rfl ?_
      exact zF_iretP dX12_needed_32 rfl (rfl)
    · exact absurd c2 (by omega)
theorem zn_X12_needed {N : Int → Int} {h f : Int} (hM : zMo σ hm A) (hN : zia σ (A 0) = N) (hV : mV N) (h2 : zrg h) (h3 : zrg f) : zP1 G mX12_needed (d + 6) [zR hm, zI h, zI f] σ (mNeed N h f) := by
  subst hN
  exact zt_X12_needed hM hV h2 h3
theorem zt_X12_isShown {h f : Int} (hM : zMo σ hm A) (hV : mV (zia σ (A 0))) (h2 : zrg h) (h3 : zrg f) : zP1 G mX12_isShown (d + 7) [zR hm, zI h, zI f] σ (zb (0 < mNeed (zia σ (A 0)) h f)) := by
  refine zE_of rfl (by simp [zcat]) (Nat.le_of_ble_eq_true rfl) ?_
  show zF G mX12_isShown (d + 7) 0 [(0, zR hm), (1, zI h), (2, zI f)] [] σ _
  have hb := hV.b
  have hn := hV.n
  have q1 := mNeed_b hV h f 7
  have q2 : mNeed (zia σ (A 0)) h f = mNeedN (zia σ (A 0)) h f 7 := rfl
  refine zF_aload_n 1 dX12_isShown_0 rfl rfl ?_
  refine zF_iload_n 2 dX12_isShown_1 rfl rfl ?_
  refine zF_iload_n 3 dX12_isShown_2 rfl rfl ?_
  refine zF_callVi 6 (d2 := (d + 6)) (as := [zI h, zI f]) dX12_isShown_3 rfl kX12_145 iX12_needed (ci := 12) rfl eX12_needed (Nat.le_refl _) hM.1 hM.2.1 rfl rfl (Nat.le_of_ble_eq_true rfl) (zn_X12_needed hM rfl hV (by first | decide | exact hb _ | exact mSh_rg hb _ _ | assumption | exact zb_rg _ | (constructor <;> omega)) (by first | decide | exact hb _ | exact mSh_rg hb _ _ | assumption | exact zb_rg _ | (constructor <;> omega))) ?_
  refine zF_if_le 13 9 dX12_isShown_6 rfl rfl (by first | decide | exact hb _ | exact mSh_rg hb _ _ | assumption | exact zb_rg _ | (constructor <;> omega)) (fun c1 => ?_) (fun c1 => ?_)
  · refine zF_iconst 14 dX12_isShown_13 rfl ?_
    exact zF_zretP dX12_isShown_14 rfl (by decide) (by first | rfl | exact zbT (by omega) | exact zbF (by omega) | omega)
  · refine zF_iconst 10 dX12_isShown_9 rfl ?_
    refine zF_goto 14 dX12_isShown_10 rfl ?_
    exact zF_zretP dX12_isShown_14 rfl (by decide) (by first | rfl | exact zbT (by omega) | exact zbF (by omega) | omega)
theorem zn_X12_isShown {N : Int → Int} {h f : Int} (hM : zMo σ hm A) (hN : zia σ (A 0) = N) (hV : mV N) (h2 : zrg h) (h3 : zrg f) : zP1 G mX12_isShown (d + 7) [zR hm, zI h, zI f] σ (zb (0 < mNeed N h f)) := by
  subst hN
  exact zt_X12_isShown hM hV h2 h3
theorem zt_X12_ageOf {f : Int} (hM : zMo σ hm A) (hV : mV (zia σ (A 0))) (h0 : 0 ≤ f) (h1 : f < 6) : zP1 G mX12_ageOf (d + 2) [zR hm, zI f] σ (mAge (zia σ (A 0)) f) := by
  refine zE_of rfl (by simp [zcat]) (Nat.le_of_ble_eq_true rfl) ?_
  show zF G mX12_ageOf (d + 2) 0 [(0, zR hm), (1, zI f)] [] σ _
  have hb := hV.b
  have hn := hV.n
  refine zF_aload_n 1 dX12_ageOf_0 rfl rfl ?_
  refine zF_iload_n 2 dX12_ageOf_1 rfl rfl ?_
  refine zF_bipush 4 dX12_ageOf_2 rfl (by decide) ?_
  refine zF_callVi 7 (d2 := (d + 1)) (as := [zI f, zI 8]) dX12_ageOf_4 rfl kX12_148 iX12_ofFilm (ci := 12) rfl eX12_ofFilm (Nat.le_refl _) hM.1 hM.2.1 rfl rfl (Nat.le_of_ble_eq_true rfl) (zn_X12_ofFilm hM rfl (by omega) (by omega)) ?_
  refine zF_iconst 8 dX12_ageOf_7 rfl ?_
  refine zF_icmp_ne 15 11 dX12_ageOf_8 rfl rfl (by first | decide | exact hb _ | exact mSh_rg hb _ _ | assumption | exact zb_rg _ | (constructor <;> omega)) (by first | decide | exact hb _ | exact mSh_rg hb _ _ | assumption | exact zb_rg _ | (constructor <;> omega)) (fun c1 => ?_) (fun c1 => ?_)
  · refine zF_aload_n 16 dX12_ageOf_15 rfl rfl ?_
    refine zF_getR 19 dX12_ageOf_16 rfl gX12_9 hM.1 hM.2.1 (zM_0 hM).1 ?_
    refine zF_iconst 20 dX12_ageOf_19 rfl ?_
    refine zF_iaload 21 dX12_ageOf_20 rfl (zM_0 hM).2.2 (zM_0 hM).2.1 (by omega) (by omega) rfl ?_
    refine zF_aload_n 22 dX12_ageOf_21 rfl rfl ?_
    refine zF_iload_n 23 dX12_ageOf_22 rfl rfl ?_
    refine zF_bipush 25 dX12_ageOf_23 rfl (by decide) ?_
    refine zF_callVi 28 (d2 := (d + 1)) (as := [zI f, zI 8]) dX12_ageOf_25 rfl kX12_148 iX12_ofFilm (ci := 12) rfl eX12_ofFilm (Nat.le_refl _) hM.1 hM.2.1 rfl rfl (Nat.le_of_ble_eq_true rfl) (zn_X12_ofFilm hM rfl (by omega) (by omega)) ?_
    refine zF_isub 29 dX12_ageOf_28 rfl ?_
    exact zF_iretP dX12_ageOf_29 rfl (by first | exact (if_pos (by omega)).symm | exact (if_neg (by omega)).symm)
  · refine zF_iconst 12 dX12_ageOf_11 rfl ?_
    refine zF_goto 29 dX12_ageOf_12 rfl ?_
    exact zF_iretP dX12_ageOf_29 rfl (by first | exact (if_pos (by omega)).symm | exact (if_neg (by omega)).symm)
theorem zn_X12_ageOf {N : Int → Int} {f : Int} (hM : zMo σ hm A) (hN : zia σ (A 0) = N) (hV : mV N) (h0 : 0 ≤ f) (h1 : f < 6) : zP1 G mX12_ageOf (d + 2) [zR hm, zI f] σ (mAge N f) := by
  subst hN
  exact zt_X12_ageOf hM hV h0 h1
theorem zt_X12_demandOf {f : Int} (hM : zMo σ hm A) (hV : mV (zia σ (A 0))) (h0 : 0 ≤ f) (h1 : f < 6) : zP1 G mX12_demandOf (d + 3) [zR hm, zI f] σ (mDem (zia σ (A 0)) f) := by
  refine zE_of rfl (by simp [zcat]) (Nat.le_of_ble_eq_true rfl) ?_
  show zF G mX12_demandOf (d + 3) 0 [(0, zR hm), (1, zI f)] [] σ _
  have hb := hV.b
  have hn := hV.n
  have ha := mAge_b hV h0 h1
  refine zF_aload_n 1 dX12_demandOf_0 rfl rfl ?_
  refine zF_iload_n 2 dX12_demandOf_1 rfl rfl ?_
  refine zF_iconst 3 dX12_demandOf_2 rfl ?_
  refine zF_callVi 6 (d2 := (d + 2)) (as := [zI f, zI 0]) dX12_demandOf_3 rfl kX12_148 iX12_ofFilm (ci := 12) rfl eX12_ofFilm (Nat.le_refl _) hM.1 hM.2.1 rfl rfl (Nat.le_of_ble_eq_true rfl) (zn_X12_ofFilm hM rfl (by omega) (by omega)) ?_
  refine zF_istore_n 7 (ls' := [(2, zI (mF (zia σ (A 0)) f 0)), (0, zR hm), (1, zI f)]) dX12_demandOf_6 rfl (by decide) rfl ?_
  refine zF_aload_n 8 dX12_demandOf_7 rfl rfl ?_
  refine zF_iload_n 9 dX12_demandOf_8 rfl rfl ?_
  refine zF_callVi 12 (d2 := (d + 2)) (as := [zI f]) dX12_demandOf_9 rfl kX12_151 iX12_ageOf (ci := 12) rfl eX12_ageOf (Nat.le_refl _) hM.1 hM.2.1 rfl rfl (Nat.le_of_ble_eq_true rfl) (zn_X12_ageOf hM rfl hV (by omega) (by omega)) ?_
  refine zF_istore_n 13 (ls' := [(3, zI (mAge (zia σ (A 0)) f)), (2, zI (mF (zia σ (A 0)) f 0)), (0, zR hm), (1, zI f)]) dX12_demandOf_12 rfl (by decide) rfl ?_
  refine zF_locs (ls' := (fun (i : Nat) => [(3, zI (mAge (zia σ (A 0)) f - (i : Int))), (2, zI (mDemN (zia σ (A 0)) f i)), (0, zR hm), (1, zI f)]) 0) ⟨zlI rfl (by first | rfl | omega | (push_cast; omega) | exact congrArg (_ + ·) (zbT (by assumption)) | exact congrArg (_ + ·) (zbF (by assumption)) | exact congrArg (_ + ·) (zbT (by omega)) | exact congrArg (_ + ·) (zbF (by omega)) | exact congrArg (_ + ·) (if_pos (by omega)).symm | exact congrArg (_ + ·) (if_neg (by omega)).symm | exact (if_pos (by omega)).symm | exact (if_neg (by omega)).symm | exact zsub_s (if_pos (by omega)).symm | exact zsub_s0 (if_neg (by omega)).symm | exact zadd0 (if_neg (by omega)).symm | exact zadd0 (zbF (by omega)) | exact (Int.sub_zero _).symm), zlI rfl (by first | rfl | omega | (push_cast; omega) | exact congrArg (_ + ·) (zbT (by assumption)) | exact congrArg (_ + ·) (zbF (by assumption)) | exact congrArg (_ + ·) (zbT (by omega)) | exact congrArg (_ + ·) (zbF (by omega)) | exact congrArg (_ + ·) (if_pos (by omega)).symm | exact congrArg (_ + ·) (if_neg (by omega)).symm | exact (if_pos (by omega)).symm | exact (if_neg (by omega)).symm | exact zsub_s (if_pos (by omega)).symm | exact zsub_s0 (if_neg (by omega)).symm | exact zadd0 (if_neg (by omega)).symm | exact zadd0 (zbF (by omega)) | exact (Int.sub_zero _).symm), rfl, rfl, trivial⟩ ?_
  refine zF_loop (n := (mAge (zia σ (A 0)) f).toNat) (fun (i : Nat) => [(3, zI (mAge (zia σ (A 0)) f - (i : Int))), (2, zI (mDemN (zia σ (A 0)) f i)), (0, zR hm), (1, zI f)]) (fun _ => σ) (fun i hi ih13 => ?_) ?_
  · show zF G mX12_demandOf (d + 3) 13 [(3, zI (mAge (zia σ (A 0)) f - (i : Int))), (2, zI (mDemN (zia σ (A 0)) f i)), (0, zR hm), (1, zI f)] [] σ _
    have q1 := mDem_p hV h0 h1 i
    refine zF_iload_n 14 dX12_demandOf_13 rfl rfl ?_
    refine zF_if_le 35 17 dX12_demandOf_14 rfl rfl (by first | decide | exact hb _ | exact mSh_rg hb _ _ | assumption | exact zb_rg _ | (constructor <;> omega)) (fun c1 => ?_) (fun c1 => ?_)
    · exact absurd c1 (by omega)
    · refine zF_iload_n 18 dX12_demandOf_17 rfl rfl ?_
      refine zF_aload_n 19 dX12_demandOf_18 rfl rfl ?_
      refine zF_iload_n 20 dX12_demandOf_19 rfl rfl ?_
      refine zF_iconst 21 dX12_demandOf_20 rfl ?_
      refine zF_callVi 24 (d2 := (d + 2)) (as := [zI f, zI 1]) dX12_demandOf_21 rfl kX12_148 iX12_ofFilm (ci := 12) rfl eX12_ofFilm (Nat.le_refl _) hM.1 hM.2.1 rfl rfl (Nat.le_of_ble_eq_true rfl) (zn_X12_ofFilm hM rfl (by omega) (by omega)) ?_
      refine zF_imul 25 dX12_demandOf_24 rfl ?_
      refine zF_bipush 27 dX12_demandOf_25 rfl (by decide) ?_
      refine zF_idiv 28 dX12_demandOf_27 rfl (by omega) (by omega) (by omega) (by omega) ?_
      refine zF_istore_n 29 (ls' := [(2, zI (((mDemN (zia σ (A 0)) f i) * (mF (zia σ (A 0)) f 1)) / 100)), (3, zI (mAge (zia σ (A 0)) f - (i : Int))), (0, zR hm), (1, zI f)]) dX12_demandOf_28 rfl (by decide) rfl ?_
      refine zF_iinc 32 (ls' := [(3, zI ((mAge (zia σ (A 0)) f - (i : Int)) + (-1))), (2, zI (((mDemN (zia σ (A 0)) f i) * (mF (zia σ (A 0)) f 1)) / 100)), (0, zR hm), (1, zI f)]) dX12_demandOf_29 rfl rfl rfl (by decide) rfl ?_
      refine zF_goto 13 dX12_demandOf_32 rfl ?_
      exact zF_locs (ls' := [(3, zI (mAge (zia σ (A 0)) f - ((i + 1 : Nat) : Int))), (2, zI (mDemN (zia σ (A 0)) f (i + 1))), (0, zR hm), (1, zI f)]) ⟨zlI rfl (by first | rfl | omega | (push_cast; omega) | exact congrArg (_ + ·) (zbT (by assumption)) | exact congrArg (_ + ·) (zbF (by assumption)) | exact congrArg (_ + ·) (zbT (by omega)) | exact congrArg (_ + ·) (zbF (by omega)) | exact congrArg (_ + ·) (if_pos (by omega)).symm | exact congrArg (_ + ·) (if_neg (by omega)).symm | exact (if_pos (by omega)).symm | exact (if_neg (by omega)).symm | exact zsub_s (if_pos (by omega)).symm | exact zsub_s0 (if_neg (by omega)).symm | exact zadd0 (if_neg (by omega)).symm | exact zadd0 (zbF (by omega)) | exact (Int.sub_zero _).symm), zlI rfl (by first | rfl | omega | (push_cast; omega) | exact congrArg (_ + ·) (zbT (by assumption)) | exact congrArg (_ + ·) (zbF (by assumption)) | exact congrArg (_ + ·) (zbT (by omega)) | exact congrArg (_ + ·) (zbF (by omega)) | exact congrArg (_ + ·) (if_pos (by omega)).symm | exact congrArg (_ + ·) (if_neg (by omega)).symm | exact (if_pos (by omega)).symm | exact (if_neg (by omega)).symm | exact zsub_s (if_pos (by omega)).symm | exact zsub_s0 (if_neg (by omega)).symm | exact zadd0 (if_neg (by omega)).symm | exact zadd0 (zbF (by omega)) | exact (Int.sub_zero _).symm), rfl, rfl, trivial⟩ ih13
  · show zF G mX12_demandOf (d + 3) 13 [(3, zI (mAge (zia σ (A 0)) f - (((mAge (zia σ (A 0)) f).toNat : Nat) : Int))), (2, zI (mDemN (zia σ (A 0)) f (mAge (zia σ (A 0)) f).toNat)), (0, zR hm), (1, zI f)] [] σ _
    refine zF_iload_n 14 dX12_demandOf_13 rfl rfl ?_
    refine zF_if_le 35 17 dX12_demandOf_14 rfl rfl (by first | decide | exact hb _ | exact mSh_rg hb _ _ | assumption | exact zb_rg _ | (constructor <;> omega)) (fun c2 => ?_) (fun c2 => ?_)
    · refine zF_iload_n 36 dX12_demandOf_35 rfl rfl ?_
      exact zF_iretP dX12_demandOf_36 rfl (rfl)
    · exact absurd c2 (by omega)
theorem zn_X12_demandOf {N : Int → Int} {f : Int} (hM : zMo σ hm A) (hN : zia σ (A 0) = N) (hV : mV N) (h0 : 0 ≤ f) (h1 : f < 6) : zP1 G mX12_demandOf (d + 3) [zR hm, zI f] σ (mDem N f) := by
  subst hN
  exact zt_X12_demandOf hM hV h0 h1
theorem zt_X12_guestsOf {a : Int} (hM : zMo σ hm A) (h0 : 0 ≤ a) (h1 : a < 10) : zP1 G mX12_guestsOf d [zR hm, zI a] σ (gG (zia σ (A 7)) a 7) := by
  refine zE_of rfl (by simp [zcat]) (Nat.le_of_ble_eq_true rfl) ?_
  show zF G mX12_guestsOf d 0 [(0, zR hm), (1, zI a)] [] σ _
  refine zF_iconst 1 dX12_guestsOf_0 rfl ?_
  refine zF_istore_n 2 (ls' := [(2, zI 0), (0, zR hm), (1, zI a)]) dX12_guestsOf_1 rfl (by decide) rfl ?_
  refine zF_iconst 3 dX12_guestsOf_2 rfl ?_
  refine zF_istore_n 4 (ls' := [(3, zI 0), (2, zI 0), (0, zR hm), (1, zI a)]) dX12_guestsOf_3 rfl (by decide) rfl ?_
  refine zF_locs (ls' := (fun (i : Nat) => [(3, zI (i : Int)), (2, zI (gG (zia σ (A 7)) a i)), (0, zR hm), (1, zI a)]) 0) ⟨zlI rfl (by first | rfl | omega | (push_cast; omega) | exact congrArg (_ + ·) (zbT (by assumption)) | exact congrArg (_ + ·) (zbF (by assumption)) | exact congrArg (_ + ·) (zbT (by omega)) | exact congrArg (_ + ·) (zbF (by omega)) | exact congrArg (_ + ·) (if_pos (by omega)).symm | exact congrArg (_ + ·) (if_neg (by omega)).symm | exact (if_pos (by omega)).symm | exact (if_neg (by omega)).symm | exact zsub_s (if_pos (by omega)).symm | exact zsub_s0 (if_neg (by omega)).symm | exact zadd0 (if_neg (by omega)).symm | exact zadd0 (zbF (by omega)) | exact (Int.sub_zero _).symm), zlI rfl (by first | rfl | omega | (push_cast; omega) | exact congrArg (_ + ·) (zbT (by assumption)) | exact congrArg (_ + ·) (zbF (by assumption)) | exact congrArg (_ + ·) (zbT (by omega)) | exact congrArg (_ + ·) (zbF (by omega)) | exact congrArg (_ + ·) (if_pos (by omega)).symm | exact congrArg (_ + ·) (if_neg (by omega)).symm | exact (if_pos (by omega)).symm | exact (if_neg (by omega)).symm | exact zsub_s (if_pos (by omega)).symm | exact zsub_s0 (if_neg (by omega)).symm | exact zadd0 (if_neg (by omega)).symm | exact zadd0 (zbF (by omega)) | exact (Int.sub_zero _).symm), rfl, rfl, trivial⟩ ?_
  refine zF_loop (n := 7) (fun (i : Nat) => [(3, zI (i : Int)), (2, zI (gG (zia σ (A 7)) a i)), (0, zR hm), (1, zI a)]) (fun _ => σ) (fun i hi ih4 => ?_) ?_
  · show zF G mX12_guestsOf d 4 [(3, zI (i : Int)), (2, zI (gG (zia σ (A 7)) a i)), (0, zR hm), (1, zI a)] [] σ _
    refine zF_iload_n 5 dX12_guestsOf_4 rfl rfl ?_
    refine zF_bipush 7 dX12_guestsOf_5 rfl (by decide) ?_
    refine zF_icmp_ge 30 10 dX12_guestsOf_7 rfl rfl (by first | decide | exact hb _ | exact mSh_rg hb _ _ | assumption | exact zb_rg _ | (constructor <;> omega)) (by first | decide | exact hb _ | exact mSh_rg hb _ _ | assumption | exact zb_rg _ | (constructor <;> omega)) (fun c1 => ?_) (fun c1 => ?_)
    · exact absurd c1 (by omega)
    · refine zF_iload_n 11 dX12_guestsOf_10 rfl rfl ?_
      refine zF_aload_n 12 dX12_guestsOf_11 rfl rfl ?_
      refine zF_getR 15 dX12_guestsOf_12 rfl gX12_22 hM.1 hM.2.1 (zM_7 hM).1 ?_
      refine zF_bipush 17 dX12_guestsOf_15 rfl (by decide) ?_
      refine zF_iload_n 18 dX12_guestsOf_17 rfl rfl ?_
      refine zF_imul 19 dX12_guestsOf_18 rfl ?_
      refine zF_iload_n 20 dX12_guestsOf_19 rfl rfl ?_
      refine zF_iadd 21 dX12_guestsOf_20 rfl ?_
      refine zF_iaload 22 dX12_guestsOf_21 rfl (zM_7 hM).2.2 (zM_7 hM).2.1 (by omega) (by omega) rfl ?_
      refine zF_iadd 23 dX12_guestsOf_22 rfl ?_
      refine zF_istore_n 24 (ls' := [(2, zI ((gG (zia σ (A 7)) a i) + (zia σ (A 7) ((7 * a) + (i : Int))))), (3, zI (i : Int)), (0, zR hm), (1, zI a)]) dX12_guestsOf_23 rfl (by decide) rfl ?_
      refine zF_iinc 27 (ls' := [(3, zI ((i : Int) + 1)), (2, zI ((gG (zia σ (A 7)) a i) + (zia σ (A 7) ((7 * a) + (i : Int))))), (0, zR hm), (1, zI a)]) dX12_guestsOf_24 rfl rfl rfl (by decide) rfl ?_
      refine zF_goto 4 dX12_guestsOf_27 rfl ?_
      exact zF_locs (ls' := [(3, zI ((i + 1 : Nat) : Int)), (2, zI (gG (zia σ (A 7)) a (i + 1))), (0, zR hm), (1, zI a)]) ⟨zlI rfl (by first | rfl | omega | (push_cast; omega) | exact congrArg (_ + ·) (zbT (by assumption)) | exact congrArg (_ + ·) (zbF (by assumption)) | exact congrArg (_ + ·) (zbT (by omega)) | exact congrArg (_ + ·) (zbF (by omega)) | exact congrArg (_ + ·) (if_pos (by omega)).symm | exact congrArg (_ + ·) (if_neg (by omega)).symm | exact (if_pos (by omega)).symm | exact (if_neg (by omega)).symm | exact zsub_s (if_pos (by omega)).symm | exact zsub_s0 (if_neg (by omega)).symm | exact zadd0 (if_neg (by omega)).symm | exact zadd0 (zbF (by omega)) | exact (Int.sub_zero _).symm), zlI rfl (by first | rfl | omega | (push_cast; omega) | exact congrArg (_ + ·) (zbT (by assumption)) | exact congrArg (_ + ·) (zbF (by assumption)) | exact congrArg (_ + ·) (zbT (by omega)) | exact congrArg (_ + ·) (zbF (by omega)) | exact congrArg (_ + ·) (if_pos (by omega)).symm | exact congrArg (_ + ·) (if_neg (by omega)).symm | exact (if_pos (by omega)).symm | exact (if_neg (by omega)).symm | exact zsub_s (if_pos (by omega)).symm | exact zsub_s0 (if_neg (by omega)).symm | exact zadd0 (if_neg (by omega)).symm | exact zadd0 (zbF (by omega)) | exact (Int.sub_zero _).symm), rfl, rfl, trivial⟩ ih4
  · show zF G mX12_guestsOf d 4 [(3, zI ((7 : Nat) : Int)), (2, zI (gG (zia σ (A 7)) a 7)), (0, zR hm), (1, zI a)] [] σ _
    refine zF_iload_n 5 dX12_guestsOf_4 rfl rfl ?_
    refine zF_bipush 7 dX12_guestsOf_5 rfl (by decide) ?_
    refine zF_icmp_ge 30 10 dX12_guestsOf_7 rfl rfl (by first | decide | exact hb _ | exact mSh_rg hb _ _ | assumption | exact zb_rg _ | (constructor <;> omega)) (by first | decide | exact hb _ | exact mSh_rg hb _ _ | assumption | exact zb_rg _ | (constructor <;> omega)) (fun c2 => ?_) (fun c2 => ?_)
    · refine zF_iload_n 31 dX12_guestsOf_30 rfl rfl ?_
      exact zF_iretP dX12_guestsOf_31 rfl (rfl)
    · exact absurd c2 (by omega)
theorem zn_X12_guestsOf {N gg : Int → Int} {a : Int} (hM : zMo σ hm A) (hN : zia σ (A 0) = N) (hG : zia σ (A 7) = gg) (h0 : 0 ≤ a) (h1 : a < 10) : zP1 G mX12_guestsOf d [zR hm, zI a] σ (gG gg a 7) := by
  subst hN
  subst hG
  exact zt_X12_guestsOf hM h0 h1
theorem zt_X12_takingsOf {a : Int} (hM : zMo σ hm A) (hV : mV (zia σ (A 0))) (h0 : 0 ≤ a) (h1 : a < 10) : zP1 G mX12_takingsOf (d + 3) [zR hm, zI a] σ (gTake (zia σ (A 0)) (zia σ (A 7)) a) := by
  refine zE_of rfl (by simp [zcat]) (Nat.le_of_ble_eq_true rfl) ?_
  show zF G mX12_takingsOf (d + 3) 0 [(0, zR hm), (1, zI a)] [] σ _
  have hb := hV.b
  have hn := hV.n
  have hs := hV.s a h0 h1
  refine zF_aload_n 1 dX12_takingsOf_0 rfl rfl ?_
  refine zF_iload_n 2 dX12_takingsOf_1 rfl rfl ?_
  refine zF_callVi 5 (d2 := (d + 2)) (as := [zI a]) dX12_takingsOf_2 rfl kX12_171 iX12_guestsOf (ci := 12) rfl eX12_guestsOf (Nat.le_refl _) hM.1 hM.2.1 rfl rfl (Nat.le_of_ble_eq_true rfl) (zn_X12_guestsOf hM rfl rfl (by omega) (by omega)) ?_
  refine zF_aload_n 6 dX12_takingsOf_5 rfl rfl ?_
  refine zF_iload_n 7 dX12_takingsOf_6 rfl rfl ?_
  refine zF_callVi 10 (d2 := (d + 2)) (as := [zI a]) dX12_takingsOf_7 rfl kX12_174 iX12_priceAt (ci := 12) rfl eX12_priceAt (Nat.le_refl _) hM.1 hM.2.1 rfl rfl (Nat.le_of_ble_eq_true rfl) (zn_X12_priceAt hM rfl (by omega) (by omega) (by omega) (by omega)) ?_
  refine zF_imul 11 dX12_takingsOf_10 rfl ?_
  exact zF_iretP dX12_takingsOf_11 rfl (rfl)
theorem zn_X12_takingsOf {N gg : Int → Int} {a : Int} (hM : zMo σ hm A) (hN : zia σ (A 0) = N) (hG : zia σ (A 7) = gg) (hV : mV N) (h0 : 0 ≤ a) (h1 : a < 10) : zP1 G mX12_takingsOf (d + 3) [zR hm, zI a] σ (gTake N gg a) := by
  subst hN
  subst hG
  exact zt_X12_takingsOf hM hV h0 h1
theorem zt_X12_takingsBy {a f : Int} (hM : zMo σ hm A) (hV : mV (zia σ (A 0))) (h0 : 0 ≤ a) (h1 : a < 10) (h2 : zrg f) : zP1 G mX12_takingsBy (d + 4) [zR hm, zI a, zI f] σ (gBy (zia σ (A 0)) (zia σ (A 7)) a f) := by
  refine zE_of rfl (by simp [zcat]) (Nat.le_of_ble_eq_true rfl) ?_
  show zF G mX12_takingsBy (d + 4) 0 [(0, zR hm), (1, zI a), (2, zI f)] [] σ _
  have hb := hV.b
  have hn := hV.n
  have hs := hV.s a h0 h1
  refine zF_iconst 1 dX12_takingsBy_0 rfl ?_
  refine zF_istore_n 2 (ls' := [(3, zI 0), (0, zR hm), (1, zI a), (2, zI f)]) dX12_takingsBy_1 rfl (by decide) rfl ?_
  refine zF_iconst 3 dX12_takingsBy_2 rfl ?_
  refine zF_istore 5 (ls' := [(4, zI 0), (3, zI 0), (0, zR hm), (1, zI a), (2, zI f)]) dX12_takingsBy_3 rfl (by decide) rfl ?_
  refine zF_locs (ls' := (fun (i : Nat) => [(4, zI (i : Int)), (3, zI (gByN (zia σ (A 0)) (zia σ (A 7)) a f i)), (0, zR hm), (1, zI a), (2, zI f)]) 0) ⟨zlI rfl (by first | rfl | omega | (push_cast; omega) | exact congrArg (_ + ·) (zbT (by assumption)) | exact congrArg (_ + ·) (zbF (by assumption)) | exact congrArg (_ + ·) (zbT (by omega)) | exact congrArg (_ + ·) (zbF (by omega)) | exact congrArg (_ + ·) (if_pos (by omega)).symm | exact congrArg (_ + ·) (if_neg (by omega)).symm | exact (if_pos (by omega)).symm | exact (if_neg (by omega)).symm | exact zsub_s (if_pos (by omega)).symm | exact zsub_s0 (if_neg (by omega)).symm | exact zadd0 (if_neg (by omega)).symm | exact zadd0 (zbF (by omega)) | exact (Int.sub_zero _).symm), zlI rfl (by first | rfl | omega | (push_cast; omega) | exact congrArg (_ + ·) (zbT (by assumption)) | exact congrArg (_ + ·) (zbF (by assumption)) | exact congrArg (_ + ·) (zbT (by omega)) | exact congrArg (_ + ·) (zbF (by omega)) | exact congrArg (_ + ·) (if_pos (by omega)).symm | exact congrArg (_ + ·) (if_neg (by omega)).symm | exact (if_pos (by omega)).symm | exact (if_neg (by omega)).symm | exact zsub_s (if_pos (by omega)).symm | exact zsub_s0 (if_neg (by omega)).symm | exact zadd0 (if_neg (by omega)).symm | exact zadd0 (zbF (by omega)) | exact (Int.sub_zero _).symm), rfl, rfl, rfl, trivial⟩ ?_
  refine zF_loop (n := 7) (fun (i : Nat) => [(4, zI (i : Int)), (3, zI (gByN (zia σ (A 0)) (zia σ (A 7)) a f i)), (0, zR hm), (1, zI a), (2, zI f)]) (fun _ => σ) (fun i hi ih5 => ?_) ?_
  · show zF G mX12_takingsBy (d + 4) 5 [(4, zI (i : Int)), (3, zI (gByN (zia σ (A 0)) (zia σ (A 7)) a f i)), (0, zR hm), (1, zI a), (2, zI f)] [] σ _
    refine zF_iload 7 dX12_takingsBy_5 rfl rfl ?_
    refine zF_bipush 9 dX12_takingsBy_7 rfl (by decide) ?_
    refine zF_icmp_ge 53 12 dX12_takingsBy_9 rfl rfl (by first | decide | exact hb _ | exact mSh_rg hb _ _ | assumption | exact zb_rg _ | (constructor <;> omega)) (by first | decide | exact hb _ | exact mSh_rg hb _ _ | assumption | exact zb_rg _ | (constructor <;> omega)) (fun c1 => ?_) (fun c1 => ?_)
    · exact absurd c1 (by omega)
    · refine zF_iload_n 13 dX12_takingsBy_12 rfl rfl ?_
      refine zF_iload_n 14 dX12_takingsBy_13 rfl rfl ?_
      refine zF_iconst 15 dX12_takingsBy_14 rfl ?_
      refine zF_icmp_eq 29 18 dX12_takingsBy_15 rfl rfl (by first | decide | exact hb _ | exact mSh_rg hb _ _ | assumption | exact zb_rg _ | (constructor <;> omega)) (by first | decide | exact hb _ | exact mSh_rg hb _ _ | assumption | exact zb_rg _ | (constructor <;> omega)) (fun c2 => ?_) (fun c2 => ?_)
      · refine zF_aload_n 30 dX12_takingsBy_29 rfl rfl ?_
        refine zF_getR 33 dX12_takingsBy_30 rfl gX12_22 hM.1 hM.2.1 (zM_7 hM).1 ?_
        refine zF_bipush 35 dX12_takingsBy_33 rfl (by decide) ?_
        refine zF_iload_n 36 dX12_takingsBy_35 rfl rfl ?_
        refine zF_imul 37 dX12_takingsBy_36 rfl ?_
        refine zF_iload 39 dX12_takingsBy_37 rfl rfl ?_
        refine zF_iadd 40 dX12_takingsBy_39 rfl ?_
        refine zF_iaload 41 dX12_takingsBy_40 rfl (zM_7 hM).2.2 (zM_7 hM).2.1 (by omega) (by omega) rfl ?_
        refine zF_goto 45 dX12_takingsBy_41 rfl ?_
        refine zF_iadd 46 dX12_takingsBy_45 rfl ?_
        refine zF_istore_n 47 (ls' := [(3, zI ((gByN (zia σ (A 0)) (zia σ (A 7)) a f i) + (zia σ (A 7) ((7 * a) + (i : Int))))), (4, zI (i : Int)), (0, zR hm), (1, zI a), (2, zI f)]) dX12_takingsBy_46 rfl (by decide) rfl ?_
        refine zF_iinc 50 (ls' := [(4, zI ((i : Int) + 1)), (3, zI ((gByN (zia σ (A 0)) (zia σ (A 7)) a f i) + (zia σ (A 7) ((7 * a) + (i : Int))))), (0, zR hm), (1, zI a), (2, zI f)]) dX12_takingsBy_47 rfl rfl rfl (by decide) rfl ?_
        refine zF_goto 5 dX12_takingsBy_50 rfl ?_
        exact zF_locs (ls' := [(4, zI ((i + 1 : Nat) : Int)), (3, zI (gByN (zia σ (A 0)) (zia σ (A 7)) a f (i + 1))), (0, zR hm), (1, zI a), (2, zI f)]) ⟨zlI rfl (by first | rfl | omega | (push_cast; omega) | exact congrArg (_ + ·) (zbT (by assumption)) | exact congrArg (_ + ·) (zbF (by assumption)) | exact congrArg (_ + ·) (zbT (by omega)) | exact congrArg (_ + ·) (zbF (by omega)) | exact congrArg (_ + ·) (if_pos (by omega)).symm | exact congrArg (_ + ·) (if_neg (by omega)).symm | exact (if_pos (by omega)).symm | exact (if_neg (by omega)).symm | exact zsub_s (if_pos (by omega)).symm | exact zsub_s0 (if_neg (by omega)).symm | exact zadd0 (if_neg (by omega)).symm | exact zadd0 (zbF (by omega)) | exact (Int.sub_zero _).symm), zlI rfl (by first | rfl | omega | (push_cast; omega) | exact congrArg (_ + ·) (zbT (by assumption)) | exact congrArg (_ + ·) (zbF (by assumption)) | exact congrArg (_ + ·) (zbT (by omega)) | exact congrArg (_ + ·) (zbF (by omega)) | exact congrArg (_ + ·) (if_pos (by omega)).symm | exact congrArg (_ + ·) (if_neg (by omega)).symm | exact (if_pos (by omega)).symm | exact (if_neg (by omega)).symm | exact zsub_s (if_pos (by omega)).symm | exact zsub_s0 (if_neg (by omega)).symm | exact zadd0 (if_neg (by omega)).symm | exact zadd0 (zbF (by omega)) | exact (Int.sub_zero _).symm), rfl, rfl, rfl, trivial⟩ ih5
      · refine zF_aload_n 19 dX12_takingsBy_18 rfl rfl ?_
        refine zF_iload_n 20 dX12_takingsBy_19 rfl rfl ?_
        refine zF_iload 22 dX12_takingsBy_20 rfl rfl ?_
        refine zF_callVi 25 (d2 := (d + 3)) (as := [zI a, zI (i : Int)]) dX12_takingsBy_22 rfl kX12_129 iX12_shownOn (ci := 12) rfl eX12_shownOn (Nat.le_refl _) hM.1 hM.2.1 rfl rfl (Nat.le_of_ble_eq_true rfl) (zn_X12_shownOn hM rfl hb (by omega) (by omega) (by first | decide | exact hb _ | exact mSh_rg hb _ _ | assumption | exact zb_rg _ | (constructor <;> omega))) ?_
        refine zF_iload_n 26 dX12_takingsBy_25 rfl rfl ?_
        refine zF_icmp_ne 44 29 dX12_takingsBy_26 rfl rfl (by first | decide | exact hb _ | exact mSh_rg hb _ _ | assumption | exact zb_rg _ | (constructor <;> omega)) (by first | decide | exact hb _ | exact mSh_rg hb _ _ | assumption | exact zb_rg _ | (constructor <;> omega)) (fun c3 => ?_) (fun c3 => ?_)
        · refine zF_iconst 45 dX12_takingsBy_44 rfl ?_
          refine zF_iadd 46 dX12_takingsBy_45 rfl ?_
          refine zF_istore_n 47 (ls' := [(3, zI ((gByN (zia σ (A 0)) (zia σ (A 7)) a f i) + 0)), (4, zI (i : Int)), (0, zR hm), (1, zI a), (2, zI f)]) dX12_takingsBy_46 rfl (by decide) rfl ?_
          refine zF_iinc 50 (ls' := [(4, zI ((i : Int) + 1)), (3, zI ((gByN (zia σ (A 0)) (zia σ (A 7)) a f i) + 0)), (0, zR hm), (1, zI a), (2, zI f)]) dX12_takingsBy_47 rfl rfl rfl (by decide) rfl ?_
          refine zF_goto 5 dX12_takingsBy_50 rfl ?_
          exact zF_locs (ls' := [(4, zI ((i + 1 : Nat) : Int)), (3, zI (gByN (zia σ (A 0)) (zia σ (A 7)) a f (i + 1))), (0, zR hm), (1, zI a), (2, zI f)]) ⟨zlI rfl (by first | rfl | omega | (push_cast; omega) | exact congrArg (_ + ·) (zbT (by assumption)) | exact congrArg (_ + ·) (zbF (by assumption)) | exact congrArg (_ + ·) (zbT (by omega)) | exact congrArg (_ + ·) (zbF (by omega)) | exact congrArg (_ + ·) (if_pos (by omega)).symm | exact congrArg (_ + ·) (if_neg (by omega)).symm | exact (if_pos (by omega)).symm | exact (if_neg (by omega)).symm | exact zsub_s (if_pos (by omega)).symm | exact zsub_s0 (if_neg (by omega)).symm | exact zadd0 (if_neg (by omega)).symm | exact zadd0 (zbF (by omega)) | exact (Int.sub_zero _).symm), zlI rfl (by first | rfl | omega | (push_cast; omega) | exact congrArg (_ + ·) (zbT (by assumption)) | exact congrArg (_ + ·) (zbF (by assumption)) | exact congrArg (_ + ·) (zbT (by omega)) | exact congrArg (_ + ·) (zbF (by omega)) | exact congrArg (_ + ·) (if_pos (by omega)).symm | exact congrArg (_ + ·) (if_neg (by omega)).symm | exact (if_pos (by omega)).symm | exact (if_neg (by omega)).symm | exact zsub_s (if_pos (by omega)).symm | exact zsub_s0 (if_neg (by omega)).symm | exact zadd0 (if_neg (by omega)).symm | exact zadd0 (zbF (by omega)) | exact (Int.sub_zero _).symm), rfl, rfl, rfl, trivial⟩ ih5
        · refine zF_aload_n 30 dX12_takingsBy_29 rfl rfl ?_
          refine zF_getR 33 dX12_takingsBy_30 rfl gX12_22 hM.1 hM.2.1 (zM_7 hM).1 ?_
          refine zF_bipush 35 dX12_takingsBy_33 rfl (by decide) ?_
          refine zF_iload_n 36 dX12_takingsBy_35 rfl rfl ?_
          refine zF_imul 37 dX12_takingsBy_36 rfl ?_
          refine zF_iload 39 dX12_takingsBy_37 rfl rfl ?_
          refine zF_iadd 40 dX12_takingsBy_39 rfl ?_
          refine zF_iaload 41 dX12_takingsBy_40 rfl (zM_7 hM).2.2 (zM_7 hM).2.1 (by omega) (by omega) rfl ?_
          refine zF_goto 45 dX12_takingsBy_41 rfl ?_
          refine zF_iadd 46 dX12_takingsBy_45 rfl ?_
          refine zF_istore_n 47 (ls' := [(3, zI ((gByN (zia σ (A 0)) (zia σ (A 7)) a f i) + (zia σ (A 7) ((7 * a) + (i : Int))))), (4, zI (i : Int)), (0, zR hm), (1, zI a), (2, zI f)]) dX12_takingsBy_46 rfl (by decide) rfl ?_
          refine zF_iinc 50 (ls' := [(4, zI ((i : Int) + 1)), (3, zI ((gByN (zia σ (A 0)) (zia σ (A 7)) a f i) + (zia σ (A 7) ((7 * a) + (i : Int))))), (0, zR hm), (1, zI a), (2, zI f)]) dX12_takingsBy_47 rfl rfl rfl (by decide) rfl ?_
          refine zF_goto 5 dX12_takingsBy_50 rfl ?_
          exact zF_locs (ls' := [(4, zI ((i + 1 : Nat) : Int)), (3, zI (gByN (zia σ (A 0)) (zia σ (A 7)) a f (i + 1))), (0, zR hm), (1, zI a), (2, zI f)]) ⟨zlI rfl (by first | rfl | omega | (push_cast; omega) | exact congrArg (_ + ·) (zbT (by assumption)) | exact congrArg (_ + ·) (zbF (by assumption)) | exact congrArg (_ + ·) (zbT (by omega)) | exact congrArg (_ + ·) (zbF (by omega)) | exact congrArg (_ + ·) (if_pos (by omega)).symm | exact congrArg (_ + ·) (if_neg (by omega)).symm | exact (if_pos (by omega)).symm | exact (if_neg (by omega)).symm | exact zsub_s (if_pos (by omega)).symm | exact zsub_s0 (if_neg (by omega)).symm | exact zadd0 (if_neg (by omega)).symm | exact zadd0 (zbF (by omega)) | exact (Int.sub_zero _).symm), zlI rfl (by first | rfl | omega | (push_cast; omega) | exact congrArg (_ + ·) (zbT (by assumption)) | exact congrArg (_ + ·) (zbF (by assumption)) | exact congrArg (_ + ·) (zbT (by omega)) | exact congrArg (_ + ·) (zbF (by omega)) | exact congrArg (_ + ·) (if_pos (by omega)).symm | exact congrArg (_ + ·) (if_neg (by omega)).symm | exact (if_pos (by omega)).symm | exact (if_neg (by omega)).symm | exact zsub_s (if_pos (by omega)).symm | exact zsub_s0 (if_neg (by omega)).symm | exact zadd0 (if_neg (by omega)).symm | exact zadd0 (zbF (by omega)) | exact (Int.sub_zero _).symm), rfl, rfl, rfl, trivial⟩ ih5
  · show zF G mX12_takingsBy (d + 4) 5 [(4, zI ((7 : Nat) : Int)), (3, zI (gByN (zia σ (A 0)) (zia σ (A 7)) a f 7)), (0, zR hm), (1, zI a), (2, zI f)] [] σ _
    refine zF_iload 7 dX12_takingsBy_5 rfl rfl ?_
    refine zF_bipush 9 dX12_takingsBy_7 rfl (by decide) ?_
    refine zF_icmp_ge 53 12 dX12_takingsBy_9 rfl rfl (by first | decide | exact hb _ | exact mSh_rg hb _ _ | assumption | exact zb_rg _ | (constructor <;> omega)) (by first | decide | exact hb _ | exact mSh_rg hb _ _ | assumption | exact zb_rg _ | (constructor <;> omega)) (fun c4 => ?_) (fun c4 => ?_)
    · refine zF_iload_n 54 dX12_takingsBy_53 rfl rfl ?_
      refine zF_aload_n 55 dX12_takingsBy_54 rfl rfl ?_
      refine zF_iload_n 56 dX12_takingsBy_55 rfl rfl ?_
      refine zF_callVi 59 (d2 := (d + 3)) (as := [zI a]) dX12_takingsBy_56 rfl kX12_174 iX12_priceAt (ci := 12) rfl eX12_priceAt (Nat.le_refl _) hM.1 hM.2.1 rfl rfl (Nat.le_of_ble_eq_true rfl) (zn_X12_priceAt hM rfl (by omega) (by omega) (by omega) (by omega)) ?_
      refine zF_imul 60 dX12_takingsBy_59 rfl ?_
      exact zF_iretP dX12_takingsBy_60 rfl (rfl)
    · exact absurd c4 (by omega)
theorem zn_X12_takingsBy {N gg : Int → Int} {a f : Int} (hM : zMo σ hm A) (hN : zia σ (A 0) = N) (hG : zia σ (A 7) = gg) (hV : mV N) (h0 : 0 ≤ a) (h1 : a < 10) (h2 : zrg f) : zP1 G mX12_takingsBy (d + 4) [zR hm, zI a, zI f] σ (gBy N gg a f) := by
  subst hN
  subst hG
  exact zt_X12_takingsBy hM hV h0 h1 h2
theorem zt_X12_takingsIn {h f : Int} (hM : zMo σ hm A) (hV : mV (zia σ (A 0))) (h2 : zrg h) (h3 : zrg f) : zP1 G mX12_takingsIn (d + 5) [zR hm, zI h, zI f] σ (gIn (zia σ (A 0)) (zia σ (A 7)) h f) := by
  refine zE_of rfl (by simp [zcat]) (Nat.le_of_ble_eq_true rfl) ?_
  show zF G mX12_takingsIn (d + 5) 0 [(0, zR hm), (1, zI h), (2, zI f)] [] σ _
  have hb := hV.b
  have hn := hV.n
  have hs := nS_eq hV
  refine zF_iconst 1 dX12_takingsIn_0 rfl ?_
  refine zF_istore_n 2 (ls' := [(3, zI 0), (0, zR hm), (1, zI h), (2, zI f)]) dX12_takingsIn_1 rfl (by decide) rfl ?_
  refine zF_iconst 3 dX12_takingsIn_2 rfl ?_
  refine zF_istore 5 (ls' := [(4, zI 0), (3, zI 0), (0, zR hm), (1, zI h), (2, zI f)]) dX12_takingsIn_3 rfl (by decide) rfl ?_
  refine zF_locs (ls' := (fun (i : Nat) => [(4, zI (i : Int)), (3, zI (gInN (zia σ (A 0)) (zia σ (A 7)) h f i)), (0, zR hm), (1, zI h), (2, zI f)]) 0) ⟨zlI rfl (by first | rfl | omega | (push_cast; omega) | exact congrArg (_ + ·) (zbT (by assumption)) | exact congrArg (_ + ·) (zbF (by assumption)) | exact congrArg (_ + ·) (zbT (by omega)) | exact congrArg (_ + ·) (zbF (by omega)) | exact congrArg (_ + ·) (if_pos (by omega)).symm | exact congrArg (_ + ·) (if_neg (by omega)).symm | exact (if_pos (by omega)).symm | exact (if_neg (by omega)).symm | exact zsub_s (if_pos (by omega)).symm | exact zsub_s0 (if_neg (by omega)).symm | exact zadd0 (if_neg (by omega)).symm | exact zadd0 (zbF (by omega)) | exact (Int.sub_zero _).symm), zlI rfl (by first | rfl | omega | (push_cast; omega) | exact congrArg (_ + ·) (zbT (by assumption)) | exact congrArg (_ + ·) (zbF (by assumption)) | exact congrArg (_ + ·) (zbT (by omega)) | exact congrArg (_ + ·) (zbF (by omega)) | exact congrArg (_ + ·) (if_pos (by omega)).symm | exact congrArg (_ + ·) (if_neg (by omega)).symm | exact (if_pos (by omega)).symm | exact (if_neg (by omega)).symm | exact zsub_s (if_pos (by omega)).symm | exact zsub_s0 (if_neg (by omega)).symm | exact zadd0 (if_neg (by omega)).symm | exact zadd0 (zbF (by omega)) | exact (Int.sub_zero _).symm), rfl, rfl, rfl, trivial⟩ ?_
  refine zF_loop (n := (nS (zia σ (A 0)))) (fun (i : Nat) => [(4, zI (i : Int)), (3, zI (gInN (zia σ (A 0)) (zia σ (A 7)) h f i)), (0, zR hm), (1, zI h), (2, zI f)]) (fun _ => σ) (fun i hi ih5 => ?_) ?_
  · show zF G mX12_takingsIn (d + 5) 5 [(4, zI (i : Int)), (3, zI (gInN (zia σ (A 0)) (zia σ (A 7)) h f i)), (0, zR hm), (1, zI h), (2, zI f)] [] σ _
    refine zF_iload 7 dX12_takingsIn_5 rfl rfl ?_
    refine zF_aload_n 8 dX12_takingsIn_7 rfl rfl ?_
    refine zF_callVi 11 (d2 := (d + 4)) (as := []) dX12_takingsIn_8 rfl kX12_113 iX12_screens (ci := 12) rfl eX12_screens (Nat.le_refl _) hM.1 hM.2.1 rfl rfl (Nat.le_of_ble_eq_true rfl) (zn_X12_screens hM rfl) ?_
    refine zF_icmp_ge 50 14 dX12_takingsIn_11 rfl rfl (by first | decide | exact hb _ | exact mSh_rg hb _ _ | assumption | exact zb_rg _ | (constructor <;> omega)) (by first | decide | exact hb _ | exact mSh_rg hb _ _ | assumption | exact zb_rg _ | (constructor <;> omega)) (fun c1 => ?_) (fun c1 => ?_)
    · exact absurd c1 (by omega)
    · refine zF_iload_n 15 dX12_takingsIn_14 rfl rfl ?_
      refine zF_iload_n 16 dX12_takingsIn_15 rfl rfl ?_
      refine zF_iconst 17 dX12_takingsIn_16 rfl ?_
      refine zF_icmp_eq 31 20 dX12_takingsIn_17 rfl rfl (by first | decide | exact hb _ | exact mSh_rg hb _ _ | assumption | exact zb_rg _ | (constructor <;> omega)) (by first | decide | exact hb _ | exact mSh_rg hb _ _ | assumption | exact zb_rg _ | (constructor <;> omega)) (fun c2 => ?_) (fun c2 => ?_)
      · refine zF_aload_n 32 dX12_takingsIn_31 rfl rfl ?_
        refine zF_iload 34 dX12_takingsIn_32 rfl rfl ?_
        refine zF_iload_n 35 dX12_takingsIn_34 rfl rfl ?_
        refine zF_callVi 38 (d2 := (d + 4)) (as := [zI (i : Int), zI f]) dX12_takingsIn_35 rfl kX12_177 iX12_takingsBy (ci := 12) rfl eX12_takingsBy (Nat.le_refl _) hM.1 hM.2.1 rfl rfl (Nat.le_of_ble_eq_true rfl) (zn_X12_takingsBy hM rfl rfl hV (by omega) (by omega) (by first | decide | exact hb _ | exact mSh_rg hb _ _ | assumption | exact zb_rg _ | (constructor <;> omega))) ?_
        refine zF_goto 42 dX12_takingsIn_38 rfl ?_
        refine zF_iadd 43 dX12_takingsIn_42 rfl ?_
        refine zF_istore_n 44 (ls' := [(3, zI ((gInN (zia σ (A 0)) (zia σ (A 7)) h f i) + (gBy (zia σ (A 0)) (zia σ (A 7)) (i : Int) f))), (4, zI (i : Int)), (0, zR hm), (1, zI h), (2, zI f)]) dX12_takingsIn_43 rfl (by decide) rfl ?_
        refine zF_iinc 47 (ls' := [(4, zI ((i : Int) + 1)), (3, zI ((gInN (zia σ (A 0)) (zia σ (A 7)) h f i) + (gBy (zia σ (A 0)) (zia σ (A 7)) (i : Int) f))), (0, zR hm), (1, zI h), (2, zI f)]) dX12_takingsIn_44 rfl rfl rfl (by decide) rfl ?_
        refine zF_goto 5 dX12_takingsIn_47 rfl ?_
        exact zF_locs (ls' := [(4, zI ((i + 1 : Nat) : Int)), (3, zI (gInN (zia σ (A 0)) (zia σ (A 7)) h f (i + 1))), (0, zR hm), (1, zI h), (2, zI f)]) ⟨zlI rfl (by first | rfl | omega | (push_cast; omega) | exact congrArg (_ + ·) (zbT (by assumption)) | exact congrArg (_ + ·) (zbF (by assumption)) | exact congrArg (_ + ·) (zbT (by omega)) | exact congrArg (_ + ·) (zbF (by omega)) | exact congrArg (_ + ·) (if_pos (by omega)).symm | exact congrArg (_ + ·) (if_neg (by omega)).symm | exact (if_pos (by omega)).symm | exact (if_neg (by omega)).symm | exact zsub_s (if_pos (by omega)).symm | exact zsub_s0 (if_neg (by omega)).symm | exact zadd0 (if_neg (by omega)).symm | exact zadd0 (zbF (by omega)) | exact (Int.sub_zero _).symm), zlI rfl (by first | rfl | omega | (push_cast; omega) | exact congrArg (_ + ·) (zbT (by assumption)) | exact congrArg (_ + ·) (zbF (by assumption)) | exact congrArg (_ + ·) (zbT (by omega)) | exact congrArg (_ + ·) (zbF (by omega)) | exact congrArg (_ + ·) (if_pos (by omega)).symm | exact congrArg (_ + ·) (if_neg (by omega)).symm | exact (if_pos (by omega)).symm | exact (if_neg (by omega)).symm | exact zsub_s (if_pos (by omega)).symm | exact zsub_s0 (if_neg (by omega)).symm | exact zadd0 (if_neg (by omega)).symm | exact zadd0 (zbF (by omega)) | exact (Int.sub_zero _).symm), rfl, rfl, rfl, trivial⟩ ih5
      · refine zF_aload_n 21 dX12_takingsIn_20 rfl rfl ?_
        refine zF_iload 23 dX12_takingsIn_21 rfl rfl ?_
        refine zF_iconst 24 dX12_takingsIn_23 rfl ?_
        refine zF_callVi 27 (d2 := (d + 4)) (as := [zI (i : Int), zI 0]) dX12_takingsIn_24 rfl kX12_119 iX12_of (ci := 12) rfl eX12_of (Nat.le_refl _) hM.1 hM.2.1 rfl rfl (Nat.le_of_ble_eq_true rfl) (zn_X12_of hM rfl (by omega) (by omega)) ?_
        refine zF_iload_n 28 dX12_takingsIn_27 rfl rfl ?_
        refine zF_icmp_ne 41 31 dX12_takingsIn_28 rfl rfl (by first | decide | exact hb _ | exact mSh_rg hb _ _ | assumption | exact zb_rg _ | (constructor <;> omega)) (by first | decide | exact hb _ | exact mSh_rg hb _ _ | assumption | exact zb_rg _ | (constructor <;> omega)) (fun c3 => ?_) (fun c3 => ?_)
        · refine zF_iconst 42 dX12_takingsIn_41 rfl ?_
          refine zF_iadd 43 dX12_takingsIn_42 rfl ?_
          refine zF_istore_n 44 (ls' := [(3, zI ((gInN (zia σ (A 0)) (zia σ (A 7)) h f i) + 0)), (4, zI (i : Int)), (0, zR hm), (1, zI h), (2, zI f)]) dX12_takingsIn_43 rfl (by decide) rfl ?_
          refine zF_iinc 47 (ls' := [(4, zI ((i : Int) + 1)), (3, zI ((gInN (zia σ (A 0)) (zia σ (A 7)) h f i) + 0)), (0, zR hm), (1, zI h), (2, zI f)]) dX12_takingsIn_44 rfl rfl rfl (by decide) rfl ?_
          refine zF_goto 5 dX12_takingsIn_47 rfl ?_
          exact zF_locs (ls' := [(4, zI ((i + 1 : Nat) : Int)), (3, zI (gInN (zia σ (A 0)) (zia σ (A 7)) h f (i + 1))), (0, zR hm), (1, zI h), (2, zI f)]) ⟨zlI rfl (by first | rfl | omega | (push_cast; omega) | exact congrArg (_ + ·) (zbT (by assumption)) | exact congrArg (_ + ·) (zbF (by assumption)) | exact congrArg (_ + ·) (zbT (by omega)) | exact congrArg (_ + ·) (zbF (by omega)) | exact congrArg (_ + ·) (if_pos (by omega)).symm | exact congrArg (_ + ·) (if_neg (by omega)).symm | exact (if_pos (by omega)).symm | exact (if_neg (by omega)).symm | exact zsub_s (if_pos (by omega)).symm | exact zsub_s0 (if_neg (by omega)).symm | exact zadd0 (if_neg (by omega)).symm | exact zadd0 (zbF (by omega)) | exact (Int.sub_zero _).symm), zlI rfl (by first | rfl | omega | (push_cast; omega) | exact congrArg (_ + ·) (zbT (by assumption)) | exact congrArg (_ + ·) (zbF (by assumption)) | exact congrArg (_ + ·) (zbT (by omega)) | exact congrArg (_ + ·) (zbF (by omega)) | exact congrArg (_ + ·) (if_pos (by omega)).symm | exact congrArg (_ + ·) (if_neg (by omega)).symm | exact (if_pos (by omega)).symm | exact (if_neg (by omega)).symm | exact zsub_s (if_pos (by omega)).symm | exact zsub_s0 (if_neg (by omega)).symm | exact zadd0 (if_neg (by omega)).symm | exact zadd0 (zbF (by omega)) | exact (Int.sub_zero _).symm), rfl, rfl, rfl, trivial⟩ ih5
        · refine zF_aload_n 32 dX12_takingsIn_31 rfl rfl ?_
          refine zF_iload 34 dX12_takingsIn_32 rfl rfl ?_
          refine zF_iload_n 35 dX12_takingsIn_34 rfl rfl ?_
          refine zF_callVi 38 (d2 := (d + 4)) (as := [zI (i : Int), zI f]) dX12_takingsIn_35 rfl kX12_177 iX12_takingsBy (ci := 12) rfl eX12_takingsBy (Nat.le_refl _) hM.1 hM.2.1 rfl rfl (Nat.le_of_ble_eq_true rfl) (zn_X12_takingsBy hM rfl rfl hV (by omega) (by omega) (by first | decide | exact hb _ | exact mSh_rg hb _ _ | assumption | exact zb_rg _ | (constructor <;> omega))) ?_
          refine zF_goto 42 dX12_takingsIn_38 rfl ?_
          refine zF_iadd 43 dX12_takingsIn_42 rfl ?_
          refine zF_istore_n 44 (ls' := [(3, zI ((gInN (zia σ (A 0)) (zia σ (A 7)) h f i) + (gBy (zia σ (A 0)) (zia σ (A 7)) (i : Int) f))), (4, zI (i : Int)), (0, zR hm), (1, zI h), (2, zI f)]) dX12_takingsIn_43 rfl (by decide) rfl ?_
          refine zF_iinc 47 (ls' := [(4, zI ((i : Int) + 1)), (3, zI ((gInN (zia σ (A 0)) (zia σ (A 7)) h f i) + (gBy (zia σ (A 0)) (zia σ (A 7)) (i : Int) f))), (0, zR hm), (1, zI h), (2, zI f)]) dX12_takingsIn_44 rfl rfl rfl (by decide) rfl ?_
          refine zF_goto 5 dX12_takingsIn_47 rfl ?_
          exact zF_locs (ls' := [(4, zI ((i + 1 : Nat) : Int)), (3, zI (gInN (zia σ (A 0)) (zia σ (A 7)) h f (i + 1))), (0, zR hm), (1, zI h), (2, zI f)]) ⟨zlI rfl (by first | rfl | omega | (push_cast; omega) | exact congrArg (_ + ·) (zbT (by assumption)) | exact congrArg (_ + ·) (zbF (by assumption)) | exact congrArg (_ + ·) (zbT (by omega)) | exact congrArg (_ + ·) (zbF (by omega)) | exact congrArg (_ + ·) (if_pos (by omega)).symm | exact congrArg (_ + ·) (if_neg (by omega)).symm | exact (if_pos (by omega)).symm | exact (if_neg (by omega)).symm | exact zsub_s (if_pos (by omega)).symm | exact zsub_s0 (if_neg (by omega)).symm | exact zadd0 (if_neg (by omega)).symm | exact zadd0 (zbF (by omega)) | exact (Int.sub_zero _).symm), zlI rfl (by first | rfl | omega | (push_cast; omega) | exact congrArg (_ + ·) (zbT (by assumption)) | exact congrArg (_ + ·) (zbF (by assumption)) | exact congrArg (_ + ·) (zbT (by omega)) | exact congrArg (_ + ·) (zbF (by omega)) | exact congrArg (_ + ·) (if_pos (by omega)).symm | exact congrArg (_ + ·) (if_neg (by omega)).symm | exact (if_pos (by omega)).symm | exact (if_neg (by omega)).symm | exact zsub_s (if_pos (by omega)).symm | exact zsub_s0 (if_neg (by omega)).symm | exact zadd0 (if_neg (by omega)).symm | exact zadd0 (zbF (by omega)) | exact (Int.sub_zero _).symm), rfl, rfl, rfl, trivial⟩ ih5
  · show zF G mX12_takingsIn (d + 5) 5 [(4, zI (((nS (zia σ (A 0))) : Nat) : Int)), (3, zI (gInN (zia σ (A 0)) (zia σ (A 7)) h f (nS (zia σ (A 0))))), (0, zR hm), (1, zI h), (2, zI f)] [] σ _
    refine zF_iload 7 dX12_takingsIn_5 rfl rfl ?_
    refine zF_aload_n 8 dX12_takingsIn_7 rfl rfl ?_
    refine zF_callVi 11 (d2 := (d + 4)) (as := []) dX12_takingsIn_8 rfl kX12_113 iX12_screens (ci := 12) rfl eX12_screens (Nat.le_refl _) hM.1 hM.2.1 rfl rfl (Nat.le_of_ble_eq_true rfl) (zn_X12_screens hM rfl) ?_
    refine zF_icmp_ge 50 14 dX12_takingsIn_11 rfl rfl (by first | decide | exact hb _ | exact mSh_rg hb _ _ | assumption | exact zb_rg _ | (constructor <;> omega)) (by first | decide | exact hb _ | exact mSh_rg hb _ _ | assumption | exact zb_rg _ | (constructor <;> omega)) (fun c4 => ?_) (fun c4 => ?_)
    · refine zF_iload_n 51 dX12_takingsIn_50 rfl rfl ?_
      exact zF_iretP dX12_takingsIn_51 rfl (rfl)
    · exact absurd c4 (by omega)
theorem zn_X12_takingsIn {N gg : Int → Int} {h f : Int} (hM : zMo σ hm A) (hN : zia σ (A 0) = N) (hG : zia σ (A 7) = gg) (hV : mV N) (h2 : zrg h) (h3 : zrg f) : zP1 G mX12_takingsIn (d + 5) [zR hm, zI h, zI f] σ (gIn N gg h f) := by
  subst hN
  subst hG
  exact zt_X12_takingsIn hM hV h2 h3
theorem zt_X12_shareBy {h f t : Int} (hM : zMo σ hm A) (hV : mV (zia σ (A 0))) (a0 : 0 ≤ h) (a1 : h < 4) (h0 : 0 ≤ f) (h1 : f < (zia σ (A 0)) 2) (t0 : 0 ≤ t) (t1 : t ≤ 20790000) : zP1 G mX12_shareBy (d + 2) [zR hm, zI h, zI f, zI t] σ (mShare (zia σ (A 0)) h f t) := by
  refine zE_of rfl (by simp [zcat]) (Nat.le_of_ble_eq_true rfl) ?_
  show zF G mX12_shareBy (d + 2) 0 [(0, zR hm), (1, zI h), (2, zI f), (3, zI t)] [] σ _
  have hb := hV.b
  have hn := hV.n
  have q1 := mIdx_b hV a0 a1 h0 h1
  have q2 := mShare_p hV a0 a1 h0 h1 t0 t1
  have q3 := hV.f f h0 (by omega)
  have q4 : mIdx (zia σ (A 0)) h f = min ((zia σ (A 0)) (184 + 6 * h + f)) (mF (zia σ (A 0)) f 3 - 1) := rfl
  rw [q4] at q1 q2
  refine zF_aload_n 1 dX12_shareBy_0 rfl rfl ?_
  refine zF_getR 4 dX12_shareBy_1 rfl gX12_9 hM.1 hM.2.1 (zM_0 hM).1 ?_
  refine zF_iload_n 5 dX12_shareBy_4 rfl rfl ?_
  refine zF_iload_n 6 dX12_shareBy_5 rfl rfl ?_
  refine zF_callSi 9 (d2 := (d + 1)) (as := [zI h, zI f]) dX12_shareBy_6 rfl kX12_180 sX12_runAt (Nat.le_refl _) rfl rfl (Nat.le_of_ble_eq_true rfl) (zt_X12_runAt) ?_
  refine zF_iaload 10 dX12_shareBy_9 rfl (zM_0 hM).2.2 (zM_0 hM).2.1 (by omega) (by omega) rfl ?_
  refine zF_aload_n 11 dX12_shareBy_10 rfl rfl ?_
  refine zF_iload_n 12 dX12_shareBy_11 rfl rfl ?_
  refine zF_iconst 13 dX12_shareBy_12 rfl ?_
  refine zF_callVi 16 (d2 := (d + 1)) (as := [zI f, zI 3]) dX12_shareBy_13 rfl kX12_148 iX12_ofFilm (ci := 12) rfl eX12_ofFilm (Nat.le_refl _) hM.1 hM.2.1 rfl rfl (Nat.le_of_ble_eq_true rfl) (zn_X12_ofFilm hM rfl (by omega) (by omega)) ?_
  refine zF_iconst 17 dX12_shareBy_16 rfl ?_
  refine zF_isub 18 dX12_shareBy_17 rfl ?_
  refine zF_min 21 dX12_shareBy_18 rfl kX12_164 (Nat.le_refl _) (by first | decide | exact hb _ | exact mSh_rg hb _ _ | assumption | exact zb_rg _ | (constructor <;> omega)) (by first | decide | exact hb _ | exact mSh_rg hb _ _ | assumption | exact zb_rg _ | (constructor <;> omega)) (Nat.le_of_ble_eq_true rfl) ?_
  refine zF_istore 23 (ls' := [(4, zI (min (zia σ (A 0) (184 + 6 * h + f)) ((mF (zia σ (A 0)) f 3) - 1))), (0, zR hm), (1, zI h), (2, zI f), (3, zI t)]) dX12_shareBy_21 rfl (by decide) rfl ?_
  refine zF_iload_n 24 dX12_shareBy_23 rfl rfl ?_
  refine zF_aload_n 25 dX12_shareBy_24 rfl rfl ?_
  refine zF_iload_n 26 dX12_shareBy_25 rfl rfl ?_
  refine zF_iconst 27 dX12_shareBy_26 rfl ?_
  refine zF_iload 29 dX12_shareBy_27 rfl rfl ?_
  refine zF_iadd 30 dX12_shareBy_29 rfl ?_
  refine zF_callVi 33 (d2 := (d + 1)) (as := [zI f, zI (4 + (min (zia σ (A 0) (184 + 6 * h + f)) ((mF (zia σ (A 0)) f 3) - 1)))]) dX12_shareBy_30 rfl kX12_148 iX12_ofFilm (ci := 12) rfl eX12_ofFilm (Nat.le_refl _) hM.1 hM.2.1 rfl rfl (Nat.le_of_ble_eq_true rfl) (zn_X12_ofFilm hM rfl (by omega) (by omega)) ?_
  refine zF_imul 34 dX12_shareBy_33 rfl ?_
  refine zF_bipush 36 dX12_shareBy_34 rfl (by decide) ?_
  refine zF_idiv 37 dX12_shareBy_36 rfl (by omega) (by omega) (by omega) (by omega) ?_
  refine zF_aload_n 38 dX12_shareBy_37 rfl rfl ?_
  refine zF_iload_n 39 dX12_shareBy_38 rfl rfl ?_
  refine zF_iconst 40 dX12_shareBy_39 rfl ?_
  refine zF_callVi 43 (d2 := (d + 1)) (as := [zI f, zI 2]) dX12_shareBy_40 rfl kX12_148 iX12_ofFilm (ci := 12) rfl eX12_ofFilm (Nat.le_refl _) hM.1 hM.2.1 rfl rfl (Nat.le_of_ble_eq_true rfl) (zn_X12_ofFilm hM rfl (by omega) (by omega)) ?_
  refine zF_iload_n 44 dX12_shareBy_43 rfl rfl ?_
  refine zF_min 47 dX12_shareBy_44 rfl kX12_164 (Nat.le_refl _) (by first | decide | exact hb _ | exact mSh_rg hb _ _ | assumption | exact zb_rg _ | (constructor <;> omega)) (by first | decide | exact hb _ | exact mSh_rg hb _ _ | assumption | exact zb_rg _ | (constructor <;> omega)) (Nat.le_of_ble_eq_true rfl) ?_
  refine zF_max 50 dX12_shareBy_47 rfl kX12_140 (Nat.le_refl _) (by first | decide | exact hb _ | exact mSh_rg hb _ _ | assumption | exact zb_rg _ | (constructor <;> omega)) (by first | decide | exact hb _ | exact mSh_rg hb _ _ | assumption | exact zb_rg _ | (constructor <;> omega)) (Nat.le_of_ble_eq_true rfl) ?_
  exact zF_iretP dX12_shareBy_50 rfl (rfl)
theorem zn_X12_shareBy {N : Int → Int} {h f t : Int} (hM : zMo σ hm A) (hN : zia σ (A 0) = N) (hV : mV N) (a0 : 0 ≤ h) (a1 : h < 4) (h0 : 0 ≤ f) (h1 : f < N 2) (t0 : 0 ≤ t) (t1 : t ≤ 20790000) : zP1 G mX12_shareBy (d + 2) [zR hm, zI h, zI f, zI t] σ (mShare N h f t) := by
  subst hN
  exact zt_X12_shareBy hM hV a0 a1 h0 h1 t0 t1
theorem zt_X12_shareOf {h f : Int} (hM : zMo σ hm A) (hV : mV (zia σ (A 0))) (hg : gV (zia σ (A 7))) (a0 : 0 ≤ h) (a1 : h < 4) (h0 : 0 ≤ f) (h1 : f < (zia σ (A 0)) 2) : zP1 G mX12_shareOf (d + 8) [zR hm, zI h, zI f] σ (gShare (zia σ (A 0)) (zia σ (A 7)) h f) := by
  refine zE_of rfl (by simp [zcat]) (Nat.le_of_ble_eq_true rfl) ?_
  show zF G mX12_shareOf (d + 8) 0 [(0, zR hm), (1, zI h), (2, zI f)] [] σ _
  have hb := hV.b
  have hn := hV.n
  have q1 := gIn_b hV hg h f (nS (zia σ (A 0))) (nS_eq hV).2
  have q2 : gIn (zia σ (A 0)) (zia σ (A 7)) h f = gInN (zia σ (A 0)) (zia σ (A 7)) h f (nS (zia σ (A 0))) := rfl
  refine zF_aload_n 1 dX12_shareOf_0 rfl rfl ?_
  refine zF_iload_n 2 dX12_shareOf_1 rfl rfl ?_
  refine zF_iload_n 3 dX12_shareOf_2 rfl rfl ?_
  refine zF_callVi 6 (d2 := (d + 7)) (as := [zI h, zI f]) dX12_shareOf_3 rfl kX12_183 iX12_isShown (ci := 12) rfl eX12_isShown (Nat.le_refl _) hM.1 hM.2.1 rfl rfl (Nat.le_of_ble_eq_true rfl) (zn_X12_isShown hM rfl hV (by first | decide | exact hb _ | exact mSh_rg hb _ _ | assumption | exact zb_rg _ | (constructor <;> omega)) (by first | decide | exact hb _ | exact mSh_rg hb _ _ | assumption | exact zb_rg _ | (constructor <;> omega))) ?_
  refine zF_ifb_eq 24 9 dX12_shareOf_6 rfl rfl (fun c1 => ?_) (fun c1 => ?_)
  · refine zF_iconst 25 dX12_shareOf_24 rfl ?_
    exact zF_iretP dX12_shareOf_25 rfl (by first | exact (if_pos (by omega)).symm | exact (if_neg (by omega)).symm)
  · refine zF_aload_n 10 dX12_shareOf_9 rfl rfl ?_
    refine zF_iload_n 11 dX12_shareOf_10 rfl rfl ?_
    refine zF_iload_n 12 dX12_shareOf_11 rfl rfl ?_
    refine zF_aload_n 13 dX12_shareOf_12 rfl rfl ?_
    refine zF_iload_n 14 dX12_shareOf_13 rfl rfl ?_
    refine zF_iload_n 15 dX12_shareOf_14 rfl rfl ?_
    refine zF_callVi 18 (d2 := (d + 7)) (as := [zI h, zI f]) dX12_shareOf_15 rfl kX12_187 iX12_takingsIn (ci := 12) rfl eX12_takingsIn (Nat.le_refl _) hM.1 hM.2.1 rfl rfl (Nat.le_of_ble_eq_true rfl) (zn_X12_takingsIn hM rfl rfl hV (by first | decide | exact hb _ | exact mSh_rg hb _ _ | assumption | exact zb_rg _ | (constructor <;> omega)) (by first | decide | exact hb _ | exact mSh_rg hb _ _ | assumption | exact zb_rg _ | (constructor <;> omega))) ?_
    refine zF_callVi 21 (d2 := (d + 7)) (as := [zI h, zI f, zI (gIn (zia σ (A 0)) (zia σ (A 7)) h f)]) dX12_shareOf_18 rfl kX12_190 iX12_shareBy (ci := 12) rfl eX12_shareBy (Nat.le_refl _) hM.1 hM.2.1 rfl rfl (Nat.le_of_ble_eq_true rfl) (zn_X12_shareBy hM rfl hV (by omega) (by omega) (by omega) (by omega) (by omega) (by omega)) ?_
    refine zF_goto 25 dX12_shareOf_21 rfl ?_
    exact zF_iretP dX12_shareOf_25 rfl (by first | exact (if_pos (by omega)).symm | exact (if_neg (by omega)).symm)
theorem zn_X12_shareOf {N gg : Int → Int} {h f : Int} (hM : zMo σ hm A) (hN : zia σ (A 0) = N) (hG : zia σ (A 7) = gg) (hV : mV N) (hg : gV gg) (a0 : 0 ≤ h) (a1 : h < 4) (h0 : 0 ≤ f) (h1 : f < N 2) : zP1 G mX12_shareOf (d + 8) [zR hm, zI h, zI f] σ (gShare N gg h f) := by
  subst hN
  subst hG
  exact zt_X12_shareOf hM hV hg a0 a1 h0 h1
theorem zt_X12_sharesIn {h : Int} (hM : zMo σ hm A) (hV : mV (zia σ (A 0))) (hg : gV (zia σ (A 7))) (a0 : 0 ≤ h) (a1 : h < 4) : zP1 G mX12_sharesIn (d + 9) [zR hm, zI h] σ (gShares (zia σ (A 0)) (zia σ (A 7)) h) := by
  refine zE_of rfl (by simp [zcat]) (Nat.le_of_ble_eq_true rfl) ?_
  show zF G mX12_sharesIn (d + 9) 0 [(0, zR hm), (1, zI h)] [] σ _
  have hb := hV.b
  have hn := hV.n
  have hs := nF_eq hV
  refine zF_iconst 1 dX12_sharesIn_0 rfl ?_
  refine zF_istore_n 2 (ls' := [(2, zI 0), (0, zR hm), (1, zI h)]) dX12_sharesIn_1 rfl (by decide) rfl ?_
  refine zF_iconst 3 dX12_sharesIn_2 rfl ?_
  refine zF_istore_n 4 (ls' := [(3, zI 0), (2, zI 0), (0, zR hm), (1, zI h)]) dX12_sharesIn_3 rfl (by decide) rfl ?_
  refine zF_locs (ls' := (fun (i : Nat) => [(3, zI (i : Int)), (2, zI (gSharesN (zia σ (A 0)) (zia σ (A 7)) h i)), (0, zR hm), (1, zI h)]) 0) ⟨zlI rfl (by first | rfl | omega | (push_cast; omega) | exact congrArg (_ + ·) (zbT (by assumption)) | exact congrArg (_ + ·) (zbF (by assumption)) | exact congrArg (_ + ·) (zbT (by omega)) | exact congrArg (_ + ·) (zbF (by omega)) | exact congrArg (_ + ·) (if_pos (by omega)).symm | exact congrArg (_ + ·) (if_neg (by omega)).symm | exact (if_pos (by omega)).symm | exact (if_neg (by omega)).symm | exact zsub_s (if_pos (by omega)).symm | exact zsub_s0 (if_neg (by omega)).symm | exact zadd0 (if_neg (by omega)).symm | exact zadd0 (zbF (by omega)) | exact (Int.sub_zero _).symm), zlI rfl (by first | rfl | omega | (push_cast; omega) | exact congrArg (_ + ·) (zbT (by assumption)) | exact congrArg (_ + ·) (zbF (by assumption)) | exact congrArg (_ + ·) (zbT (by omega)) | exact congrArg (_ + ·) (zbF (by omega)) | exact congrArg (_ + ·) (if_pos (by omega)).symm | exact congrArg (_ + ·) (if_neg (by omega)).symm | exact (if_pos (by omega)).symm | exact (if_neg (by omega)).symm | exact zsub_s (if_pos (by omega)).symm | exact zsub_s0 (if_neg (by omega)).symm | exact zadd0 (if_neg (by omega)).symm | exact zadd0 (zbF (by omega)) | exact (Int.sub_zero _).symm), rfl, rfl, trivial⟩ ?_
  refine zF_loop (n := (nF (zia σ (A 0)))) (fun (i : Nat) => [(3, zI (i : Int)), (2, zI (gSharesN (zia σ (A 0)) (zia σ (A 7)) h i)), (0, zR hm), (1, zI h)]) (fun _ => σ) (fun i hi ih4 => ?_) ?_
  · show zF G mX12_sharesIn (d + 9) 4 [(3, zI (i : Int)), (2, zI (gSharesN (zia σ (A 0)) (zia σ (A 7)) h i)), (0, zR hm), (1, zI h)] [] σ _
    refine zF_iload_n 5 dX12_sharesIn_4 rfl rfl ?_
    refine zF_aload_n 6 dX12_sharesIn_5 rfl rfl ?_
    refine zF_callVi 9 (d2 := (d + 8)) (as := []) dX12_sharesIn_6 rfl kX12_116 iX12_films (ci := 12) rfl eX12_films (Nat.le_refl _) hM.1 hM.2.1 rfl rfl (Nat.le_of_ble_eq_true rfl) (zn_X12_films hM rfl) ?_
    refine zF_icmp_ge 27 12 dX12_sharesIn_9 rfl rfl (by first | decide | exact hb _ | exact mSh_rg hb _ _ | assumption | exact zb_rg _ | (constructor <;> omega)) (by first | decide | exact hb _ | exact mSh_rg hb _ _ | assumption | exact zb_rg _ | (constructor <;> omega)) (fun c1 => ?_) (fun c1 => ?_)
    · exact absurd c1 (by omega)
    · refine zF_iload_n 13 dX12_sharesIn_12 rfl rfl ?_
      refine zF_aload_n 14 dX12_sharesIn_13 rfl rfl ?_
      refine zF_iload_n 15 dX12_sharesIn_14 rfl rfl ?_
      refine zF_iload_n 16 dX12_sharesIn_15 rfl rfl ?_
      refine zF_callVi 19 (d2 := (d + 8)) (as := [zI h, zI (i : Int)]) dX12_sharesIn_16 rfl kX12_193 iX12_shareOf (ci := 12) rfl eX12_shareOf (Nat.le_refl _) hM.1 hM.2.1 rfl rfl (Nat.le_of_ble_eq_true rfl) (zn_X12_shareOf hM rfl rfl hV hg (by omega) (by omega) (by omega) (by omega)) ?_
      refine zF_iadd 20 dX12_sharesIn_19 rfl ?_
      refine zF_istore_n 21 (ls' := [(2, zI ((gSharesN (zia σ (A 0)) (zia σ (A 7)) h i) + (gShare (zia σ (A 0)) (zia σ (A 7)) h (i : Int)))), (3, zI (i : Int)), (0, zR hm), (1, zI h)]) dX12_sharesIn_20 rfl (by decide) rfl ?_
      refine zF_iinc 24 (ls' := [(3, zI ((i : Int) + 1)), (2, zI ((gSharesN (zia σ (A 0)) (zia σ (A 7)) h i) + (gShare (zia σ (A 0)) (zia σ (A 7)) h (i : Int)))), (0, zR hm), (1, zI h)]) dX12_sharesIn_21 rfl rfl rfl (by decide) rfl ?_
      refine zF_goto 4 dX12_sharesIn_24 rfl ?_
      exact zF_locs (ls' := [(3, zI ((i + 1 : Nat) : Int)), (2, zI (gSharesN (zia σ (A 0)) (zia σ (A 7)) h (i + 1))), (0, zR hm), (1, zI h)]) ⟨zlI rfl (by first | rfl | omega | (push_cast; omega) | exact congrArg (_ + ·) (zbT (by assumption)) | exact congrArg (_ + ·) (zbF (by assumption)) | exact congrArg (_ + ·) (zbT (by omega)) | exact congrArg (_ + ·) (zbF (by omega)) | exact congrArg (_ + ·) (if_pos (by omega)).symm | exact congrArg (_ + ·) (if_neg (by omega)).symm | exact (if_pos (by omega)).symm | exact (if_neg (by omega)).symm | exact zsub_s (if_pos (by omega)).symm | exact zsub_s0 (if_neg (by omega)).symm | exact zadd0 (if_neg (by omega)).symm | exact zadd0 (zbF (by omega)) | exact (Int.sub_zero _).symm), zlI rfl (by first | rfl | omega | (push_cast; omega) | exact congrArg (_ + ·) (zbT (by assumption)) | exact congrArg (_ + ·) (zbF (by assumption)) | exact congrArg (_ + ·) (zbT (by omega)) | exact congrArg (_ + ·) (zbF (by omega)) | exact congrArg (_ + ·) (if_pos (by omega)).symm | exact congrArg (_ + ·) (if_neg (by omega)).symm | exact (if_pos (by omega)).symm | exact (if_neg (by omega)).symm | exact zsub_s (if_pos (by omega)).symm | exact zsub_s0 (if_neg (by omega)).symm | exact zadd0 (if_neg (by omega)).symm | exact zadd0 (zbF (by omega)) | exact (Int.sub_zero _).symm), rfl, rfl, trivial⟩ ih4
  · show zF G mX12_sharesIn (d + 9) 4 [(3, zI (((nF (zia σ (A 0))) : Nat) : Int)), (2, zI (gSharesN (zia σ (A 0)) (zia σ (A 7)) h (nF (zia σ (A 0))))), (0, zR hm), (1, zI h)] [] σ _
    refine zF_iload_n 5 dX12_sharesIn_4 rfl rfl ?_
    refine zF_aload_n 6 dX12_sharesIn_5 rfl rfl ?_
    refine zF_callVi 9 (d2 := (d + 8)) (as := []) dX12_sharesIn_6 rfl kX12_116 iX12_films (ci := 12) rfl eX12_films (Nat.le_refl _) hM.1 hM.2.1 rfl rfl (Nat.le_of_ble_eq_true rfl) (zn_X12_films hM rfl) ?_
    refine zF_icmp_ge 27 12 dX12_sharesIn_9 rfl rfl (by first | decide | exact hb _ | exact mSh_rg hb _ _ | assumption | exact zb_rg _ | (constructor <;> omega)) (by first | decide | exact hb _ | exact mSh_rg hb _ _ | assumption | exact zb_rg _ | (constructor <;> omega)) (fun c2 => ?_) (fun c2 => ?_)
    · refine zF_iload_n 28 dX12_sharesIn_27 rfl rfl ?_
      exact zF_iretP dX12_sharesIn_28 rfl (rfl)
    · exact absurd c2 (by omega)
theorem zn_X12_sharesIn {N gg : Int → Int} {h : Int} (hM : zMo σ hm A) (hN : zia σ (A 0) = N) (hG : zia σ (A 7) = gg) (hV : mV N) (hg : gV gg) (a0 : 0 ≤ h) (a1 : h < 4) : zP1 G mX12_sharesIn (d + 9) [zR hm, zI h] σ (gShares N gg h) := by
  subst hN
  subst hG
  exact zt_X12_sharesIn hM hV hg a0 a1
theorem zt_X12_rentsIn {h : Int} (hM : zMo σ hm A) (hV : mV (zia σ (A 0))) (h2 : zrg h) : zP1 G mX12_rentsIn (d + 2) [zR hm, zI h] σ (mRent (zia σ (A 0)) h) := by
  refine zE_of rfl (by simp [zcat]) (Nat.le_of_ble_eq_true rfl) ?_
  show zF G mX12_rentsIn (d + 2) 0 [(0, zR hm), (1, zI h)] [] σ _
  have hb := hV.b
  have hn := hV.n
  have hs := nS_eq hV
  refine zF_iconst 1 dX12_rentsIn_0 rfl ?_
  refine zF_istore_n 2 (ls' := [(2, zI 0), (0, zR hm), (1, zI h)]) dX12_rentsIn_1 rfl (by decide) rfl ?_
  refine zF_iconst 3 dX12_rentsIn_2 rfl ?_
  refine zF_istore_n 4 (ls' := [(3, zI 0), (2, zI 0), (0, zR hm), (1, zI h)]) dX12_rentsIn_3 rfl (by decide) rfl ?_
  refine zF_locs (ls' := (fun (i : Nat) => [(3, zI (i : Int)), (2, zI (mRentN (zia σ (A 0)) h i)), (0, zR hm), (1, zI h)]) 0) ⟨zlI rfl (by first | rfl | omega | (push_cast; omega) | exact congrArg (_ + ·) (zbT (by assumption)) | exact congrArg (_ + ·) (zbF (by assumption)) | exact congrArg (_ + ·) (zbT (by omega)) | exact congrArg (_ + ·) (zbF (by omega)) | exact congrArg (_ + ·) (if_pos (by omega)).symm | exact congrArg (_ + ·) (if_neg (by omega)).symm | exact (if_pos (by omega)).symm | exact (if_neg (by omega)).symm | exact zsub_s (if_pos (by omega)).symm | exact zsub_s0 (if_neg (by omega)).symm | exact zadd0 (if_neg (by omega)).symm | exact zadd0 (zbF (by omega)) | exact (Int.sub_zero _).symm), zlI rfl (by first | rfl | omega | (push_cast; omega) | exact congrArg (_ + ·) (zbT (by assumption)) | exact congrArg (_ + ·) (zbF (by assumption)) | exact congrArg (_ + ·) (zbT (by omega)) | exact congrArg (_ + ·) (zbF (by omega)) | exact congrArg (_ + ·) (if_pos (by omega)).symm | exact congrArg (_ + ·) (if_neg (by omega)).symm | exact (if_pos (by omega)).symm | exact (if_neg (by omega)).symm | exact zsub_s (if_pos (by omega)).symm | exact zsub_s0 (if_neg (by omega)).symm | exact zadd0 (if_neg (by omega)).symm | exact zadd0 (zbF (by omega)) | exact (Int.sub_zero _).symm), rfl, rfl, trivial⟩ ?_
  refine zF_loop (n := (nS (zia σ (A 0)))) (fun (i : Nat) => [(3, zI (i : Int)), (2, zI (mRentN (zia σ (A 0)) h i)), (0, zR hm), (1, zI h)]) (fun _ => σ) (fun i hi ih4 => ?_) ?_
  · show zF G mX12_rentsIn (d + 2) 4 [(3, zI (i : Int)), (2, zI (mRentN (zia σ (A 0)) h i)), (0, zR hm), (1, zI h)] [] σ _
    refine zF_iload_n 5 dX12_rentsIn_4 rfl rfl ?_
    refine zF_aload_n 6 dX12_rentsIn_5 rfl rfl ?_
    refine zF_callVi 9 (d2 := (d + 1)) (as := []) dX12_rentsIn_6 rfl kX12_113 iX12_screens (ci := 12) rfl eX12_screens (Nat.le_refl _) hM.1 hM.2.1 rfl rfl (Nat.le_of_ble_eq_true rfl) (zn_X12_screens hM rfl) ?_
    refine zF_icmp_ge 46 12 dX12_rentsIn_9 rfl rfl (by first | decide | exact hb _ | exact mSh_rg hb _ _ | assumption | exact zb_rg _ | (constructor <;> omega)) (by first | decide | exact hb _ | exact mSh_rg hb _ _ | assumption | exact zb_rg _ | (constructor <;> omega)) (fun c1 => ?_) (fun c1 => ?_)
    · exact absurd c1 (by omega)
    · refine zF_iload_n 13 dX12_rentsIn_12 rfl rfl ?_
      refine zF_iload_n 14 dX12_rentsIn_13 rfl rfl ?_
      refine zF_iconst 15 dX12_rentsIn_14 rfl ?_
      refine zF_icmp_eq 28 18 dX12_rentsIn_15 rfl rfl (by first | decide | exact hb _ | exact mSh_rg hb _ _ | assumption | exact zb_rg _ | (constructor <;> omega)) (by first | decide | exact hb _ | exact mSh_rg hb _ _ | assumption | exact zb_rg _ | (constructor <;> omega)) (fun c2 => ?_) (fun c2 => ?_)
      · refine zF_aload_n 29 dX12_rentsIn_28 rfl rfl ?_
        refine zF_iload_n 30 dX12_rentsIn_29 rfl rfl ?_
        refine zF_iconst 31 dX12_rentsIn_30 rfl ?_
        refine zF_callVi 34 (d2 := (d + 1)) (as := [zI (i : Int), zI 3]) dX12_rentsIn_31 rfl kX12_119 iX12_of (ci := 12) rfl eX12_of (Nat.le_refl _) hM.1 hM.2.1 rfl rfl (Nat.le_of_ble_eq_true rfl) (zn_X12_of hM rfl (by omega) (by omega)) ?_
        refine zF_goto 38 dX12_rentsIn_34 rfl ?_
        refine zF_iadd 39 dX12_rentsIn_38 rfl ?_
        refine zF_istore_n 40 (ls' := [(2, zI ((mRentN (zia σ (A 0)) h i) + (mS (zia σ (A 0)) (i : Int) 3))), (3, zI (i : Int)), (0, zR hm), (1, zI h)]) dX12_rentsIn_39 rfl (by decide) rfl ?_
        refine zF_iinc 43 (ls' := [(3, zI ((i : Int) + 1)), (2, zI ((mRentN (zia σ (A 0)) h i) + (mS (zia σ (A 0)) (i : Int) 3))), (0, zR hm), (1, zI h)]) dX12_rentsIn_40 rfl rfl rfl (by decide) rfl ?_
        refine zF_goto 4 dX12_rentsIn_43 rfl ?_
        exact zF_locs (ls' := [(3, zI ((i + 1 : Nat) : Int)), (2, zI (mRentN (zia σ (A 0)) h (i + 1))), (0, zR hm), (1, zI h)]) ⟨zlI rfl (by first | rfl | omega | (push_cast; omega) | exact congrArg (_ + ·) (zbT (by assumption)) | exact congrArg (_ + ·) (zbF (by assumption)) | exact congrArg (_ + ·) (zbT (by omega)) | exact congrArg (_ + ·) (zbF (by omega)) | exact congrArg (_ + ·) (if_pos (by omega)).symm | exact congrArg (_ + ·) (if_neg (by omega)).symm | exact (if_pos (by omega)).symm | exact (if_neg (by omega)).symm | exact zsub_s (if_pos (by omega)).symm | exact zsub_s0 (if_neg (by omega)).symm | exact zadd0 (if_neg (by omega)).symm | exact zadd0 (zbF (by omega)) | exact (Int.sub_zero _).symm), zlI rfl (by first | rfl | omega | (push_cast; omega) | exact congrArg (_ + ·) (zbT (by assumption)) | exact congrArg (_ + ·) (zbF (by assumption)) | exact congrArg (_ + ·) (zbT (by omega)) | exact congrArg (_ + ·) (zbF (by omega)) | exact congrArg (_ + ·) (if_pos (by omega)).symm | exact congrArg (_ + ·) (if_neg (by omega)).symm | exact (if_pos (by omega)).symm | exact (if_neg (by omega)).symm | exact zsub_s (if_pos (by omega)).symm | exact zsub_s0 (if_neg (by omega)).symm | exact zadd0 (if_neg (by omega)).symm | exact zadd0 (zbF (by omega)) | exact (Int.sub_zero _).symm), rfl, rfl, trivial⟩ ih4
      · refine zF_aload_n 19 dX12_rentsIn_18 rfl rfl ?_
        refine zF_iload_n 20 dX12_rentsIn_19 rfl rfl ?_
        refine zF_iconst 21 dX12_rentsIn_20 rfl ?_
        refine zF_callVi 24 (d2 := (d + 1)) (as := [zI (i : Int), zI 0]) dX12_rentsIn_21 rfl kX12_119 iX12_of (ci := 12) rfl eX12_of (Nat.le_refl _) hM.1 hM.2.1 rfl rfl (Nat.le_of_ble_eq_true rfl) (zn_X12_of hM rfl (by omega) (by omega)) ?_
        refine zF_iload_n 25 dX12_rentsIn_24 rfl rfl ?_
        refine zF_icmp_ne 37 28 dX12_rentsIn_25 rfl rfl (by first | decide | exact hb _ | exact mSh_rg hb _ _ | assumption | exact zb_rg _ | (constructor <;> omega)) (by first | decide | exact hb _ | exact mSh_rg hb _ _ | assumption | exact zb_rg _ | (constructor <;> omega)) (fun c3 => ?_) (fun c3 => ?_)
        · refine zF_iconst 38 dX12_rentsIn_37 rfl ?_
          refine zF_iadd 39 dX12_rentsIn_38 rfl ?_
          refine zF_istore_n 40 (ls' := [(2, zI ((mRentN (zia σ (A 0)) h i) + 0)), (3, zI (i : Int)), (0, zR hm), (1, zI h)]) dX12_rentsIn_39 rfl (by decide) rfl ?_
          refine zF_iinc 43 (ls' := [(3, zI ((i : Int) + 1)), (2, zI ((mRentN (zia σ (A 0)) h i) + 0)), (0, zR hm), (1, zI h)]) dX12_rentsIn_40 rfl rfl rfl (by decide) rfl ?_
          refine zF_goto 4 dX12_rentsIn_43 rfl ?_
          exact zF_locs (ls' := [(3, zI ((i + 1 : Nat) : Int)), (2, zI (mRentN (zia σ (A 0)) h (i + 1))), (0, zR hm), (1, zI h)]) ⟨zlI rfl (by first | rfl | omega | (push_cast; omega) | exact congrArg (_ + ·) (zbT (by assumption)) | exact congrArg (_ + ·) (zbF (by assumption)) | exact congrArg (_ + ·) (zbT (by omega)) | exact congrArg (_ + ·) (zbF (by omega)) | exact congrArg (_ + ·) (if_pos (by omega)).symm | exact congrArg (_ + ·) (if_neg (by omega)).symm | exact (if_pos (by omega)).symm | exact (if_neg (by omega)).symm | exact zsub_s (if_pos (by omega)).symm | exact zsub_s0 (if_neg (by omega)).symm | exact zadd0 (if_neg (by omega)).symm | exact zadd0 (zbF (by omega)) | exact (Int.sub_zero _).symm), zlI rfl (by first | rfl | omega | (push_cast; omega) | exact congrArg (_ + ·) (zbT (by assumption)) | exact congrArg (_ + ·) (zbF (by assumption)) | exact congrArg (_ + ·) (zbT (by omega)) | exact congrArg (_ + ·) (zbF (by omega)) | exact congrArg (_ + ·) (if_pos (by omega)).symm | exact congrArg (_ + ·) (if_neg (by omega)).symm | exact (if_pos (by omega)).symm | exact (if_neg (by omega)).symm | exact zsub_s (if_pos (by omega)).symm | exact zsub_s0 (if_neg (by omega)).symm | exact zadd0 (if_neg (by omega)).symm | exact zadd0 (zbF (by omega)) | exact (Int.sub_zero _).symm), rfl, rfl, trivial⟩ ih4
        · refine zF_aload_n 29 dX12_rentsIn_28 rfl rfl ?_
          refine zF_iload_n 30 dX12_rentsIn_29 rfl rfl ?_
          refine zF_iconst 31 dX12_rentsIn_30 rfl ?_
          refine zF_callVi 34 (d2 := (d + 1)) (as := [zI (i : Int), zI 3]) dX12_rentsIn_31 rfl kX12_119 iX12_of (ci := 12) rfl eX12_of (Nat.le_refl _) hM.1 hM.2.1 rfl rfl (Nat.le_of_ble_eq_true rfl) (zn_X12_of hM rfl (by omega) (by omega)) ?_
          refine zF_goto 38 dX12_rentsIn_34 rfl ?_
          refine zF_iadd 39 dX12_rentsIn_38 rfl ?_
          refine zF_istore_n 40 (ls' := [(2, zI ((mRentN (zia σ (A 0)) h i) + (mS (zia σ (A 0)) (i : Int) 3))), (3, zI (i : Int)), (0, zR hm), (1, zI h)]) dX12_rentsIn_39 rfl (by decide) rfl ?_
          refine zF_iinc 43 (ls' := [(3, zI ((i : Int) + 1)), (2, zI ((mRentN (zia σ (A 0)) h i) + (mS (zia σ (A 0)) (i : Int) 3))), (0, zR hm), (1, zI h)]) dX12_rentsIn_40 rfl rfl rfl (by decide) rfl ?_
          refine zF_goto 4 dX12_rentsIn_43 rfl ?_
          exact zF_locs (ls' := [(3, zI ((i + 1 : Nat) : Int)), (2, zI (mRentN (zia σ (A 0)) h (i + 1))), (0, zR hm), (1, zI h)]) ⟨zlI rfl (by first | rfl | omega | (push_cast; omega) | exact congrArg (_ + ·) (zbT (by assumption)) | exact congrArg (_ + ·) (zbF (by assumption)) | exact congrArg (_ + ·) (zbT (by omega)) | exact congrArg (_ + ·) (zbF (by omega)) | exact congrArg (_ + ·) (if_pos (by omega)).symm | exact congrArg (_ + ·) (if_neg (by omega)).symm | exact (if_pos (by omega)).symm | exact (if_neg (by omega)).symm | exact zsub_s (if_pos (by omega)).symm | exact zsub_s0 (if_neg (by omega)).symm | exact zadd0 (if_neg (by omega)).symm | exact zadd0 (zbF (by omega)) | exact (Int.sub_zero _).symm), zlI rfl (by first | rfl | omega | (push_cast; omega) | exact congrArg (_ + ·) (zbT (by assumption)) | exact congrArg (_ + ·) (zbF (by assumption)) | exact congrArg (_ + ·) (zbT (by omega)) | exact congrArg (_ + ·) (zbF (by omega)) | exact congrArg (_ + ·) (if_pos (by omega)).symm | exact congrArg (_ + ·) (if_neg (by omega)).symm | exact (if_pos (by omega)).symm | exact (if_neg (by omega)).symm | exact zsub_s (if_pos (by omega)).symm | exact zsub_s0 (if_neg (by omega)).symm | exact zadd0 (if_neg (by omega)).symm | exact zadd0 (zbF (by omega)) | exact (Int.sub_zero _).symm), rfl, rfl, trivial⟩ ih4
  · show zF G mX12_rentsIn (d + 2) 4 [(3, zI (((nS (zia σ (A 0))) : Nat) : Int)), (2, zI (mRentN (zia σ (A 0)) h (nS (zia σ (A 0))))), (0, zR hm), (1, zI h)] [] σ _
    refine zF_iload_n 5 dX12_rentsIn_4 rfl rfl ?_
    refine zF_aload_n 6 dX12_rentsIn_5 rfl rfl ?_
    refine zF_callVi 9 (d2 := (d + 1)) (as := []) dX12_rentsIn_6 rfl kX12_113 iX12_screens (ci := 12) rfl eX12_screens (Nat.le_refl _) hM.1 hM.2.1 rfl rfl (Nat.le_of_ble_eq_true rfl) (zn_X12_screens hM rfl) ?_
    refine zF_icmp_ge 46 12 dX12_rentsIn_9 rfl rfl (by first | decide | exact hb _ | exact mSh_rg hb _ _ | assumption | exact zb_rg _ | (constructor <;> omega)) (by first | decide | exact hb _ | exact mSh_rg hb _ _ | assumption | exact zb_rg _ | (constructor <;> omega)) (fun c4 => ?_) (fun c4 => ?_)
    · refine zF_iload_n 47 dX12_rentsIn_46 rfl rfl ?_
      exact zF_iretP dX12_rentsIn_47 rfl (rfl)
    · exact absurd c4 (by omega)
theorem zn_X12_rentsIn {N : Int → Int} {h : Int} (hM : zMo σ hm A) (hN : zia σ (A 0) = N) (hV : mV N) (h2 : zrg h) : zP1 G mX12_rentsIn (d + 2) [zR hm, zI h] σ (mRent N h) := by
  subst hN
  exact zt_X12_rentsIn hM hV h2
theorem zt_X12_daysOf {a f : Int} (hM : zMo σ hm A) (hV : mV (zia σ (A 0))) (h0 : 0 ≤ a) (h1 : a < 10) (h2 : zrg f) : zP1 G mX12_daysOf (d + 4) [zR hm, zI a, zI f] σ (mDays (zia σ (A 0)) a f) := by
  refine zE_of rfl (by simp [zcat]) (Nat.le_of_ble_eq_true rfl) ?_
  show zF G mX12_daysOf (d + 4) 0 [(0, zR hm), (1, zI a), (2, zI f)] [] σ _
  have hb := hV.b
  have hn := hV.n
  refine zF_iconst 1 dX12_daysOf_0 rfl ?_
  refine zF_istore_n 2 (ls' := [(3, zI 0), (0, zR hm), (1, zI a), (2, zI f)]) dX12_daysOf_1 rfl (by decide) rfl ?_
  refine zF_iconst 3 dX12_daysOf_2 rfl ?_
  refine zF_istore 5 (ls' := [(4, zI 0), (3, zI 0), (0, zR hm), (1, zI a), (2, zI f)]) dX12_daysOf_3 rfl (by decide) rfl ?_
  refine zF_locs (ls' := (fun (i : Nat) => [(4, zI (i : Int)), (3, zI (mDaysN (zia σ (A 0)) a f i)), (0, zR hm), (1, zI a), (2, zI f)]) 0) ⟨zlI rfl (by first | rfl | omega | (push_cast; omega) | exact congrArg (_ + ·) (zbT (by assumption)) | exact congrArg (_ + ·) (zbF (by assumption)) | exact congrArg (_ + ·) (zbT (by omega)) | exact congrArg (_ + ·) (zbF (by omega)) | exact congrArg (_ + ·) (if_pos (by omega)).symm | exact congrArg (_ + ·) (if_neg (by omega)).symm | exact (if_pos (by omega)).symm | exact (if_neg (by omega)).symm | exact zsub_s (if_pos (by omega)).symm | exact zsub_s0 (if_neg (by omega)).symm | exact zadd0 (if_neg (by omega)).symm | exact zadd0 (zbF (by omega)) | exact (Int.sub_zero _).symm), zlI rfl (by first | rfl | omega | (push_cast; omega) | exact congrArg (_ + ·) (zbT (by assumption)) | exact congrArg (_ + ·) (zbF (by assumption)) | exact congrArg (_ + ·) (zbT (by omega)) | exact congrArg (_ + ·) (zbF (by omega)) | exact congrArg (_ + ·) (if_pos (by omega)).symm | exact congrArg (_ + ·) (if_neg (by omega)).symm | exact (if_pos (by omega)).symm | exact (if_neg (by omega)).symm | exact zsub_s (if_pos (by omega)).symm | exact zsub_s0 (if_neg (by omega)).symm | exact zadd0 (if_neg (by omega)).symm | exact zadd0 (zbF (by omega)) | exact (Int.sub_zero _).symm), rfl, rfl, rfl, trivial⟩ ?_
  refine zF_loop (n := 7) (fun (i : Nat) => [(4, zI (i : Int)), (3, zI (mDaysN (zia σ (A 0)) a f i)), (0, zR hm), (1, zI a), (2, zI f)]) (fun _ => σ) (fun i hi ih5 => ?_) ?_
  · show zF G mX12_daysOf (d + 4) 5 [(4, zI (i : Int)), (3, zI (mDaysN (zia σ (A 0)) a f i)), (0, zR hm), (1, zI a), (2, zI f)] [] σ _
    refine zF_iload 7 dX12_daysOf_5 rfl rfl ?_
    refine zF_bipush 9 dX12_daysOf_7 rfl (by decide) ?_
    refine zF_icmp_ge 37 12 dX12_daysOf_9 rfl rfl (by first | decide | exact hb _ | exact mSh_rg hb _ _ | assumption | exact zb_rg _ | (constructor <;> omega)) (by first | decide | exact hb _ | exact mSh_rg hb _ _ | assumption | exact zb_rg _ | (constructor <;> omega)) (fun c1 => ?_) (fun c1 => ?_)
    · exact absurd c1 (by omega)
    · refine zF_iload_n 13 dX12_daysOf_12 rfl rfl ?_
      refine zF_aload_n 14 dX12_daysOf_13 rfl rfl ?_
      refine zF_iload_n 15 dX12_daysOf_14 rfl rfl ?_
      refine zF_iload 17 dX12_daysOf_15 rfl rfl ?_
      refine zF_callVi 20 (d2 := (d + 3)) (as := [zI a, zI (i : Int)]) dX12_daysOf_17 rfl kX12_129 iX12_shownOn (ci := 12) rfl eX12_shownOn (Nat.le_refl _) hM.1 hM.2.1 rfl rfl (Nat.le_of_ble_eq_true rfl) (zn_X12_shownOn hM rfl hb (by omega) (by omega) (by first | decide | exact hb _ | exact mSh_rg hb _ _ | assumption | exact zb_rg _ | (constructor <;> omega))) ?_
      refine zF_iload_n 21 dX12_daysOf_20 rfl rfl ?_
      refine zF_icmp_ne 28 24 dX12_daysOf_21 rfl rfl (by first | decide | exact hb _ | exact mSh_rg hb _ _ | assumption | exact zb_rg _ | (constructor <;> omega)) (by first | decide | exact hb _ | exact mSh_rg hb _ _ | assumption | exact zb_rg _ | (constructor <;> omega)) (fun c2 => ?_) (fun c2 => ?_)
      · refine zF_iconst 29 dX12_daysOf_28 rfl ?_
        refine zF_iadd 30 dX12_daysOf_29 rfl ?_
        refine zF_istore_n 31 (ls' := [(3, zI ((mDaysN (zia σ (A 0)) a f i) + 0)), (4, zI (i : Int)), (0, zR hm), (1, zI a), (2, zI f)]) dX12_daysOf_30 rfl (by decide) rfl ?_
        refine zF_iinc 34 (ls' := [(4, zI ((i : Int) + 1)), (3, zI ((mDaysN (zia σ (A 0)) a f i) + 0)), (0, zR hm), (1, zI a), (2, zI f)]) dX12_daysOf_31 rfl rfl rfl (by decide) rfl ?_
        refine zF_goto 5 dX12_daysOf_34 rfl ?_
        exact zF_locs (ls' := [(4, zI ((i + 1 : Nat) : Int)), (3, zI (mDaysN (zia σ (A 0)) a f (i + 1))), (0, zR hm), (1, zI a), (2, zI f)]) ⟨zlI rfl (by first | rfl | omega | (push_cast; omega) | exact congrArg (_ + ·) (zbT (by assumption)) | exact congrArg (_ + ·) (zbF (by assumption)) | exact congrArg (_ + ·) (zbT (by omega)) | exact congrArg (_ + ·) (zbF (by omega)) | exact congrArg (_ + ·) (if_pos (by omega)).symm | exact congrArg (_ + ·) (if_neg (by omega)).symm | exact (if_pos (by omega)).symm | exact (if_neg (by omega)).symm | exact zsub_s (if_pos (by omega)).symm | exact zsub_s0 (if_neg (by omega)).symm | exact zadd0 (if_neg (by omega)).symm | exact zadd0 (zbF (by omega)) | exact (Int.sub_zero _).symm), zlI rfl (by first | rfl | omega | (push_cast; omega) | exact congrArg (_ + ·) (zbT (by assumption)) | exact congrArg (_ + ·) (zbF (by assumption)) | exact congrArg (_ + ·) (zbT (by omega)) | exact congrArg (_ + ·) (zbF (by omega)) | exact congrArg (_ + ·) (if_pos (by omega)).symm | exact congrArg (_ + ·) (if_neg (by omega)).symm | exact (if_pos (by omega)).symm | exact (if_neg (by omega)).symm | exact zsub_s (if_pos (by omega)).symm | exact zsub_s0 (if_neg (by omega)).symm | exact zadd0 (if_neg (by omega)).symm | exact zadd0 (zbF (by omega)) | exact (Int.sub_zero _).symm), rfl, rfl, rfl, trivial⟩ ih5
      · refine zF_iconst 25 dX12_daysOf_24 rfl ?_
        refine zF_goto 29 dX12_daysOf_25 rfl ?_
        refine zF_iadd 30 dX12_daysOf_29 rfl ?_
        refine zF_istore_n 31 (ls' := [(3, zI ((mDaysN (zia σ (A 0)) a f i) + 1)), (4, zI (i : Int)), (0, zR hm), (1, zI a), (2, zI f)]) dX12_daysOf_30 rfl (by decide) rfl ?_
        refine zF_iinc 34 (ls' := [(4, zI ((i : Int) + 1)), (3, zI ((mDaysN (zia σ (A 0)) a f i) + 1)), (0, zR hm), (1, zI a), (2, zI f)]) dX12_daysOf_31 rfl rfl rfl (by decide) rfl ?_
        refine zF_goto 5 dX12_daysOf_34 rfl ?_
        exact zF_locs (ls' := [(4, zI ((i + 1 : Nat) : Int)), (3, zI (mDaysN (zia σ (A 0)) a f (i + 1))), (0, zR hm), (1, zI a), (2, zI f)]) ⟨zlI rfl (by first | rfl | omega | (push_cast; omega) | exact congrArg (_ + ·) (zbT (by assumption)) | exact congrArg (_ + ·) (zbF (by assumption)) | exact congrArg (_ + ·) (zbT (by omega)) | exact congrArg (_ + ·) (zbF (by omega)) | exact congrArg (_ + ·) (if_pos (by omega)).symm | exact congrArg (_ + ·) (if_neg (by omega)).symm | exact (if_pos (by omega)).symm | exact (if_neg (by omega)).symm | exact zsub_s (if_pos (by omega)).symm | exact zsub_s0 (if_neg (by omega)).symm | exact zadd0 (if_neg (by omega)).symm | exact zadd0 (zbF (by omega)) | exact (Int.sub_zero _).symm), zlI rfl (by first | rfl | omega | (push_cast; omega) | exact congrArg (_ + ·) (zbT (by assumption)) | exact congrArg (_ + ·) (zbF (by assumption)) | exact congrArg (_ + ·) (zbT (by omega)) | exact congrArg (_ + ·) (zbF (by omega)) | exact congrArg (_ + ·) (if_pos (by omega)).symm | exact congrArg (_ + ·) (if_neg (by omega)).symm | exact (if_pos (by omega)).symm | exact (if_neg (by omega)).symm | exact zsub_s (if_pos (by omega)).symm | exact zsub_s0 (if_neg (by omega)).symm | exact zadd0 (if_neg (by omega)).symm | exact zadd0 (zbF (by omega)) | exact (Int.sub_zero _).symm), rfl, rfl, rfl, trivial⟩ ih5
  · show zF G mX12_daysOf (d + 4) 5 [(4, zI ((7 : Nat) : Int)), (3, zI (mDaysN (zia σ (A 0)) a f 7)), (0, zR hm), (1, zI a), (2, zI f)] [] σ _
    refine zF_iload 7 dX12_daysOf_5 rfl rfl ?_
    refine zF_bipush 9 dX12_daysOf_7 rfl (by decide) ?_
    refine zF_icmp_ge 37 12 dX12_daysOf_9 rfl rfl (by first | decide | exact hb _ | exact mSh_rg hb _ _ | assumption | exact zb_rg _ | (constructor <;> omega)) (by first | decide | exact hb _ | exact mSh_rg hb _ _ | assumption | exact zb_rg _ | (constructor <;> omega)) (fun c3 => ?_) (fun c3 => ?_)
    · refine zF_iload_n 38 dX12_daysOf_37 rfl rfl ?_
      exact zF_iretP dX12_daysOf_38 rfl (rfl)
    · exact absurd c3 (by omega)
theorem zn_X12_daysOf {N : Int → Int} {a f : Int} (hM : zMo σ hm A) (hN : zia σ (A 0) = N) (hV : mV N) (h0 : 0 ≤ a) (h1 : a < 10) (h2 : zrg f) : zP1 G mX12_daysOf (d + 4) [zR hm, zI a, zI f] σ (mDays N a f) := by
  subst hN
  exact zt_X12_daysOf hM hV h0 h1 h2
theorem zt_X12_isHeld {a : Int} (hM : zMo σ hm A) (hb : ∀ j, zrg (zia σ (A 0) j)) (h0 : 0 ≤ a) (h1 : a < 10) : zP1 G mX12_isHeld (d + 2) [zR hm, zI a] σ (zb (mS (zia σ (A 0)) a 7 = 1)) := by
  refine zE_of rfl (by simp [zcat]) (Nat.le_of_ble_eq_true rfl) ?_
  show zF G mX12_isHeld (d + 2) 0 [(0, zR hm), (1, zI a)] [] σ _
  refine zF_aload_n 1 dX12_isHeld_0 rfl rfl ?_
  refine zF_iload_n 2 dX12_isHeld_1 rfl rfl ?_
  refine zF_bipush 4 dX12_isHeld_2 rfl (by decide) ?_
  refine zF_callVi 7 (d2 := (d + 1)) (as := [zI a, zI 7]) dX12_isHeld_4 rfl kX12_119 iX12_of (ci := 12) rfl eX12_of (Nat.le_refl _) hM.1 hM.2.1 rfl rfl (Nat.le_of_ble_eq_true rfl) (zn_X12_of hM rfl (by omega) (by omega)) ?_
  refine zF_iconst 8 dX12_isHeld_7 rfl ?_
  refine zF_icmp_ne 15 11 dX12_isHeld_8 rfl rfl (by first | decide | exact hb _ | assumption | exact zb_rg _ | (constructor <;> omega)) (by first | decide | exact hb _ | assumption | exact zb_rg _ | (constructor <;> omega)) (fun c1 => ?_) (fun c1 => ?_)
  · refine zF_iconst 16 dX12_isHeld_15 rfl ?_
    exact zF_zretP dX12_isHeld_16 rfl (by decide) (by first | exact zbT (by assumption) | exact zbF (by assumption) | exact zbF (by omega) | exact zbT (by omega))
  · refine zF_iconst 12 dX12_isHeld_11 rfl ?_
    refine zF_goto 16 dX12_isHeld_12 rfl ?_
    exact zF_zretP dX12_isHeld_16 rfl (by decide) (by first | exact zbT (by assumption) | exact zbF (by assumption) | exact zbF (by omega) | exact zbT (by omega))
theorem zn_X12_isHeld {N : Int → Int} {a : Int} (hM : zMo σ hm A) (hN : zia σ (A 0) = N) (hb : ∀ j, zrg (N j)) (h0 : 0 ≤ a) (h1 : a < 10) : zP1 G mX12_isHeld (d + 2) [zR hm, zI a] σ (zb (mS N a 7 = 1)) := by
  subst hN
  exact zt_X12_isHeld hM hb h0 h1
end ZN

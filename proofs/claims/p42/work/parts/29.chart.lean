/-! holding, the chart, the roster -/
section ZR
variable {G : zG} {d : Nat} {σ : zMem} {hm : Nat} {A : Nat → Nat} {B : Nat → Nat} {N : Int → Int}
theorem zmul_b {a b X Y : Int} (a0 : 0 ≤ a) (a1 : a ≤ X) (b0 : 0 ≤ b) (b1 : b ≤ Y) : 0 ≤ a * b ∧ a * b ≤ X * Y :=
  ⟨Int.mul_nonneg a0 b0, Int.mul_le_mul a1 b1 b0 (by omega)⟩
/-- how many of the first screens are in a house -/
def mCn (N : Int → Int) (h : Int) (n : Nat) : Int := zsum (fun s => zb (mS N s 0 = h)) n
/-- no house has more than four screens -/
def mC4 (N : Int → Int) : Prop := ∀ h, mCn N h (nS N) ≤ 4
theorem mC4.c (h : mC4 N) : ∀ h, mCn N h (nS N) ≤ 4 := h
/-- what is kept by every call beside mV, mW, mX -/
def mQ (N : Int → Int) : Prop :=
  (∀ h, mCn N h (nS N) ≤ 4) ∧
  (∀ f, 0 ≤ f → f < 6 → 0 ≤ mF N f 9 ∧ mF N f 9 ≤ 20790000 * N 3) ∧
  (∀ s, 0 ≤ s → s < N 1 → (mS N s 5 ≠ -1 → mS N s 4 ≠ mS N s 5) ∧ (mS N s 7 = 1 → 0 ≤ mS N s 4)) ∧
  (∀ h f, 0 ≤ h → h < N 0 → 0 ≤ f → f < N 2 → mNeed N h f ≤ mP N f h) ∧
  (∀ h f, 0 ≤ h → h < 4 → 0 ≤ f → f < 6 → mR N h f ≤ N 3) ∧
  (∀ k, 0 ≤ k → k < 4 → 0 ≤ N (208 + k) ∧ N (208 + k) ≤ 20790000 * N 3) ∧
  (∀ j, j < 0 ∨ 312 ≤ j → N j = 0)
theorem mQ.c (h : mQ N) : ∀ h, mCn N h (nS N) ≤ 4 := h.1
theorem mQ.t (h : mQ N) : ∀ f, 0 ≤ f → f < 6 → 0 ≤ mF N f 9 ∧ mF N f 9 ≤ 20790000 * N 3 := h.2.1
theorem mQ.s (h : mQ N) : ∀ s, 0 ≤ s → s < N 1 → (mS N s 5 ≠ -1 → mS N s 4 ≠ mS N s 5) ∧ (mS N s 7 = 1 → 0 ≤ mS N s 4) := h.2.2.1
theorem mQ.p (h : mQ N) : ∀ h f, 0 ≤ h → h < N 0 → 0 ≤ f → f < N 2 → mNeed N h f ≤ mP N f h := h.2.2.2.1
theorem mQ.r (h : mQ N) : ∀ h f, 0 ≤ h → h < 4 → 0 ≤ f → f < 6 → mR N h f ≤ N 3 := h.2.2.2.2.1
theorem mQ.a (h : mQ N) : ∀ k, 0 ≤ k → k < 4 → 0 ≤ N (208 + k) ∧ N (208 + k) ≤ 20790000 * N 3 := h.2.2.2.2.2.1
theorem mQ.z (h : mQ N) : ∀ j, j < 0 ∨ 312 ≤ j → N j = 0 := h.2.2.2.2.2.2
abbrev mHold (N : Int → Int) (s : Int) : Prop := mSh N s 6 ≠ -1 ∧ mH N (mS N s 0) 1 * (mCap N s * mPrice N s * (7 - mS N s 6)) ≤ vSn N s (mS N s 6) (7 - mS N s 6).toNat * mPrice N s * 100
abbrev mHoldM (N g : Int → Int) (s : Int) : Prop := mSh N s 6 ≠ -1 ∧ mH N (mS N s 0) 1 * (mDays N s (mSh N s 6) * mCap N s * mPrice N s) ≤ gBy N g s (mSh N s 6) * 100
theorem zsum_tail {y : Int → Int} : ∀ (n D : Nat), D ≤ n → zsum (fun d => if (D : Int) ≤ d then y d else 0) n = zsum (fun i => y (D + i)) (n - D) := by
  intro n
  induction n with
  | zero => intro D h; have : D = 0 := by omega
            subst this; rfl
  | succ n ih =>
    intro D h
    by_cases e : D = n + 1
    · subst e
      rw [Nat.sub_self]
      exact (zsum_congr fun i hi => if_neg (by omega)).trans (zsum_0 _)
    · rw [show n + 1 - D = (n - D) + 1 by omega]
      show zsum _ n + (if (D : Int) ≤ (n : Int) then y n else 0) = zsum _ (n - D) + y (D + ((n - D : Nat) : Int))
      rw [ih D (by omega), if_pos (by omega), show (D : Int) + ((n - D : Nat) : Int) = n by omega]
theorem zsum_one (n : Nat) : zsum (fun _ => 1) n = n := by
  induction n with
  | zero => rfl
  | succ n ih => show zsum (fun _ => 1) n + 1 = ((n + 1 : Nat) : Int); rw [ih]; omega
theorem mSh_last (hV : mV N) (hX : mX N) (hQ : mQ N) {s : Int} (s0 : 0 ≤ s) (s1 : s < N 1) (hne : mSh N s 6 ≠ -1) {dd : Int} (d0 : 0 ≤ dd) (d1 : dd < 7) : mSh N s dd = mSh N s 6 ↔ mS N s 6 ≤ dd := by
  have hn := hV.n
  have h1 := hV.s s s0 (by omega)
  have h2 := (hX s s0 s1).1
  have h3 := (hQ.s s s0 s1).1
  unfold mSh at hne ⊢
  by_cases e : mS N s 5 = -1
  · rw [if_neg (by omega), if_neg (by omega)]; omega
  · rw [if_pos (by omega)] at hne
    rw [if_pos (show mS N s 5 ≠ -1 ∧ mS N s 6 ≤ 6 by omega)]
    by_cases q : mS N s 6 ≤ dd
    · rw [if_pos ⟨e, q⟩]; exact ⟨fun _ => q, fun _ => rfl⟩
    · rw [if_neg (fun z => q z.2)]; exact ⟨fun z => absurd z (h3 e), fun z => absurd z q⟩
theorem mDays_last (hV : mV N) (hX : mX N) (hQ : mQ N) {s : Int} (s0 : 0 ≤ s) (s1 : s < N 1) (hne : mSh N s 6 ≠ -1) : mDays N s (mSh N s 6) = 7 - mS N s 6 := by
  have hn := hV.n
  have h1 := hV.s s s0 (by omega)
  obtain ⟨D, hD⟩ := Int.eq_ofNat_of_zero_le (a := mS N s 6) (by omega)
  have : mDays N s (mSh N s 6) = zsum (fun d => if (D : Int) ≤ d then 1 else 0) 7 := zsum_congr fun i hi => by
    have := mSh_last hV hX hQ s0 s1 hne (dd := (i : Int)) (by omega) (by omega)
    rw [hD] at this
    unfold zb
    by_cases q : (D : Int) ≤ i
    · rw [if_pos q, if_pos (this.mpr q)]
    · rw [if_neg q, if_neg (fun z => q (this.mp z))]
  rw [this, zsum_tail (y := fun _ => 1) 7 D (by omega), zsum_one, hD]
  omega
theorem gBy_last (hV : mV N) (hX : mX N) (hQ : mQ N) {g : Int → Int} (hg : gOK N g) {s : Int} (s0 : 0 ≤ s) (s1 : s < N 1) (hne : mSh N s 6 ≠ -1) : gBy N g s (mSh N s 6) = vSn N s (mS N s 6) (7 - mS N s 6).toNat * mPrice N s := by
  have hn := hV.n
  have h1 := hV.s s s0 (by omega)
  obtain ⟨D, hD⟩ := Int.eq_ofNat_of_zero_le (a := mS N s 6) (by omega)
  have : gByN N g s (mSh N s 6) 7 = zsum (fun d => if (D : Int) ≤ d then gv N s d else 0) 7 := zsum_congr fun i hi => by
    have := mSh_last hV hX hQ s0 s1 hne (dd := (i : Int)) (by omega) (by omega)
    rw [hD] at this
    by_cases q : (D : Int) ≤ i
    · rw [if_pos q, if_pos (Or.inr (this.mpr q)), hg s i s0 (by omega) (by omega) (by omega)]
    · rw [if_neg q, if_neg (fun z => q (this.mp (z.resolve_left hne)))]
  unfold gBy vSn
  rw [this, zsum_tail (y := fun d => gv N s d) 7 D (by omega), hD, show (7 - (D : Int)).toNat = 7 - D by omega]
theorem mHold_eq (hV : mV N) (hX : mX N) (hQ : mQ N) {g : Int → Int} (hg : gOK N g) {s : Int} (s0 : 0 ≤ s) (s1 : s < N 1) : mHoldM N g s ↔ mHold N s := by
  unfold mHoldM mHold
  by_cases e : mSh N s 6 = -1
  · exact ⟨fun z => absurd e z.1, fun z => absurd e z.1⟩
  · rw [mDays_last hV hX hQ s0 s1 e, gBy_last hV hX hQ hg s0 s1 e, show (7 - mS N s 6) * mCap N s * mPrice N s = mCap N s * mPrice N s * (7 - mS N s 6) by rw [Int.mul_assoc, Int.mul_comm]]
theorem mDays_b (N : Int → Int) (s f : Int) : 0 ≤ mDays N s f ∧ mDays N s f ≤ 7 := by
  have a := zsum_ge (f := fun day => zb (mSh N s day = f)) (n := 7) (a := 0) fun i _ => zb_ge _
  have b := zsum_le (f := fun day => zb (mSh N s day = f)) (n := 7) (a := 1) fun i _ => zb_le _
  unfold mDays mDaysN
  omega
theorem mH_b (hV : mV N) {s : Int} (s0 : 0 ≤ s) (s1 : s < 10) : 0 ≤ mH N (mS N s 0) 1 ∧ mH N (mS N s 0) 1 ≤ 100 := by
  have h1 := hV.s s s0 s1
  have h2 := hV.h (mS N s 0) (by omega) (by omega)
  omega
theorem hold_b {a b c e : Int} (a0 : 0 ≤ a ∧ a ≤ 100) (b0 : 0 ≤ b ∧ b ≤ 7) (c0 : 0 ≤ c ∧ c ≤ 3000) (e0 : 0 ≤ e ∧ e ≤ 99) : zrg (a * (b * c * e)) ∧ zrg (a * (c * e * b)) := by
  have q1 := zmul_b b0.1 b0.2 c0.1 c0.2
  have q2 := zmul_b q1.1 q1.2 e0.1 e0.2
  have q3 := zmul_b a0.1 a0.2 q2.1 q2.2
  have : c * e * b = b * c * e := by rw [Int.mul_comm, ← Int.mul_assoc]
  rw [this]
  constructor <;> constructor <;> omega
/-- the roster: the k-th screen of a house -/
def rkN (N : Int → Int) (h : Int) : Nat → Int → Int
  | 0, _ => 0
  | n + 1, k => if mS N n 0 = h ∧ mCn N h n = k then n else rkN N h n k
def rk (N : Int → Int) (h k : Int) : Int := rkN N h (nS N) k
theorem mCn_b (N : Int → Int) (h : Int) (n : Nat) : 0 ≤ mCn N h n ∧ mCn N h n ≤ n := by
  have a := zsum_ge (f := fun s => zb (mS N s 0 = h)) (n := n) (a := 0) fun i _ => zb_ge _
  have b := zsum_le (f := fun s => zb (mS N s 0 = h)) (n := n) (a := 1) fun i _ => zb_le _
  unfold mCn
  omega
theorem mCn_s (N : Int → Int) (h : Int) (n : Nat) : mCn N h (n + 1) = mCn N h n + zb (mS N n 0 = h) := rfl
theorem mCn_mono (N : Int → Int) (h : Int) {a b : Nat} (hab : a ≤ b) : mCn N h a ≤ mCn N h b := by
  induction b with
  | zero => have : a = 0 := by omega
            subst this; exact Int.le_refl _
  | succ b ih =>
    by_cases e : a = b + 1
    · subst e; exact Int.le_refl _
    · have := ih (by omega)
      have := zb_ge (mS N b 0 = h)
      rw [mCn_s]
      omega
theorem mCn_lt (N : Int → Int) (h : Int) {a b : Nat} (hab : a < b) (e : mS N a 0 = h) : mCn N h a < mCn N h b := by
  have := mCn_mono N h (a := a + 1) (b := b) hab
  rw [mCn_s, ← zbT e] at this
  omega
theorem rkN_p (N : Int → Int) (h : Int) : ∀ (n : Nat) (k : Int), 0 ≤ k → k < mCn N h n → ∃ s : Nat, rkN N h n k = s ∧ s < n ∧ mS N s 0 = h ∧ mCn N h s = k := by
  intro n
  induction n with
  | zero => intro k h0 h1; exact absurd h1 (by show ¬ k < 0; omega)
  | succ n ih =>
    intro k h0 h1
    unfold rkN
    by_cases c : mS N n 0 = h ∧ mCn N h n = k
    · rw [if_pos c]; exact ⟨n, rfl, by omega, c.1, c.2⟩
    · rw [if_neg c]
      rw [mCn_s] at h1
      have : k < mCn N h n := by
        by_cases e : mS N n 0 = h
        · rw [← zbT e] at h1
          have : mCn N h n ≠ k := fun z => c ⟨e, z⟩
          omega
        · rw [← zbF e] at h1; omega
      obtain ⟨s, a, b, e⟩ := ih k h0 this
      exact ⟨s, a, by omega, e⟩
theorem rk_p (N : Int → Int) (h : Int) {k : Int} (h0 : 0 ≤ k) (h1 : k < mCn N h (nS N)) : ∃ s : Nat, rk N h k = s ∧ s < nS N ∧ mS N s 0 = h ∧ mCn N h s = k := rkN_p N h _ k h0 h1
theorem rk_inj (N : Int → Int) (h : Int) {s : Nat} (hs : s < nS N) (e : mS N s 0 = h) : rk N h (mCn N h s) = s := by
  have key : ∀ n, s < n → rkN N h n (mCn N h s) = s := by
    intro n
    induction n with
    | zero => intro q; omega
    | succ n ih =>
      intro q
      unfold rkN
      by_cases c : mS N n 0 = h ∧ mCn N h n = mCn N h s
      · rw [if_pos c]
        by_cases z : s = n
        · rw [z]
        · have := mCn_lt N h (a := s) (b := n) (by omega) e
          omega
      · rw [if_neg c]
        refine ih ?_
        by_cases z : s = n
        · subst z; exact absurd ⟨e, rfl⟩ c
        · omega
  exact key _ hs
/-- the chart -/
def mRk (N : Int → Int) (f : Int) : Int := mF N f 9 + cFt N f
def mAh (N : Int → Int) (f : Int) (n : Nat) : Int := zsum (fun o => zb (mRk N f < mRk N o ∨ (mRk N o = mRk N f ∧ o < f))) n
def mChN (N : Int → Int) (p : Int) : Nat → Int
  | 0 => -1
  | n + 1 => if mChN N p n = -1 then (if mAh N n (nF N) = p then n else -1) else mChN N p n
def mCh (N : Int → Int) (p : Int) : Int := mChN N p (nF N)
theorem mChN_no {p : Int} : ∀ {n : Nat}, (∀ f : Nat, f < n → mAh N f (nF N) ≠ p) → mChN N p n = -1 := by
  intro n
  induction n with
  | zero => intro _; rfl
  | succ n ih =>
    intro h
    unfold mChN
    rw [if_pos (ih fun f hf => h f (by omega)), if_neg (h n (by omega))]
theorem mChN_at {p : Int} {f : Nat} : ∀ {n : Nat}, f < n → (∀ g : Nat, g < f → mAh N g (nF N) ≠ p) → mAh N f (nF N) = p → mChN N p n = f := by
  intro n
  induction n with
  | zero => intro h; omega
  | succ n ih =>
    intro h h1 h2
    unfold mChN
    by_cases e : f = n
    · subst e
      rw [if_pos (mChN_no h1), if_pos h2]
    · rw [ih (by omega) h1 h2, if_neg (by omega)]
theorem mAh_b (N : Int → Int) (f : Int) (n : Nat) : 0 ≤ mAh N f n ∧ mAh N f n ≤ n := by
  have a := zsum_ge (f := fun o => zb (mRk N f < mRk N o ∨ (mRk N o = mRk N f ∧ o < f))) (n := n) (a := 0) fun i _ => zb_ge _
  have b := zsum_le (f := fun o => zb (mRk N f < mRk N o ∨ (mRk N o = mRk N f ∧ o < f))) (n := n) (a := 1) fun i _ => zb_le _
  unfold mAh
  omega
theorem mAh_lt (N : Int → Int) {f : Nat} {n : Nat} (hf : f < n) : mAh N f n < n := by
  have key : ∀ n : Nat, mAh N f n ≤ n ∧ (f < n → mAh N f n < n) := by
    intro n
    induction n with
    | zero => exact ⟨Int.le_refl _, fun h => by omega⟩
    | succ n ih =>
      have e : mAh N f (n + 1) = mAh N f n + zb (mRk N f < mRk N n ∨ (mRk N n = mRk N f ∧ (n : Int) < f)) := rfl
      have := zb_le (mRk N f < mRk N n ∨ (mRk N n = mRk N f ∧ (n : Int) < f))
      refine ⟨by rw [e]; omega, fun h => ?_⟩
      by_cases z : f = n
      · subst z
        rw [e, ← zbF (p := mRk N f < mRk N f ∨ (mRk N f = mRk N f ∧ (f : Int) < f)) (by omega)]
        omega
      · have := ih.2 (by omega)
        rw [e]; omega
  exact (key n).2 hf
/-- the least of those for which something holds -/
theorem zleast {n : Nat} {S : Nat → Prop} {r : Nat → Int} (h : ∃ f, f < n ∧ S f) : ∃ f, f < n ∧ S f ∧ ∀ o, o < n → S o → ¬ (r f < r o ∨ (r o = r f ∧ o < f)) := by
  induction n with
  | zero => obtain ⟨f, hf, _⟩ := h; omega
  | succ n ih =>
    by_cases q : ∃ f, f < n ∧ S f
    · obtain ⟨f, h1, h2, h3⟩ := ih q
      by_cases c : S n ∧ r f < r n
      · refine ⟨n, by omega, c.1, fun o ho hS => ?_⟩
        by_cases e : o = n
        · subst e; omega
        · have := h3 o (by omega) hS; omega
      · refine ⟨f, by omega, h2, fun o ho hS => ?_⟩
        by_cases e : o = n
        · subst e
          have : ¬ r f < r o := fun z => c ⟨hS, z⟩
          omega
        · exact h3 o (by omega) hS
    · obtain ⟨f, h1, h2⟩ := h
      have e : f = n := by
        by_cases e : f = n
        · exact e
        · exact absurd ⟨f, by omega, h2⟩ q
      subst e
      refine ⟨f, h1, h2, fun o ho hS => ?_⟩
      by_cases e : o = f
      · subst e; omega
      · exact absurd ⟨o, by omega, hS⟩ q
theorem mAh_hit (N : Int → Int) {n : Nat} : ∀ {p : Nat}, p < n → ∃ f : Nat, f < n ∧ mAh N f n = p := by
  intro p
  induction p with
  | zero =>
    intro h
    obtain ⟨f, h1, _, h3⟩ := zleast (n := n) (S := fun _ => True) (r := fun k => mRk N k) ⟨0, h, trivial⟩
    refine ⟨f, h1, ?_⟩
    refine (zsum_congr fun o ho => ?_).trans (zsum_0 n)
    have := h3 o ho trivial
    exact (zbF (by omega)).symm
  | succ p ih =>
    intro h
    obtain ⟨f, h1, h2⟩ := ih (by omega)
    by_cases q : ∃ g, g < n ∧ (mRk N g < mRk N f ∨ (mRk N f = mRk N g ∧ f < g))
    · obtain ⟨g, g1, g2, g3⟩ := zleast (n := n) (S := fun g => mRk N g < mRk N f ∨ (mRk N f = mRk N g ∧ f < g)) (r := fun k => mRk N k) q
      refine ⟨g, g1, ?_⟩
      have e : mAh N g n = zsum (fun o => zb (mRk N f < mRk N o ∨ (mRk N o = mRk N f ∧ o < f)) + if o = (f : Int) then 1 else 0) n := zsum_congr fun o ho => by
        have := g3 o ho
        by_cases c : o = f
        · subst c
          rw [if_pos rfl, ← zbT (by omega), ← zbF (by omega)]
          rfl
        · rw [if_neg (by omega), Int.add_zero]
          refine zb_congr ?_
          omega
      rw [e, zsum_add]
      have e2 : zsum (fun o => if o = (f : Int) then (1 : Int) else 0) n = 1 := by
        refine (zsum_congr fun o _ => ?_).trans (zsum_hit (j := (f : Int)) (y := 1) (m := n) (by omega) (by omega))
        by_cases c : (o : Int) = f
        · rw [if_pos c, if_pos c.symm]
        · rw [if_neg c, if_neg (fun z => c z.symm)]
      rw [e2]
      have : zsum (fun o => zb (mRk N f < mRk N o ∨ (mRk N o = mRk N f ∧ o < f))) n = p := h2
      rw [this]
      omega
    · exfalso
      -- all others are ahead of f
      have key : ∀ m : Nat, m ≤ n → mAh N f m = m - (if f < m then 1 else 0) := by
        intro m
        induction m with
        | zero => intro _; rfl
        | succ m im =>
          intro hm
          have e : mAh N f (m + 1) = mAh N f m + zb (mRk N f < mRk N m ∨ (mRk N m = mRk N f ∧ (m : Int) < f)) := rfl
          rw [e, im (by omega)]
          by_cases z : m = f
          · subst z
            rw [← zbF (by omega), if_neg (by omega), if_pos (by omega)]
            omega
          · have : ¬ (mRk N m < mRk N f ∨ (mRk N f = mRk N m ∧ f < m)) := fun w => q ⟨m, by omega, w⟩
            rw [← zbT (by omega)]
            by_cases y : f < m
            · rw [if_pos y, if_pos (by omega)]; omega
            · rw [if_neg y, if_neg (by omega)]; omega
      have := key n (Nat.le_refl _)
      rw [if_pos h1, h2] at this
      omega
theorem mCh_some (hV : mV N) {p : Int} (h0 : 0 ≤ p) (h1 : p < N 2) : ∃ f : Nat, f < nF N ∧ mAh N f (nF N) = p := by
  have hf := nF_eq hV
  obtain ⟨n, rfl⟩ := Int.eq_ofNat_of_zero_le h0
  exact mAh_hit N (by omega)
theorem gOK_ex (hV : mV N) : gOK N (fun j => gv N (j / 7) (j % 7)) := fun s dd a b c e => by
  show gv N ((7 * s + dd) / 7) ((7 * s + dd) % 7) = _
  rw [show (7 * s + dd) / 7 = s by omega, show (7 * s + dd) % 7 = dd by omega]
theorem cFt_b (hV : mV N) (hW : mW N) {f : Int} (f0 : 0 ≤ f) : 0 ≤ cFt N f ∧ cFt N f ≤ 20790000 := by
  have hg := gOK_ex hV
  rw [← gIn_films hV hW hg f0]
  exact gIn_b hV (gOK_V hV hg) (-1) f (nS N) (nS_eq hV).2
theorem mRk_b (hV : mV N) (hW : mW N) (hQ : mQ N) {f : Int} (f0 : 0 ≤ f) (f1 : f < 6) : 0 ≤ mRk N f ∧ mRk N f ≤ 1300000000 := by
  have a := cFt_b hV hW f0
  have b := hQ.t f f0 f1
  have c := hV.n
  unfold mRk
  omega
/-- a forecast -/
def fVN (N : Int → Int) (s f : Int) (n : Nat) : Int := zsum (fun day => eV N s f day) n
def fTake (N : Int → Int) (s f : Int) : Int := fVN N s f 7 * mPrice N s
def zcmp (a b : Int) : Int := if a < b then -1 else if a = b then 0 else 1
theorem zcmp_p (a b : Int) : (0 < zcmp a b ↔ b < a) ∧ (zcmp a b = 0 ↔ a = b) ∧ zrg (zcmp a b) := by
  unfold zcmp
  by_cases c : a < b
  · rw [if_pos c]; exact ⟨by omega, by omega, by decide⟩
  · rw [if_neg c]
    by_cases e : a = b
    · rw [if_pos e]; exact ⟨by omega, by omega, by decide⟩
    · rw [if_neg e]; exact ⟨by omega, by omega, by decide⟩
/-- a booking in the numbers -/
theorem mBook_at (N : Int → Int) (s a b c e t : Int) (f : Int) (f0 : 0 ≤ f) (f1 : f < 8) : mS (mBook N s a b c e) t f = if t = s then (if f = 4 then a else if f = 5 then b else if f = 6 then c else if f = 7 then e else mS N s f) else mS N t f := by
  unfold mS mBook
  by_cases q : t = s
  · subst q
    rw [if_pos rfl]
    by_cases q4 : f = 4
    · subst q4
      rw [if_neg (by omega), if_neg (by omega), if_neg (by omega), if_pos rfl, if_pos rfl]
    by_cases q5 : f = 5
    · subst q5
      rw [if_neg (by omega), if_neg (by omega), if_pos rfl, if_neg (by omega), if_pos rfl]
    by_cases q6 : f = 6
    · subst q6
      rw [if_neg (by omega), if_pos rfl, if_neg (by omega), if_neg (by omega), if_pos rfl]
    by_cases q7 : f = 7
    · subst q7
      rw [if_pos rfl, if_neg (by omega), if_neg (by omega), if_neg (by omega), if_pos rfl]
    · rw [if_neg (by omega), if_neg (by omega), if_neg (by omega), if_neg (by omega), if_neg (by omega), if_neg (by omega), if_neg (by omega), if_neg (by omega)]
  · rw [if_neg q, if_neg (by omega), if_neg (by omega), if_neg (by omega), if_neg (by omega)]
theorem mBook_4 {N : Int → Int} {s a b c e : Int} : mS (mBook N s a b c e) s 4 = a := by rw [mBook_at N s a b c e s 4 (by omega) (by omega), if_pos rfl]; rfl
theorem mBook_5 {N : Int → Int} {s a b c e : Int} : mS (mBook N s a b c e) s 5 = b := by rw [mBook_at N s a b c e s 5 (by omega) (by omega), if_pos rfl]; rfl
theorem mBook_6 {N : Int → Int} {s a b c e : Int} : mS (mBook N s a b c e) s 6 = c := by rw [mBook_at N s a b c e s 6 (by omega) (by omega), if_pos rfl]; rfl
theorem mBook_7 {N : Int → Int} {s a b c e : Int} : mS (mBook N s a b c e) s 7 = e := by rw [mBook_at N s a b c e s 7 (by omega) (by omega), if_pos rfl]; rfl
theorem mBook_t {N : Int → Int} {s a b c e t k : Int} (ht : t ≠ s) (k0 : 0 ≤ k) (k1 : k < 8) : mS (mBook N s a b c e) t k = mS N t k := by rw [mBook_at N s a b c e t k k0 k1, if_neg ht]
theorem mBook_c {N : Int → Int} {s a b c e t k : Int} (k0 : 0 ≤ k) (k1 : k < 4) : mS (mBook N s a b c e) t k = mS N t k := by
  rw [mBook_at N s a b c e t k k0 (by omega)]
  by_cases z : t = s
  · subst z; rw [if_pos rfl, if_neg (by omega), if_neg (by omega), if_neg (by omega), if_neg (by omega)]
  · rw [if_neg z]
theorem mBook_o (N : Int → Int) {s a b c e : Int} (s0 : 0 ≤ s) (s1 : s < 10) {j : Int} (h : j < 14 ∨ 94 ≤ j) : mBook N s a b c e j = N j := by
  unfold mBook
  rw [if_neg (by omega), if_neg (by omega), if_neg (by omega), if_neg (by omega)]
theorem mBook_F (N : Int → Int) {s a b c e : Int} (s0 : 0 ≤ s) (s1 : s < 10) {f k : Int} (f0 : 0 ≤ f) (k0 : 0 ≤ k) : mF (mBook N s a b c e) f k = mF N f k := mBook_o N s0 s1 (Or.inr (by omega))
theorem mBook_H (N : Int → Int) {s a b c e : Int} (s0 : 0 ≤ s) (s1 : s < 10) {h k : Int} (h0 : 0 ≤ h) (h1 : h < 4) (k0 : 0 ≤ k) (k1 : k < 2) : mH (mBook N s a b c e) h k = mH N h k := mBook_o N s0 s1 (Or.inl (by omega))
theorem mBook_V (hV : mV N) {s a b c e : Int} (s0 : 0 ≤ s) (s1 : s < 10) (ha : -1 ≤ a ∧ a < 6) (hb : -1 ≤ b ∧ b < 6) (hc : 0 ≤ c ∧ c < 7) (he : e = 0 ∨ e = 1) : mV (mBook N s a b c e) := by
  have o : ∀ j, j < 14 ∨ 94 ≤ j → mBook N s a b c e j = N j := fun j h => mBook_o N s0 s1 h
  refine ⟨?_, fun j => ?_, fun t t0 t1 => ?_, fun f f0 f1 => ?_, fun f k f0 f1 k0 k1 => ?_, fun h h0 h1 => ?_, fun h f h0 h1 f0 f1 => ?_, fun f p f0 f1 p0 p1 => ?_⟩
  · rw [o 0 (by omega), o 1 (by omega), o 2 (by omega), o 3 (by omega)]; exact hV.n
  · unfold mBook
    repeat (first | exact hV.b j | (split; (constructor <;> omega)) | split)
  · have q := hV.s t t0 t1
    rw [mBook_c (by omega) (by omega), mBook_c (by omega) (by omega), mBook_c (by omega) (by omega), mBook_c (by omega) (by omega)]
    by_cases z : t = s
    · subst z
      rw [mBook_4, mBook_5, mBook_6, mBook_7]
      omega
    · rw [mBook_t z (by omega) (by omega), mBook_t z (by omega) (by omega), mBook_t z (by omega) (by omega), mBook_t z (by omega) (by omega)]
      exact q
  · have q := hV.f f f0 f1
    rw [mBook_F N s0 s1 f0 (by omega), mBook_F N s0 s1 f0 (by omega), mBook_F N s0 s1 f0 (by omega), mBook_F N s0 s1 f0 (by omega), mBook_F N s0 s1 f0 (by omega), o 2 (by omega), o 3 (by omega)]
    exact q
  · rw [mBook_F N s0 s1 f0 (by omega)]; exact hV.t f k f0 f1 k0 k1
  · rw [mBook_H N s0 s1 h0 h1 (by omega) (by omega), mBook_H N s0 s1 h0 h1 (by omega) (by omega)]; exact hV.h h h0 h1
  · unfold mR; rw [o _ (by omega), o 3 (by omega)]; exact hV.r h f h0 h1 f0 f1
  · unfold mP; rw [o _ (by omega)]; exact hV.p f p f0 f1 p0 p1
theorem mBook_W (hV : mV N) (hW : mW N) {s a b c e : Int} (s0 : 0 ≤ s) (s1 : s < 10) (ha : a < N 2) (hb : b < N 2) : mW (mBook N s a b c e) := fun t t0 t1 => by
  have o : ∀ j, j < 14 ∨ 94 ≤ j → mBook N s a b c e j = N j := fun j h => mBook_o N s0 s1 h
  rw [o 1 (by omega)] at t1
  have q := hW t t0 t1
  rw [o 0 (by omega), o 2 (by omega), mBook_c (by omega) (by omega)]
  by_cases z : t = s
  · subst z
    rw [mBook_4, mBook_5]
    exact ⟨q.1, ha, hb⟩
  · rw [mBook_t z (by omega) (by omega), mBook_t z (by omega) (by omega)]; exact q
theorem mBook_back (hV : mV N) {s a b c : Int} (s0 : 0 ≤ s) (s1 : s < 10) : mBook (mBook N s a b c (zb (mS N s 7 = 1))) s (mS N s 4) (mS N s 5) (mS N s 6) (zb (mS N s 7 = 1)) = N := by
  have q := hV.s s s0 s1
  have e7 : zb (mS N s 7 = 1) = mS N s 7 := by
    by_cases z : mS N s 7 = 1
    · rw [← zbT z, z]
    · rw [← zbF z]; omega
  rw [e7]
  funext j
  unfold mBook mS
  by_cases h7 : j = 14 + 8 * s + 7
  · rw [if_pos h7, h7]
  · rw [if_neg h7]
    by_cases h6 : j = 14 + 8 * s + 6
    · rw [if_pos h6, h6]
    · rw [if_neg h6]
      by_cases h5 : j = 14 + 8 * s + 5
      · rw [if_pos h5, h5]
      · rw [if_neg h5]
        by_cases h4 : j = 14 + 8 * s + 4
        · rw [if_pos h4, h4]
        · rw [if_neg h4]
          rw [if_neg h7, if_neg h6, if_neg h5, if_neg h4]
theorem fgv {s f e : Int} (hV : mV N) (s0 : 0 ≤ s) (s1 : s < N 1) (f0 : 0 ≤ f) (f1 : f < N 2) (day : Int) : gv (mBook N s f (-1) 0 e) s day = eV N s f day := by
  have hn := hV.n
  have o : ∀ j, j < 14 ∨ 94 ≤ j → mBook N s f (-1) 0 e j = N j := fun j h => mBook_o N s0 (by omega) h
  have b0 : ∀ t k, 0 ≤ k → k < 4 → mS (mBook N s f (-1) 0 e) t k = mS N t k := fun t k k0 k1 => mBook_c k0 k1
  have c0 : ∀ t, mCap (mBook N s f (-1) 0 e) t = mCap N t := fun t => by unfold mCap; rw [b0 t 1 (by omega) (by omega), b0 t 2 (by omega) (by omega)]
  have h1 : mSh (mBook N s f (-1) 0 e) s day = f := by
    unfold mSh
    rw [mBook_5, mBook_4, if_neg (fun q => q.1 rfl)]
  have h2 : ∀ t, t ≠ s → mSh (mBook N s f (-1) 0 e) t day = mSh N t day := fun t ht => by
    unfold mSh
    rw [mBook_t ht (by omega) (by omega), mBook_t ht (by omega) (by omega), mBook_t ht (by omega) (by omega)]
  have d0 : mDem (mBook N s f (-1) 0 e) f = mDem N f := by
    have q1 : mAge (mBook N s f (-1) 0 e) f = mAge N f := by unfold mAge; rw [mBook_F N s0 (by omega) f0 (by omega), o 3 (by omega)]
    unfold mDem
    rw [q1]
    generalize (mAge N f).toNat = k
    induction k with
    | zero => exact mBook_F N s0 (by omega) f0 (by omega)
    | succ k ih => show mDemN _ f k * mF _ f 1 / 100 = mDemN N f k * mF N f 1 / 100; rw [ih, mBook_F N s0 (by omega) f0 (by omega)]
  have nS0 : nS (mBook N s f (-1) 0 e) = nS N := by unfold nS; rw [o 1 (by omega)]
  unfold gv eV
  rw [h1, o 1 (by omega), o 2 (by omega), if_pos ⟨s0, s1, f0, f1⟩, d0, c0]
  have : gvS (mBook N s f (-1) 0 e) s day (nS (mBook N s f (-1) 0 e)) = eVN N s f day (nS N) := by
    rw [nS0]
    refine zsum_congr fun t ht => ?_
    rw [h1, b0 t 0 (by omega) (by omega), b0 s 0 (by omega) (by omega), c0, c0]
    by_cases z : (t : Int) = s
    · rw [if_neg (fun q => q.1 z), if_neg (fun q => q.1.1 z)]
    · rw [h2 t z]
      by_cases c : (((t : Int) ≠ s ∧ mS N t 0 = mS N s 0 ∧ (mCap N s < mCap N t ∨ (mCap N t = mCap N s ∧ (t : Int) < s))) ∧ mSh N t day = f)
      · rw [if_pos c, if_pos ⟨c.1.1, c.1.2.1, c.1.2.2, c.2⟩]
      · rw [if_neg c, if_neg fun q => c ⟨⟨q.1, q.2.1, q.2.2.1⟩, q.2.2.2⟩]
  rw [this]
theorem fTake_eq {s f e : Int} {g3 g2 : Int → Int} (hV : mV N) (hg : gOK (mBook N s f (-1) 0 e) g2) (eg : g3 = g2) (s0 : 0 ≤ s) (s1 : s < N 1) (f0 : 0 ≤ f) (f1 : f < N 2) : gTake N g3 s = fTake N s f := by
  have hn := hV.n
  subst eg
  have : gG g3 s 7 = fVN N s f 7 := zsum_congr fun i hi => by
    rw [hg s i s0 (by omega) (by omega) (by omega), fgv hV s0 s1 f0 f1]
  unfold gTake fTake
  rw [this]
end ZR

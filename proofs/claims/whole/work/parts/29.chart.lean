/-! holding, the chart, the roster -/
section ZR
variable {G : zG} {d : Nat} {σ : zMem} {hm : Nat} {A : Nat → Nat} {B : Nat → Nat} {N : Int → Int}
theorem zmul_b {a b X Y : Int} (a0 : 0 ≤ a) (a1 : a ≤ X) (b0 : 0 ≤ b) (b1 : b ≤ Y) : 0 ≤ a * b ∧ a * b ≤ X * Y :=
  ⟨Int.mul_nonneg a0 b0, Int.mul_le_mul a1 b1 b0 (by omega)⟩
/-- how many of the first screens are in a house -/
def mCn (N : Int → Int) (h : Int) (n : Nat) : Int := zsum (fun s => zb (mS N s 0 = h)) n
/-- no house has more than four screens -/
def mC4 (N : Int → Int) : Prop := ∀ h, mCn N h (nS N) ≤ 4
theorem mC4.c (h : mC4 N) : ∀ h, mCn N h (nS N) ≤ 4 := h
/-- what is kept by every call beside mV, mW, mX -/
def mQ (N : Int → Int) : Prop :=
  (∀ h, mCn N h (nS N) ≤ 4) ∧
  (∀ f, 0 ≤ f → f < 6 → 0 ≤ mF N f 9 ∧ mF N f 9 ≤ 20790000 * N 3) ∧
  (∀ s, 0 ≤ s → s < N 1 → (mS N s 5 ≠ -1 → mS N s 4 ≠ mS N s 5) ∧ (mS N s 7 = 1 → 0 ≤ mS N s 4)) ∧
  (∀ h f, 0 ≤ h → h < N 0 → 0 ≤ f → f < N 2 → mNeed N h f ≤ mP N f h) ∧
  (∀ h f, 0 ≤ h → h < 4 → 0 ≤ f → f < 6 → mR N h f ≤ N 3) ∧
  (∀ k, 0 ≤ k → k < 4 → 0 ≤ N (208 + k) ∧ N (208 + k) ≤ 20790000 * N 3) ∧
  (∀ j, j < 0 ∨ 312 ≤ j → N j = 0)
theorem mQ.c (h : mQ N) : ∀ h, mCn N h (nS N) ≤ 4 := h.1
theorem mQ.t (h : mQ N) : ∀ f, 0 ≤ f → f < 6 → 0 ≤ mF N f 9 ∧ mF N f 9 ≤ 20790000 * N 3 := h.2.1
theorem mQ.s (h : mQ N) : ∀ s, 0 ≤ s → s < N 1 → (mS N s 5 ≠ -1 → mS N s 4 ≠ mS N s 5) ∧ (mS N s 7 = 1 → 0 ≤ mS N s 4) := h.2.2.1
theorem mQ.p (h : mQ N) : ∀ h f, 0 ≤ h → h < N 0 → 0 ≤ f → f < N 2 → mNeed N h f ≤ mP N f h := h.2.2.2.1
theorem mQ.r (h : mQ N) : ∀ h f, 0 ≤ h → h < 4 → 0 ≤ f → f < 6 → mR N h f ≤ N 3 := h.2.2.2.2.1
theorem mQ.a (h : mQ N) : ∀ k, 0 ≤ k → k < 4 → 0 ≤ N (208 + k) ∧ N (208 + k) ≤ 20790000 * N 3 := h.2.2.2.2.2.1
theorem mQ.z (h : mQ N) : ∀ j, j < 0 ∨ 312 ≤ j → N j = 0 := h.2.2.2.2.2.2
abbrev mHold (N : Int → Int) (s : Int) : Prop := mSh N s 6 ≠ -1 ∧ mH N (mS N s 0) 1 * (mCap N s * mPrice N s * (7 - mS N s 6)) ≤ vSn N s (mS N s 6) (7 - mS N s 6).toNat * mPrice N s * 100
abbrev mHoldM (N g : Int → Int) (s : Int) : Prop := mSh N s 6 ≠ -1 ∧ mH N (mS N s 0) 1 * (mDays N s (mSh N s 6) * mCap N s * mPrice N s) ≤ gBy N g s (mSh N s 6) * 100
theorem zsum_tail {y : Int → Int} : ∀ (n D : Nat), D ≤ n → zsum (fun d => if (D : Int) ≤ d then y d else 0) n = zsum (fun i => y (D + i)) (n - D) := by
  intro n
  induction n with
  | zero => intro D h; have : D = 0 := by omega
            subst this; rfl
  | succ n ih =>
    intro D h
    by_cases e : D = n + 1
    · subst e
      rw [Nat.sub_self]
      exact (zsum_congr fun i hi => if_neg (by omega)).trans (zsum_0 _)
    · rw [show n + 1 - D = (n - D) + 1 by omega]
      show zsum _ n + (if (D : Int) ≤ (n : Int) then y n else 0) = zsum _ (n - D) + y (D + ((n - D : Nat) : Int))
      rw [ih D (by omega), if_pos (by omega), show (D : Int) + ((n - D : Nat) : Int) = n by omega]
theorem zsum_one (n : Nat) : zsum (fun _ => 1) n = n := by
  induction n with
  | zero => rfl
  | succ n ih => show zsum (fun _ => 1) n + 1 = ((n + 1 : Nat) : Int); rw [ih]; omega
theorem mSh_last (hV : mV N) (hX : mX N) (hQ : mQ N) {s : Int} (s0 : 0 ≤ s) (s1 : s < N 1) (hne : mSh N s 6 ≠ -1) {dd : Int} (d0 : 0 ≤ dd) (d1 : dd < 7) : mSh N s dd = mSh N s 6 ↔ mS N s 6 ≤ dd := by
  have hn := hV.n
  have h1 := hV.s s s0 (by omega)
  have h2 := (hX s s0 s1).1
  have h3 := (hQ.s s s0 s1).1
  unfold mSh at hne ⊢
  by_cases e : mS N s 5 = -1
  · rw [if_neg (by omega), if_neg (by omega)]; omega
  · rw [if_pos (by omega)] at hne
    rw [if_pos (show mS N s 5 ≠ -1 ∧ mS N s 6 ≤ 6 by omega)]
    by_cases q : mS N s 6 ≤ dd
    · rw [if_pos ⟨e, q⟩]; exact ⟨fun _ => q, fun _ => rfl⟩
    · rw [if_neg (fun z => q z.2)]; exact ⟨fun z => absurd z (h3 e), fun z => absurd z q⟩
theorem mDays_last (hV : mV N) (hX : mX N) (hQ : mQ N) {s : Int} (s0 : 0 ≤ s) (s1 : s < N 1) (hne : mSh N s 6 ≠ -1) : mDays N s (mSh N s 6) = 7 - mS N s 6 := by
  have hn := hV.n
  have h1 := hV.s s s0 (by omega)
  obtain ⟨D, hD⟩ := Int.eq_ofNat_of_zero_le (a := mS N s 6) (by omega)
  have : mDays N s (mSh N s 6) = zsum (fun d => if (D : Int) ≤ d then 1 else 0) 7 := zsum_congr fun i hi => by
    have := mSh_last hV hX hQ s0 s1 hne (dd := (i : Int)) (by omega) (by omega)
    rw [hD] at this
    unfold zb
    by_cases q : (D : Int) ≤ i
    · rw [if_pos q, if_pos (this.mpr q)]
    · rw [if_neg q, if_neg (fun z => q (this.mp z))]
  rw [this, zsum_tail (y := fun _ => 1) 7 D (by omega), zsum_one, hD]
  omega
theorem gBy_last (hV : mV N) (hX : mX N) (hQ : mQ N) {g : Int → Int} (hg : gOK N g) {s : Int} (s0 : 0 ≤ s) (s1 : s < N 1) (hne : mSh N s 6 ≠ -1) : gBy N g s (mSh N s 6) = vSn N s (mS N s 6) (7 - mS N s 6).toNat * mPrice N s := by
  have hn := hV.n
  have h1 := hV.s s s0 (by omega)
  obtain ⟨D, hD⟩ := Int.eq_ofNat_of_zero_le (a := mS N s 6) (by omega)
  have : gByN N g s (mSh N s 6) 7 = zsum (fun d => if (D : Int) ≤ d then gv N s d else 0) 7 := zsum_congr fun i hi => by
    have := mSh_last hV hX hQ s0 s1 hne (dd := (i : Int)) (by omega) (by omega)
    rw [hD] at this
    by_cases q : (D : Int) ≤ i
    · rw [if_pos q, if_pos (Or.inr (this.mpr q)), hg s i s0 (by omega) (by omega) (by omega)]
    · rw [if_neg q, if_neg (fun z => q (this.mp (z.resolve_left hne)))]
  unfold gBy vSn
  rw [this, zsum_tail (y := fun d => gv N s d) 7 D (by omega), hD, show (7 - (D : Int)).toNat = 7 - D by omega]
theorem mHold_eq (hV : mV N) (hX : mX N) (hQ : mQ N) {g : Int → Int} (hg : gOK N g) {s : Int} (s0 : 0 ≤ s) (s1 : s < N 1) : mHoldM N g s ↔ mHold N s := by
  unfold mHoldM mHold
  by_cases e : mSh N s 6 = -1
  · exact ⟨fun z => absurd e z.1, fun z => absurd e z.1⟩
  · rw [mDays_last hV hX hQ s0 s1 e, gBy_last hV hX hQ hg s0 s1 e, show (7 - mS N s 6) * mCap N s * mPrice N s = mCap N s * mPrice N s * (7 - mS N s 6) by rw [Int.mul_assoc, Int.mul_comm]]
theorem mDays_b (N : Int → Int) (s f : Int) : 0 ≤ mDays N s f ∧ mDays N s f ≤ 7 := by
  have a := zsum_ge (f := fun day => zb (mSh N s day = f)) (n := 7) (a := 0) fun i _ => zb_ge _
  have b := zsum_le (f := fun day => zb (mSh N s day = f)) (n := 7) (a := 1) fun i _ => zb_le _
  unfold mDays mDaysN
  omega
theorem mH_b (hV : mV N) {s : Int} (s0 : 0 ≤ s) (s1 : s < 10) : 0 ≤ mH N (mS N s 0) 1 ∧ mH N (mS N s 0) 1 ≤ 100 := by
  have h1 := hV.s s s0 s1
  have h2 := hV.h (mS N s 0) (by omega) (by omega)
  omega
theorem hold_b {a b c e : Int} (a0 : 0 ≤ a ∧ a ≤ 100) (b0 : 0 ≤ b ∧ b ≤ 7) (c0 : 0 ≤ c ∧ c ≤ 3000) (e0 : 0 ≤ e ∧ e ≤ 99) : zrg (a * (b * c * e)) ∧ zrg (a * (c * e * b)) := by
  have q1 := zmul_b b0.1 b0.2 c0.1 c0.2
  have q2 := zmul_b q1.1 q1.2 e0.1 e0.2
  have q3 := zmul_b a0.1 a0.2 q2.1 q2.2
  have : c * e * b = b * c * e := by rw [Int.mul_comm, ← Int.mul_assoc]
  rw [this]
  constructor <;> constructor <;> omega
/-- the roster: the k-th screen of a house -/
def rkN (N : Int → Int) (h : Int) : Nat → Int → Int
  | 0, _ => 0
  | n + 1, k => if mS N n 0 = h ∧ mCn N h n = k then n else rkN N h n k
def rk (N : Int → Int) (h k : Int) : Int := rkN N h (nS N) k
theorem mCn_b (N : Int → Int) (h : Int) (n : Nat) : 0 ≤ mCn N h n ∧ mCn N h n ≤ n := by
  have a := zsum_ge (f := fun s => zb (mS N s 0 = h)) (n := n) (a := 0) fun i _ => zb_ge _
  have b := zsum_le (f := fun s => zb (mS N s 0 = h)) (n := n) (a := 1) fun i _ => zb_le _
  unfold mCn
  omega
theorem mCn_s (N : Int → Int) (h : Int) (n : Nat) : mCn N h (n + 1) = mCn N h n + zb (mS N n 0 = h) := rfl
theorem mCn_mono (N : Int → Int) (h : Int) {a b : Nat} (hab : a ≤ b) : mCn N h a ≤ mCn N h b := by
  induction b with
  | zero => have : a = 0 := by omega
            subst this; exact Int.le_refl _
  | succ b ih =>
    by_cases e : a = b + 1
    · subst e; exact Int.le_refl _
    · have := ih (by omega)
      have := zb_ge (mS N b 0 = h)
      rw [mCn_s]
      omega
theorem mCn_lt (N : Int → Int) (h : Int) {a b : Nat} (hab : a < b) (e : mS N a 0 = h) : mCn N h a < mCn N h b := by
  have := mCn_mono N h (a := a + 1) (b := b) hab
  rw [mCn_s, ← zbT e] at this
  omega
theorem rkN_p (N : Int → Int) (h : Int) : ∀ (n : Nat) (k : Int), 0 ≤ k → k < mCn N h n → ∃ s : Nat, rkN N h n k = s ∧ s < n ∧ mS N s 0 = h ∧ mCn N h s = k := by
  intro n
  induction n with
  | zero => intro k h0 h1; exact absurd h1 (by show ¬ k < 0; omega)
  | succ n ih =>
    intro k h0 h1
    unfold rkN
    by_cases c : mS N n 0 = h ∧ mCn N h n = k
    · rw [if_pos c]; exact ⟨n, rfl, by omega, c.1, c.2⟩
    · rw [if_neg c]
      rw [mCn_s] at h1
      have : k < mCn N h n := by
        by_cases e : mS N n 0 = h
        · rw [← zbT e] at h1
          have : mCn N h n ≠ k := fun z => c ⟨e, z⟩
          omega
        · rw [← zbF e] at h1; omega
      obtain ⟨s, a, b, e⟩ := ih k h0 this
      exact ⟨s, a, by omega, e⟩
theorem rk_p (N : Int → Int) (h : Int) {k : Int} (h0 : 0 ≤ k) (h1 : k < mCn N h (nS N)) : ∃ s : Nat, rk N h k = s ∧ s < nS N ∧ mS N s 0 = h ∧ mCn N h s = k := rkN_p N h _ k h0 h1
theorem rk_inj (N : Int → Int) (h : Int) {s : Nat} (hs : s < nS N) (e : mS N s 0 = h) : rk N h (mCn N h s) = s := by
  have key : ∀ n, s < n → rkN N h n (mCn N h s) = s := by
    intro n
    induction n with
    | zero => intro q; omega
    | succ n ih =>
      intro q
      unfold rkN
      by_cases c : mS N n 0 = h ∧ mCn N h n = mCn N h s
      · rw [if_pos c]
        by_cases z : s = n
        · rw [z]
        · have := mCn_lt N h (a := s) (b := n) (by omega) e
          omega
      · rw [if_neg c]
        refine ih ?_
        by_cases z : s = n
        · subst z; exact absurd ⟨e, rfl⟩ c
        · omega
  exact key _ hs
/-- the chart -/
def mRk (N : Int → Int) (f : Int) : Int := mF N f 9 + cFt N f
def mAh (N : Int → Int) (f : Int) (n : Nat) : Int := zsum (fun o => zb (mRk N f < mRk N o ∨ (mRk N o = mRk N f ∧ o < f))) n
def mChN (N : Int → Int) (p : Int) : Nat → Int
  | 0 => -1
  | n + 1 => if mChN N p n = -1 then (if mAh N n (nF N) = p then n else -1) else mChN N p n
def mCh (N : Int → Int) (p : Int) : Int := mChN N p (nF N)
theorem mChN_no {p : Int} : ∀ {n : Nat}, (∀ f : Nat, f < n → mAh N f (nF N) ≠ p) → mChN N p n = -1 := by
  intro n
  induction n with
  | zero => intro _; rfl
  | succ n ih =>
    intro h
    unfold mChN
    rw [if_pos (ih fun f hf => h f (by omega)), if_neg (h n (by omega))]
theorem mChN_at {p : Int} {f : Nat} : ∀ {n : Nat}, f < n → (∀ g : Nat, g < f → mAh N g (nF N) ≠ p) → mAh N f (nF N) = p → mChN N p n = f := by
  intro n
  induction n with
  | zero => intro h; omega
  | succ n ih =>
    intro h h1 h2
    unfold mChN
    by_cases e : f = n
    · subst e
      rw [if_pos (mChN_no h1), if_pos h2]
    · rw [ih (by omega) h1 h2, if_neg (by omega)]
theorem mAh_b (N : Int → Int) (f : Int) (n : Nat) : 0 ≤ mAh N f n ∧ mAh N f n ≤ n := by
  have a := zsum_ge (f := fun o => zb (mRk N f < mRk N o ∨ (mRk N o = mRk N f ∧ o < f))) (n := n) (a := 0) fun i _ => zb_ge _
  have b := zsum_le (f := fun o => zb (mRk N f < mRk N o ∨ (mRk N o = mRk N f ∧ o < f))) (n := n) (a := 1) fun i _ => zb_le _
  unfold mAh
  omega
theorem mAh_lt (N : Int → Int) {f : Nat} {n : Nat} (hf : f < n) : mAh N f n < n := by
  have key : ∀ n : Nat, mAh N f n ≤ n ∧ (f < n → mAh N f n < n) := by
    intro n
    induction n with
    | zero => exact ⟨Int.le_refl _, fun h => by omega⟩
    | succ n ih =>
      have e : mAh N f (n + 1) = mAh N f n + zb (mRk N f < mRk N n ∨ (mRk N n = mRk N f ∧ (n : Int) < f)) := rfl
      have := zb_le (mRk N f < mRk N n ∨ (mRk N n = mRk N f ∧ (n : Int) < f))
      refine ⟨by rw [e]; omega, fun h => ?_⟩
      by_cases z : f = n
      · subst z
        rw [e, ← zbF (p := mRk N f < mRk N f ∨ (mRk N f = mRk N f ∧ (f : Int) < f)) (by omega)]
        omega
      · have := ih.2 (by omega)
        rw [e]; omega
  exact (key n).2 hf
/-- the least of those for which something holds -/
theorem zleast {n : Nat} {S : Nat → Prop} {r : Nat → Int} (h : ∃ f, f < n ∧ S f) : ∃ f, f < n ∧ S f ∧ ∀ o, o < n → S o → ¬ (r f < r o ∨ (r o = r f ∧ o < f)) := by
  induction n with
  | zero => obtain ⟨f, hf, _⟩ := h; omega
  | succ n ih =>
    by_cases q : ∃ f, f < n ∧ S f
    · obtain ⟨f, h1, h2, h3⟩ := ih q
      by_cases c : S n ∧ r f < r n
      · refine ⟨n, by omega, c.1, fun o ho hS => ?_⟩
        by_cases e : o = n
        · subst e; omega
        · have := h3 o (by omega) hS; omega
      · refine ⟨f, by omega, h2, fun o ho hS => ?_⟩
        by_cases e : o = n
        · subst e
          have : ¬ r f < r o := fun z => c ⟨hS, z⟩
          omega
        · exact h3 o (by omega) hS
    · obtain ⟨f, h1, h2⟩ := h
      have e : f = n := by
        by_cases e : f = n
        · exact e
        · exact absurd ⟨f, by omega, h2⟩ q
      subst e
      refine ⟨f, h1, h2, fun o ho hS => ?_⟩
      by_cases e : o = f
      · subst e; omega
      · exact absurd ⟨o, by omega, hS⟩ q
theorem mAh_hit (N : Int → Int) {n : Nat} : ∀ {p : Nat}, p < n → ∃ f : Nat, f < n ∧ mAh N f n = p := by
  intro p
  induction p with
  | zero =>
    intro h
    obtain ⟨f, h1, _, h3⟩ := zleast (n := n) (S := fun _ => True) (r := fun k => mRk N k) ⟨0, h, trivial⟩
    refine ⟨f, h1, ?_⟩
    refine (zsum_congr fun o ho => ?_).trans (zsum_0 n)
    have := h3 o ho trivial
    exact (zbF (by omega)).symm
  | succ p ih =>
    intro h
    obtain ⟨f, h1, h2⟩ := ih (by omega)
    by_cases q : ∃ g, g < n ∧ (mRk N g < mRk N f ∨ (mRk N f = mRk N g ∧ f < g))
    · obtain ⟨g, g1, g2, g3⟩ := zleast (n := n) (S := fun g => mRk N g < mRk N f ∨ (mRk N f = mRk N g ∧ f < g)) (r := fun k => mRk N k) q
      refine ⟨g, g1, ?_⟩
      have e : mAh N g n = zsum (fun o => zb (mRk N f < mRk N o ∨ (mRk N o = mRk N f ∧ o < f)) + if o = (f : Int) then 1 else 0) n := zsum_congr fun o ho => by
        have := g3 o ho
        by_cases c : o = f
        · subst c
          rw [if_pos rfl, ← zbT (by omega), ← zbF (by omega)]
          rfl
        · rw [if_neg (by omega), Int.add_zero]
          refine zb_congr ?_
          omega
      rw [e, zsum_add]
      have e2 : zsum (fun o => if o = (f : Int) then (1 : Int) else 0) n = 1 := by
        refine (zsum_congr fun o _ => ?_).trans (zsum_hit (j := (f : Int)) (y := 1) (m := n) (by omega) (by omega))
        by_cases c : (o : Int) = f
        · rw [if_pos c, if_pos c.symm]
        · rw [if_neg c, if_neg (fun z => c z.symm)]
      rw [e2]
      have : zsum (fun o => zb (mRk N f < mRk N o ∨ (mRk N o = mRk N f ∧ o < f))) n = p := h2
      rw [this]
      omega
    · exfalso
      -- all others are ahead of f
      have key : ∀ m : Nat, m ≤ n → mAh N f m = m - (if f < m then 1 else 0) := by
        intro m
        induction m with
        | zero => intro _; rfl
        | succ m im =>
          intro hm
          have e : mAh N f (m + 1) = mAh N f m + zb (mRk N f < mRk N m ∨ (mRk N m = mRk N f ∧ (m : Int) < f)) := rfl
          rw [e, im (by omega)]
          by_cases z : m = f
          · subst z
            rw [← zbF (by omega), if_neg (by omega), if_pos (by omega)]
            omega
          · have : ¬ (mRk N m < mRk N f ∨ (mRk N f = mRk N m ∧ f < m)) := fun w => q ⟨m, by omega, w⟩
            rw [← zbT (by omega)]
            by_cases y : f < m
            · rw [if_pos y, if_pos (by omega)]; omega
            · rw [if_neg y, if_neg (by omega)]; omega
      have := key n (Nat.le_refl _)
      rw [if_pos h1, h2] at this
      omega
theorem mCh_some (hV : mV N) {p : Int} (h0 : 0 ≤ p) (h1 : p < N 2) : ∃ f : Nat, f < nF N ∧ mAh N f (nF N) = p := by
  have hf := nF_eq hV
  obtain ⟨n, rfl⟩ := Int.eq_ofNat_of_zero_le h0
  exact mAh_hit N (by omega)
theorem gOK_ex (hV : mV N) : gOK N (fun j => gv N (j / 7) (j % 7)) := fun s dd a b c e => by
  show gv N ((7 * s + dd) / 7) ((7 * s + dd) % 7) = _
  rw [show (7 * s + dd) / 7 = s by omega, show (7 * s + dd) % 7 = dd by omega]
theorem cFt_b (hV : mV N) (hW : mW N) {f : Int} (f0 : 0 ≤ f) : 0 ≤ cFt N f ∧ cFt N f ≤ 20790000 := by
  have hg := gOK_ex hV
  rw [← gIn_films hV hW hg f0]
  exact gIn_b hV (gOK_V hV hg) (-1) f (nS N) (nS_eq hV).2
theorem mRk_b (hV : mV N) (hW : mW N) (hQ : mQ N) {f : Int} (f0 : 0 ≤ f) (f1 : f < 6) : 0 ≤ mRk N f ∧ mRk N f ≤ 1300000000 := by
  have a := cFt_b hV hW f0
  have b := hQ.t f f0 f1
  have c := hV.n
  unfold mRk
  omega
/-- a forecast -/
def fVN (N : Int → Int) (s f : Int) (n : Nat) : Int := zsum (fun day => eV N s f day) n
def fTake (N : Int → Int) (s f : Int) : Int := fVN N s f 7 * mPrice N s
def zcmp (a b : Int) : Int := if a < b then -1 else if a = b then 0 else 1
theorem zcmp_p (a b : Int) : (0 < zcmp a b ↔ b < a) ∧ (zcmp a b = 0 ↔ a = b) ∧ zrg (zcmp a b) := by
  unfold zcmp
  by_cases c : a < b
  · rw [if_pos c]; exact ⟨by omega, by omega, by decide⟩
  · rw [if_neg c]
    by_cases e : a = b
    · rw [if_pos e]; exact ⟨by omega, by omega, by decide⟩
    · rw [if_neg e]; exact ⟨by omega, by omega, by decide⟩
theorem rk_step {x : Nat} {h : Int} {σ2 : zMem} (n9 : A 9 ≠ hm) (e : mS N x 0 = h) {v : Int} (p : ∀ k, 0 ≤ k → k < mCn N h x → zia σ2 (A 9) k = rkN N h x k) : ∀ k, 0 ≤ k → k < mCn N h (x + 1) → zia (zsi (zsi σ2 (A 9) (mCn N h x) (x : Int)) hm ((12 : Nat) : Int) v) (A 9) k = rkN N h (x + 1) k := fun k a b => by
  rw [zia_si, if_neg (fun q => n9 q.1), zia_si]
  unfold rkN
  by_cases c : k = mCn N h x
  · rw [if_pos ⟨rfl, c⟩, if_pos ⟨e, c.symm⟩]
  · rw [if_neg (fun q => c q.2), if_neg (fun q => c q.2.symm)]
    rw [mCn_s, ← zbT e] at b
    exact p k a (by omega)
theorem rk_skip {x : Nat} {h : Int} {σ2 : zMem} (e : ¬ mS N x 0 = h) (p : ∀ k, 0 ≤ k → k < mCn N h x → zia σ2 (A 9) k = rkN N h x k) : ∀ k, 0 ≤ k → k < mCn N h (x + 1) → zia σ2 (A 9) k = rkN N h (x + 1) k := fun k a b => by
  unfold rkN
  rw [if_neg (fun q => e q.1)]
  rw [mCn_s, ← zbF e, Int.add_zero] at b
  exact p k a b
/-- a booking in the numbers -/
theorem mBook_at (N : Int → Int) (s a b c e t : Int) (f : Int) (f0 : 0 ≤ f) (f1 : f < 8) : mS (mBook N s a b c e) t f = if t = s then (if f = 4 then a else if f = 5 then b else if f = 6 then c else if f = 7 then e else mS N s f) else mS N t f := by
  unfold mS mBook
  by_cases q : t = s
  · subst q
    rw [if_pos rfl]
    by_cases q4 : f = 4
    · subst q4
      rw [if_neg (by omega), if_neg (by omega), if_neg (by omega), if_pos rfl, if_pos rfl]
    by_cases q5 : f = 5
    · subst q5
      rw [if_neg (by omega), if_neg (by omega), if_pos rfl, if_neg (by omega), if_pos rfl]
    by_cases q6 : f = 6
    · subst q6
      rw [if_neg (by omega), if_pos rfl, if_neg (by omega), if_neg (by omega), if_pos rfl]
    by_cases q7 : f = 7
    · subst q7
      rw [if_pos rfl, if_neg (by omega), if_neg (by omega), if_neg (by omega), if_pos rfl]
    · rw [if_neg (by omega), if_neg (by omega), if_neg (by omega), if_neg (by omega), if_neg (by omega), if_neg (by omega), if_neg (by omega), if_neg (by omega)]
  · rw [if_neg q, if_neg (by omega), if_neg (by omega), if_neg (by omega), if_neg (by omega)]
theorem mBook_4 {N : Int → Int} {s a b c e : Int} : mS (mBook N s a b c e) s 4 = a := by rw [mBook_at N s a b c e s 4 (by omega) (by omega), if_pos rfl]; rfl
theorem mBook_5 {N : Int → Int} {s a b c e : Int} : mS (mBook N s a b c e) s 5 = b := by rw [mBook_at N s a b c e s 5 (by omega) (by omega), if_pos rfl]; rfl
theorem mBook_6 {N : Int → Int} {s a b c e : Int} : mS (mBook N s a b c e) s 6 = c := by rw [mBook_at N s a b c e s 6 (by omega) (by omega), if_pos rfl]; rfl
theorem mBook_7 {N : Int → Int} {s a b c e : Int} : mS (mBook N s a b c e) s 7 = e := by rw [mBook_at N s a b c e s 7 (by omega) (by omega), if_pos rfl]; rfl
theorem mBook_t {N : Int → Int} {s a b c e t k : Int} (ht : t ≠ s) (k0 : 0 ≤ k) (k1 : k < 8) : mS (mBook N s a b c e) t k = mS N t k := by rw [mBook_at N s a b c e t k k0 k1, if_neg ht]
theorem mBook_c {N : Int → Int} {s a b c e t k : Int} (k0 : 0 ≤ k) (k1 : k < 4) : mS (mBook N s a b c e) t k = mS N t k := by
  rw [mBook_at N s a b c e t k k0 (by omega)]
  by_cases z : t = s
  · subst z; rw [if_pos rfl, if_neg (by omega), if_neg (by omega), if_neg (by omega), if_neg (by omega)]
  · rw [if_neg z]
theorem mBook_o (N : Int → Int) {s a b c e : Int} (s0 : 0 ≤ s) (s1 : s < 10) {j : Int} (h : j < 14 ∨ 94 ≤ j) : mBook N s a b c e j = N j := by
  unfold mBook
  rw [if_neg (by omega), if_neg (by omega), if_neg (by omega), if_neg (by omega)]
theorem mBook_F (N : Int → Int) {s a b c e : Int} (s0 : 0 ≤ s) (s1 : s < 10) {f k : Int} (f0 : 0 ≤ f) (k0 : 0 ≤ k) : mF (mBook N s a b c e) f k = mF N f k := mBook_o N s0 s1 (Or.inr (by omega))
theorem mBook_H (N : Int → Int) {s a b c e : Int} (s0 : 0 ≤ s) (s1 : s < 10) {h k : Int} (h0 : 0 ≤ h) (h1 : h < 4) (k0 : 0 ≤ k) (k1 : k < 2) : mH (mBook N s a b c e) h k = mH N h k := mBook_o N s0 s1 (Or.inl (by omega))
theorem mBook_V (hV : mV N) {s a b c e : Int} (s0 : 0 ≤ s) (s1 : s < 10) (ha : -1 ≤ a ∧ a < 6) (hb : -1 ≤ b ∧ b < 6) (hc : 0 ≤ c ∧ c < 7) (he : e = 0 ∨ e = 1) : mV (mBook N s a b c e) := by
  have o : ∀ j, j < 14 ∨ 94 ≤ j → mBook N s a b c e j = N j := fun j h => mBook_o N s0 s1 h
  refine ⟨?_, fun j => ?_, fun t t0 t1 => ?_, fun f f0 f1 => ?_, fun f k f0 f1 k0 k1 => ?_, fun h h0 h1 => ?_, fun h f h0 h1 f0 f1 => ?_, fun f p f0 f1 p0 p1 => ?_⟩
  · rw [o 0 (by omega), o 1 (by omega), o 2 (by omega), o 3 (by omega)]; exact hV.n
  · unfold mBook
    repeat (first | exact hV.b j | (split; (constructor <;> omega)) | split)
  · have q := hV.s t t0 t1
    rw [mBook_c (by omega) (by omega), mBook_c (by omega) (by omega), mBook_c (by omega) (by omega), mBook_c (by omega) (by omega)]
    by_cases z : t = s
    · subst z
      rw [mBook_4, mBook_5, mBook_6, mBook_7]
      omega
    · rw [mBook_t z (by omega) (by omega), mBook_t z (by omega) (by omega), mBook_t z (by omega) (by omega), mBook_t z (by omega) (by omega)]
      exact q
  · have q := hV.f f f0 f1
    rw [mBook_F N s0 s1 f0 (by omega), mBook_F N s0 s1 f0 (by omega), mBook_F N s0 s1 f0 (by omega), mBook_F N s0 s1 f0 (by omega), mBook_F N s0 s1 f0 (by omega), o 2 (by omega), o 3 (by omega)]
    exact q
  · rw [mBook_F N s0 s1 f0 (by omega)]; exact hV.t f k f0 f1 k0 k1
  · rw [mBook_H N s0 s1 h0 h1 (by omega) (by omega), mBook_H N s0 s1 h0 h1 (by omega) (by omega)]; exact hV.h h h0 h1
  · unfold mR; rw [o _ (by omega), o 3 (by omega)]; exact hV.r h f h0 h1 f0 f1
  · unfold mP; rw [o _ (by omega)]; exact hV.p f p f0 f1 p0 p1
theorem mBook_W (hV : mV N) (hW : mW N) {s a b c e : Int} (s0 : 0 ≤ s) (s1 : s < 10) (ha : a < N 2) (hb : b < N 2) : mW (mBook N s a b c e) := fun t t0 t1 => by
  have o : ∀ j, j < 14 ∨ 94 ≤ j → mBook N s a b c e j = N j := fun j h => mBook_o N s0 s1 h
  rw [o 1 (by omega)] at t1
  have q := hW t t0 t1
  rw [o 0 (by omega), o 2 (by omega), mBook_c (by omega) (by omega)]
  by_cases z : t = s
  · subst z
    rw [mBook_4, mBook_5]
    exact ⟨q.1, ha, hb⟩
  · rw [mBook_t z (by omega) (by omega), mBook_t z (by omega) (by omega)]; exact q
theorem mBook_back (hV : mV N) {s a b c : Int} (s0 : 0 ≤ s) (s1 : s < 10) : mBook (mBook N s a b c (zb (mS N s 7 = 1))) s (mS N s 4) (mS N s 5) (mS N s 6) (zb (mS N s 7 = 1)) = N := by
  have q := hV.s s s0 s1
  have e7 : zb (mS N s 7 = 1) = mS N s 7 := by
    by_cases z : mS N s 7 = 1
    · rw [← zbT z, z]
    · rw [← zbF z]; omega
  rw [e7]
  funext j
  unfold mBook mS
  by_cases h7 : j = 14 + 8 * s + 7
  · rw [if_pos h7, h7]
  · rw [if_neg h7]
    by_cases h6 : j = 14 + 8 * s + 6
    · rw [if_pos h6, h6]
    · rw [if_neg h6]
      by_cases h5 : j = 14 + 8 * s + 5
      · rw [if_pos h5, h5]
      · rw [if_neg h5]
        by_cases h4 : j = 14 + 8 * s + 4
        · rw [if_pos h4, h4]
        · rw [if_neg h4]
          rw [if_neg h7, if_neg h6, if_neg h5, if_neg h4]
theorem fc_fr {s : Int} {σ1 σ2 σ3 : zMem} {v : Int} (hM : zMo σ hm A) (hN : zia σ (A 0) = N) (hN3 : zia σ3 (A 0) = N) (f1 : zFr (fun h j => h = A 0 ∧ 14 + 8 * s + 4 ≤ j ∧ j < 14 + 8 * s + 8) (zsi σ hm ((5 : Nat) : Int) v) σ1) (f2 : zFr (fun y _ => y = A 7 ∨ y = A 8) σ1 σ2) (f3 : zFr (fun h j => h = A 0 ∧ 14 + 8 * s + 4 ≤ j ∧ j < 14 + 8 * s + 8) σ2 σ3) : zFr (mSc hm A) σ σ3 := by
  have k : zFr (fun y j => y = A 0 ∨ mSc hm A y j) σ σ3 := ((zFr_si (σ := σ) (Or.inr (Or.inl ⟨rfl, Or.inl rfl⟩)) zFr.rf).tr (f1.wk fun y j q => Or.inl q.1)).tr ((f2.wk fun y j q => Or.inr (q.elim (fun q => Or.inr (Or.inl q)) (fun q => Or.inr (Or.inr (Or.inl q))))).tr (f3.wk fun y j q => Or.inl q.1))
  refine ⟨k.1, k.2.1, k.2.2.1, k.2.2.2.1, k.2.2.2.2.1, fun h j hp => ?_⟩
  by_cases e : h = A 0
  · subst e
    rw [hN3, hN]
  · exact k.2.2.2.2.2 h j (fun q => q.elim e hp)
theorem fgv {s f e : Int} (hV : mV N) (s0 : 0 ≤ s) (s1 : s < N 1) (f0 : 0 ≤ f) (f1 : f < N 2) (day : Int) : gv (mBook N s f (-1) 0 e) s day = eV N s f day := by
  have hn := hV.n
  have o : ∀ j, j < 14 ∨ 94 ≤ j → mBook N s f (-1) 0 e j = N j := fun j h => mBook_o N s0 (by omega) h
  have b0 : ∀ t k, 0 ≤ k → k < 4 → mS (mBook N s f (-1) 0 e) t k = mS N t k := fun t k k0 k1 => mBook_c k0 k1
  have c0 : ∀ t, mCap (mBook N s f (-1) 0 e) t = mCap N t := fun t => by unfold mCap; rw [b0 t 1 (by omega) (by omega), b0 t 2 (by omega) (by omega)]
  have h1 : mSh (mBook N s f (-1) 0 e) s day = f := by
    unfold mSh
    rw [mBook_5, mBook_4, if_neg (fun q => q.1 rfl)]
  have h2 : ∀ t, t ≠ s → mSh (mBook N s f (-1) 0 e) t day = mSh N t day := fun t ht => by
    unfold mSh
    rw [mBook_t ht (by omega) (by omega), mBook_t ht (by omega) (by omega), mBook_t ht (by omega) (by omega)]
  have d0 : mDem (mBook N s f (-1) 0 e) f = mDem N f := by
    have q1 : mAge (mBook N s f (-1) 0 e) f = mAge N f := by unfold mAge; rw [mBook_F N s0 (by omega) f0 (by omega), o 3 (by omega)]
    unfold mDem
    rw [q1]
    generalize (mAge N f).toNat = k
    induction k with
    | zero => exact mBook_F N s0 (by omega) f0 (by omega)
    | succ k ih => show mDemN _ f k * mF _ f 1 / 100 = mDemN N f k * mF N f 1 / 100; rw [ih, mBook_F N s0 (by omega) f0 (by omega)]
  have nS0 : nS (mBook N s f (-1) 0 e) = nS N := by unfold nS; rw [o 1 (by omega)]
  unfold gv eV
  rw [h1, o 1 (by omega), o 2 (by omega), if_pos ⟨s0, s1, f0, f1⟩, d0, c0]
  have : gvS (mBook N s f (-1) 0 e) s day (nS (mBook N s f (-1) 0 e)) = eVN N s f day (nS N) := by
    rw [nS0]
    refine zsum_congr fun t ht => ?_
    rw [h1, b0 t 0 (by omega) (by omega), b0 s 0 (by omega) (by omega), c0, c0]
    by_cases z : (t : Int) = s
    · rw [if_neg (fun q => q.1 z), if_neg (fun q => q.1.1 z)]
    · rw [h2 t z]
      by_cases c : (((t : Int) ≠ s ∧ mS N t 0 = mS N s 0 ∧ (mCap N s < mCap N t ∨ (mCap N t = mCap N s ∧ (t : Int) < s))) ∧ mSh N t day = f)
      · rw [if_pos c, if_pos ⟨c.1.1, c.1.2.1, c.1.2.2, c.2⟩]
      · rw [if_neg c, if_neg fun q => c ⟨⟨q.1, q.2.1, q.2.2.1⟩, q.2.2.2⟩]
  rw [this]
theorem fTake_eq {s f e : Int} {g3 g2 : Int → Int} (hV : mV N) (hg : gOK (mBook N s f (-1) 0 e) g2) (eg : g3 = g2) (s0 : 0 ≤ s) (s1 : s < N 1) (f0 : 0 ≤ f) (f1 : f < N 2) : gTake N g3 s = fTake N s f := by
  have hn := hV.n
  subst eg
  have : gG g3 s 7 = fVN N s f 7 := zsum_congr fun i hi => by
    rw [hg s i s0 (by omega) (by omega) (by omega), fgv hV s0 s1 f0 f1]
  unfold gTake fTake
  rw [this]
theorem zt_J6_compare {a b : Int} (ha : zrg a) (hb : zrg b) : zP1 G mJ6_compare_7cf53 d [zI a, zI b] σ (zcmp a b) := by
  refine zE_of rfl (by simp [zcat]) (Nat.le_of_ble_eq_true rfl) ?_
  show zF G mJ6_compare_7cf53 d 0 [(0, zI a), (1, zI b)] [] σ _
  refine zF_iload_n 1 dJ6_compare_7cf53_0 rfl rfl ?_
  refine zF_iload_n 2 dJ6_compare_7cf53_1 rfl rfl ?_
  refine zF_icmp_ge 9 5 dJ6_compare_7cf53_2 rfl rfl (by first | decide | assumption | (constructor <;> omega)) (by first | decide | assumption | (constructor <;> omega)) (fun c1 => ?_) (fun c1 => ?_)
  · refine zF_iload_n 10 dJ6_compare_7cf53_9 rfl rfl ?_
    refine zF_iload_n 11 dJ6_compare_7cf53_10 rfl rfl ?_
    refine zF_icmp_ne 18 14 dJ6_compare_7cf53_11 rfl rfl (by first | decide | assumption | (constructor <;> omega)) (by first | decide | assumption | (constructor <;> omega)) (fun c2 => ?_) (fun c2 => ?_)
    · refine zF_iconst 19 dJ6_compare_7cf53_18 rfl ?_
      exact zF_iretP dJ6_compare_7cf53_19 rfl (by unfold zcmp; (repeat (first | rw [if_pos (by omega)] | rw [if_neg (by omega)])))
    · refine zF_iconst 15 dJ6_compare_7cf53_14 rfl ?_
      refine zF_goto 19 dJ6_compare_7cf53_15 rfl ?_
      exact zF_iretP dJ6_compare_7cf53_19 rfl (by unfold zcmp; (repeat (first | rw [if_pos (by omega)] | rw [if_neg (by omega)])))
  · refine zF_iconst 6 dJ6_compare_7cf53_5 rfl ?_
    refine zF_goto 19 dJ6_compare_7cf53_6 rfl ?_
    exact zF_iretP dJ6_compare_7cf53_19 rfl (by unfold zcmp; (repeat (first | rw [if_pos (by omega)] | rw [if_neg (by omega)])))
theorem zt_X12_isHolding {s : Int} (hM : zMo σ hm A) (hN : zia σ (A 0) = N) (hV : mV N) (hW : mW N) (gok : gOK N (zia σ (A 7))) (s0 : 0 ≤ s) (s1 : s < 10) : zP1 G mX12_isHolding (d + 5) [zR hm, zI s] σ (zb (mHoldM N (zia σ (A 7)) s)) := by
  refine zE_of rfl (by simp [zcat]) (Nat.le_of_ble_eq_true rfl) ?_
  show zF G mX12_isHolding (d + 5) 0 [(0, zR hm), (1, zI s)] [] σ _
  have hb := hV.b
  have hn := hV.n
  have hg := gOK_V hV gok
  refine zF_aload_n 1 dX12_isHolding_0 rfl rfl ?_
  refine zF_iload_n 2 dX12_isHolding_1 rfl rfl ?_
  refine zF_bipush 4 dX12_isHolding_2 rfl (by decide) ?_
  refine zF_callVi 7 (d2 := (d + 4)) (as := [zI s, zI 6]) dX12_isHolding_4 rfl kX12_129 iX12_shownOn (ci := 12) rfl eX12_shownOn (Nat.le_refl _) hM.1 hM.2.1 rfl rfl (Nat.le_of_ble_eq_true rfl) (zn_X12_shownOn hM hN hb (by omega) (by omega) (by first | decide | assumption | exact hb _ | exact mSh_rg hb _ _ | exact zb_rg _ | (constructor <;> omega))) ?_
  refine zF_istore_n 8 (ls' := [(2, zI (mSh N s 6)), (0, zR hm), (1, zI s)]) dX12_isHolding_7 rfl (by decide) rfl ?_
  have qs := hV.s s s0 s1
  have qb := mSh_b hV s0 s1 6
  refine zF_iload_n 9 dX12_isHolding_8 rfl rfl ?_
  refine zF_iconst 10 dX12_isHolding_9 rfl ?_
  refine zF_icmp_ne 15 13 dX12_isHolding_10 rfl rfl (by first | decide | assumption | exact hb _ | exact mSh_rg hb _ _ | exact zb_rg _ | (constructor <;> omega)) (by first | decide | assumption | exact hb _ | exact mSh_rg hb _ _ | exact zb_rg _ | (constructor <;> omega)) (fun c1 => ?_) (fun c1 => ?_)
  · refine zF_aload_n 16 dX12_isHolding_15 rfl rfl ?_
    refine zF_iload_n 17 dX12_isHolding_16 rfl rfl ?_
    refine zF_iload_n 18 dX12_isHolding_17 rfl rfl ?_
    refine zF_callVi 21 (d2 := (d + 4)) (as := [zI s, zI (mSh N s 6)]) dX12_isHolding_18 rfl kX12_196 iX12_daysOf (ci := 12) rfl eX12_daysOf (Nat.le_refl _) hM.1 hM.2.1 rfl rfl (Nat.le_of_ble_eq_true rfl) (zn_X12_daysOf hM hN hV (by omega) (by omega) (by first | decide | assumption | exact hb _ | exact mSh_rg hb _ _ | exact zb_rg _ | (constructor <;> omega))) ?_
    refine zF_aload_n 22 dX12_isHolding_21 rfl rfl ?_
    refine zF_iload_n 23 dX12_isHolding_22 rfl rfl ?_
    refine zF_callVi 26 (d2 := (d + 4)) (as := [zI s]) dX12_isHolding_23 rfl kX12_155 iX12_capacityOf (ci := 12) rfl eX12_capacityOf (Nat.le_refl _) hM.1 hM.2.1 rfl rfl (Nat.le_of_ble_eq_true rfl) (zn_X12_capacityOf hM hN (by omega) (by omega)) ?_
    refine zF_imul 27 dX12_isHolding_26 rfl ?_
    refine zF_aload_n 28 dX12_isHolding_27 rfl rfl ?_
    refine zF_iload_n 29 dX12_isHolding_28 rfl rfl ?_
    refine zF_callVi 32 (d2 := (d + 4)) (as := [zI s]) dX12_isHolding_29 rfl kX12_174 iX12_priceAt (ci := 12) rfl eX12_priceAt (Nat.le_refl _) hM.1 hM.2.1 rfl rfl (Nat.le_of_ble_eq_true rfl) (zn_X12_priceAt hM hN (by omega) (by omega) (by omega) (by omega)) ?_
    refine zF_imul 33 dX12_isHolding_32 rfl ?_
    refine zF_istore_n 34 (ls' := [(3, zI (((mDays N s (mSh N s 6)) * (mCap N s)) * (mPrice N s))), (2, zI (mSh N s 6)), (0, zR hm), (1, zI s)]) dX12_isHolding_33 rfl (by decide) rfl ?_
    refine zF_aload_n 35 dX12_isHolding_34 rfl rfl ?_
    refine zF_iload_n 36 dX12_isHolding_35 rfl rfl ?_
    refine zF_iload_n 37 dX12_isHolding_36 rfl rfl ?_
    refine zF_callVi 40 (d2 := (d + 4)) (as := [zI s, zI (mSh N s 6)]) dX12_isHolding_37 rfl kX12_177 iX12_takingsBy (ci := 12) rfl eX12_takingsBy (Nat.le_refl _) hM.1 hM.2.1 rfl rfl (Nat.le_of_ble_eq_true rfl) (zn_X12_takingsBy hM hN rfl hV (by omega) (by omega) (by first | decide | assumption | exact hb _ | exact mSh_rg hb _ _ | exact zb_rg _ | (constructor <;> omega))) ?_
    refine zF_bipush 42 dX12_isHolding_40 rfl (by decide) ?_
    refine zF_imul 43 dX12_isHolding_42 rfl ?_
    refine zF_aload_n 44 dX12_isHolding_43 rfl rfl ?_
    refine zF_aload_n 45 dX12_isHolding_44 rfl rfl ?_
    refine zF_iload_n 46 dX12_isHolding_45 rfl rfl ?_
    refine zF_iconst 47 dX12_isHolding_46 rfl ?_
    refine zF_callVi 50 (d2 := (d + 4)) (as := [zI s, zI 0]) dX12_isHolding_47 rfl kX12_119 iX12_of (ci := 12) rfl eX12_of (Nat.le_refl _) hM.1 hM.2.1 rfl rfl (Nat.le_of_ble_eq_true rfl) (zn_X12_of hM hN (by omega) (by omega)) ?_
    refine zF_iconst 51 dX12_isHolding_50 rfl ?_
    refine zF_callVi 54 (d2 := (d + 4)) (as := [zI (mS N s 0), zI 1]) dX12_isHolding_51 rfl kX12_122 iX12_ofHouse (ci := 12) rfl eX12_ofHouse (Nat.le_refl _) hM.1 hM.2.1 rfl rfl (Nat.le_of_ble_eq_true rfl) (zn_X12_ofHouse hM hN (by omega) (by omega)) ?_
    refine zF_iload_n 55 dX12_isHolding_54 rfl rfl ?_
    refine zF_imul 56 dX12_isHolding_55 rfl ?_
    have qd := mDays_b N s (mSh N s 6)
    have qc := mCap_b hV s0 s1
    have qp := mPrice_b hV s0 s1
    have qh := mH_b hV s0 s1
    have qt := gBy_b hV hg s0 s1 (mSh N s 6)
    have qx := (hold_b qh qd qc qp).1
    refine zF_icmp_lt 63 59 dX12_isHolding_56 rfl rfl (by first | decide | assumption | exact hb _ | exact mSh_rg hb _ _ | exact zb_rg _ | (constructor <;> omega)) (by first | decide | assumption | exact hb _ | exact mSh_rg hb _ _ | exact zb_rg _ | (constructor <;> omega)) (fun c2 => ?_) (fun c2 => ?_)
    · refine zF_iconst 64 dX12_isHolding_63 rfl ?_
      exact zF_zretP dX12_isHolding_64 rfl (by decide) (by first | exact zbT ⟨by assumption, by omega⟩ | exact zbF (fun z => by have := z.1; have := z.2; omega))
    · refine zF_iconst 60 dX12_isHolding_59 rfl ?_
      refine zF_goto 64 dX12_isHolding_60 rfl ?_
      exact zF_zretP dX12_isHolding_64 rfl (by decide) (by first | exact zbT ⟨by assumption, by omega⟩ | exact zbF (fun z => by have := z.1; have := z.2; omega))
  · refine zF_iconst 14 dX12_isHolding_13 rfl ?_
    exact zF_zretP dX12_isHolding_14 rfl (by decide) (by first | exact zbT ⟨by assumption, by omega⟩ | exact zbF (fun z => by have := z.1; have := z.2; omega))
theorem zt_X12_wouldHold {s : Int} (hM : zMo σ hm A) (hN : zia σ (A 0) = N) (hV : mV N) (hW : mW N) (hX : mX N) (hQ : mQ N) (zrs : zrg s) : zE G mX12_wouldHold (d + 12) [zR hm, zI s] σ (mop (if 0 ≤ s ∧ s < N 1 then 0 else 1) (zb (mHold N s)) hm A σ) := by
  refine zE_of rfl (by simp [zcat]) (Nat.le_of_ble_eq_true rfl) ?_
  show zF G mX12_wouldHold (d + 12) 0 [(0, zR hm), (1, zI s)] [] σ _
  have hb := hV.b
  have hn := hV.n
  refine zF_aload_n 1 dX12_wouldHold_0 rfl rfl ?_
  refine zF_aload_n 2 dX12_wouldHold_1 rfl rfl ?_
  refine zF_iload_n 3 dX12_wouldHold_2 rfl rfl ?_
  refine zF_callVi 6 (d2 := (d + 11)) (as := [zI s]) dX12_wouldHold_3 rfl kX12_256 iX12_isScreen (ci := 12) rfl eX12_isScreen (Nat.le_refl _) hM.1 hM.2.1 rfl rfl (Nat.le_of_ble_eq_true rfl) (zn_X12_isScreen hM hN (by first | decide | assumption | exact hb _ | exact mSh_rg hb _ _ | exact zb_rg _ | (constructor <;> omega)) (by omega) (by omega)) ?_
  refine zF_ifb_eq 13 9 dX12_wouldHold_6 rfl rfl (fun c1 => ?_) (fun c1 => ?_)
  · refine zF_iconst 14 dX12_wouldHold_13 rfl ?_
    refine zF_putI 17 dX12_wouldHold_14 rfl pX12_wouldHold_89 (Or.inl rfl) hM.1 hM.2.1 ?_
    refine zF_aload_n 18 dX12_wouldHold_17 rfl rfl ?_
    refine zF_callV 21 (d2 := (d + 11)) (as := []) dX12_wouldHold_18 rfl kX12_244 iX12_layWeek (ci := 12) rfl eX12_layWeek (Nat.le_refl _) hM.1 hM.2.1 rfl rfl (Nat.le_of_ble_eq_true rfl) (zE.mono (zt_X12_layWeek hM (zMo_hN (k := 0) hN hM (by decide) zMo_h1) hV hW) fun ro σa1 hh1 => ?_)
    obtain ⟨er1, fr1, p1⟩ := hh1
    subst er1
    refine ⟨fr1.1, ?_⟩
    show zF G mX12_wouldHold (d + 12) 21 [(0, zR hm), (1, zI s)] [] σa1 _
    have hMa1 := zMo_f2 fr1 hM
    have hNa1 : zia σa1 (A 0) = N := zFr_N (σ := (zsi σ hm ((5 : Nat) : Int) 1)) hM (zMo_hN (k := 0) hN hM (by decide) zMo_h1) fr1
    have hga1 := gOK_V hV p1
    refine zF_aload_n 22 dX12_wouldHold_21 rfl rfl ?_
    refine zF_getI 25 dX12_wouldHold_22 rfl gX12_89 (by decide) (by decide) hMa1.1 hMa1.2.1 (zFr_F fr1 (n78 hM (j := 0)) (zsi_same _ _ _ _)) ?_
    refine zF_if_ne 40 28 dX12_wouldHold_25 rfl rfl (by first | decide | assumption | exact hb _ | exact mSh_rg hb _ _ | exact zb_rg _ | (constructor <;> omega)) (fun c2 => ?_) (fun c2 => ?_)
    · refine zF_iconst 41 dX12_wouldHold_40 rfl ?_
      exact zF_zreturn dX12_wouldHold_41 rfl (by decide) (mopT (mSc_fr78 (mSc_hm5 zFr.rf) fr1) (zFr_F fr1 (n78 hM (j := 0)) (zsi_same _ _ _ _)) (by repeat (first | rw [if_pos (by omega)] | rw [if_neg (by omega)])) (by decide))
    · exact absurd c2 (by decide)
  · refine zF_iconst 10 dX12_wouldHold_9 rfl ?_
    refine zF_goto 14 dX12_wouldHold_10 rfl ?_
    refine zF_putI 17 dX12_wouldHold_14 rfl pX12_wouldHold_89 (Or.inl rfl) hM.1 hM.2.1 ?_
    refine zF_aload_n 18 dX12_wouldHold_17 rfl rfl ?_
    refine zF_callV 21 (d2 := (d + 11)) (as := []) dX12_wouldHold_18 rfl kX12_244 iX12_layWeek (ci := 12) rfl eX12_layWeek (Nat.le_refl _) hM.1 hM.2.1 rfl rfl (Nat.le_of_ble_eq_true rfl) (zE.mono (zt_X12_layWeek hM (zMo_hN (k := 0) hN hM (by decide) zMo_h1) hV hW) fun ro σa2 hh2 => ?_)
    obtain ⟨er2, fr2, p2⟩ := hh2
    subst er2
    refine ⟨fr2.1, ?_⟩
    show zF G mX12_wouldHold (d + 12) 21 [(0, zR hm), (1, zI s)] [] σa2 _
    have hMa2 := zMo_f2 fr2 hM
    have hNa2 : zia σa2 (A 0) = N := zFr_N (σ := (zsi σ hm ((5 : Nat) : Int) 0)) hM (zMo_hN (k := 0) hN hM (by decide) zMo_h1) fr2
    have hga2 := gOK_V hV p2
    refine zF_aload_n 22 dX12_wouldHold_21 rfl rfl ?_
    refine zF_getI 25 dX12_wouldHold_22 rfl gX12_89 (by decide) (by decide) hMa2.1 hMa2.2.1 (zFr_F fr2 (n78 hM (j := 0)) (zsi_same _ _ _ _)) ?_
    refine zF_if_ne 40 28 dX12_wouldHold_25 rfl rfl (by first | decide | assumption | exact hb _ | exact mSh_rg hb _ _ | exact zb_rg _ | (constructor <;> omega)) (fun c3 => ?_) (fun c3 => ?_)
    · exact absurd c3 (by decide)
    · refine zF_aload_n 29 dX12_wouldHold_28 rfl rfl ?_
      refine zF_iload_n 30 dX12_wouldHold_29 rfl rfl ?_
      refine zF_callVi 33 (d2 := (d + 11)) (as := [zI s]) dX12_wouldHold_30 rfl kX12_271 iX12_isHolding (ci := 12) rfl eX12_isHolding (Nat.le_refl _) hMa2.1 hMa2.2.1 rfl rfl (Nat.le_of_ble_eq_true rfl) (zt_X12_isHolding hMa2 hNa2 hV hW p2 (by omega) (by omega)) ?_
      refine zF_ifb_eq 40 36 dX12_wouldHold_33 rfl rfl (fun c4 => ?_) (fun c4 => ?_)
      · refine zF_iconst 41 dX12_wouldHold_40 rfl ?_
        exact zF_zreturn dX12_wouldHold_41 rfl (by decide) (mopR (mSc_fr78 (mSc_hm5 zFr.rf) fr2) (zFr_F fr2 (n78 hM (j := 0)) (zsi_same _ _ _ _)) (by repeat (first | rw [if_pos (by omega)] | rw [if_neg (by omega)])) (by have hh := mHold_eq hV hX hQ p2 (s := s) (by omega) (by omega); first | exact zbT (hh.mp (by assumption)) | exact zbF (fun z => absurd (hh.mpr z) (by assumption)) | exact zb_congr hh))
      · refine zF_iconst 37 dX12_wouldHold_36 rfl ?_
        refine zF_goto 41 dX12_wouldHold_37 rfl ?_
        exact zF_zreturn dX12_wouldHold_41 rfl (by decide) (mopR (mSc_fr78 (mSc_hm5 zFr.rf) fr2) (zFr_F fr2 (n78 hM (j := 0)) (zsi_same _ _ _ _)) (by repeat (first | rw [if_pos (by omega)] | rw [if_neg (by omega)])) (by have hh := mHold_eq hV hX hQ p2 (s := s) (by omega) (by omega); first | exact zbT (hh.mp (by assumption)) | exact zbF (fun z => absurd (hh.mpr z) (by assumption)) | exact zb_congr hh))
theorem zt_X12_tookOf {f : Int} (hM : zMo σ hm A) (hN : zia σ (A 0) = N) (hV : mV N) (hW : mW N) (gok : gOK N (zia σ (A 7))) (f0 : 0 ≤ f) (f1 : f < 6) : zP1 G mX12_tookOf (d + 6) [zR hm, zI f] σ (mRk N f) := by
  refine zE_of rfl (by simp [zcat]) (Nat.le_of_ble_eq_true rfl) ?_
  show zF G mX12_tookOf (d + 6) 0 [(0, zR hm), (1, zI f)] [] σ _
  have hb := hV.b
  have hn := hV.n
  have hg := gOK_V hV gok
  refine zF_aload_n 1 dX12_tookOf_0 rfl rfl ?_
  refine zF_iload_n 2 dX12_tookOf_1 rfl rfl ?_
  refine zF_bipush 4 dX12_tookOf_2 rfl (by decide) ?_
  refine zF_callVi 7 (d2 := (d + 5)) (as := [zI f, zI 9]) dX12_tookOf_4 rfl kX12_148 iX12_ofFilm (ci := 12) rfl eX12_ofFilm (Nat.le_refl _) hM.1 hM.2.1 rfl rfl (Nat.le_of_ble_eq_true rfl) (zn_X12_ofFilm hM hN (by omega) (by omega)) ?_
  refine zF_aload_n 8 dX12_tookOf_7 rfl rfl ?_
  refine zF_iconst 9 dX12_tookOf_8 rfl ?_
  refine zF_iload_n 10 dX12_tookOf_9 rfl rfl ?_
  refine zF_callVi 13 (d2 := (d + 5)) (as := [zI (-1), zI f]) dX12_tookOf_10 rfl kX12_187 iX12_takingsIn (ci := 12) rfl eX12_takingsIn (Nat.le_refl _) hM.1 hM.2.1 rfl rfl (Nat.le_of_ble_eq_true rfl) (zn_X12_takingsIn hM hN rfl hV (by first | decide | assumption | exact hb _ | exact mSh_rg hb _ _ | exact zb_rg _ | (constructor <;> omega)) (by first | decide | assumption | exact hb _ | exact mSh_rg hb _ _ | exact zb_rg _ | (constructor <;> omega))) ?_
  refine zF_iadd 14 dX12_tookOf_13 rfl ?_
  exact zF_iretP dX12_tookOf_14 rfl (by unfold mRk; rw [gIn_films hV hW gok f0])
theorem zt_X12_chart {p : Int} (hM : zMo σ hm A) (hN : zia σ (A 0) = N) (hV : mV N) (hW : mW N) (hX : mX N) (hQ : mQ N) (zrp : zrg p) : zE G mX12_chart (d + 12) [zR hm, zI p] σ (mop (if 0 ≤ p ∧ p < N 2 then 0 else 1) (mCh N p) hm A σ) := by
  refine zE_of rfl (by simp [zcat]) (Nat.le_of_ble_eq_true rfl) ?_
  show zF G mX12_chart (d + 12) 0 [(0, zR hm), (1, zI p)] [] σ _
  have hb := hV.b
  have hn := hV.n
  have hf := nF_eq hV
  refine zF_aload_n 1 dX12_chart_0 rfl rfl ?_
  refine zF_iconst 2 dX12_chart_1 rfl ?_
  refine zF_putI 5 dX12_chart_2 rfl pX12_chart_89 (Or.inl rfl) hM.1 hM.2.1 ?_
  refine zF_aload_n 6 dX12_chart_5 rfl rfl ?_
  refine zF_callV 9 (d2 := (d + 11)) (as := []) dX12_chart_6 rfl kX12_244 iX12_layWeek (ci := 12) rfl eX12_layWeek (Nat.le_refl _) hM.1 hM.2.1 rfl rfl (Nat.le_of_ble_eq_true rfl) (zE.mono (zt_X12_layWeek hM (zMo_hN (k := 0) hN hM (by decide) zMo_h1) hV hW) fun ro σa1 hh1 => ?_)
  obtain ⟨er1, fr1, p1⟩ := hh1
  subst er1
  refine ⟨fr1.1, ?_⟩
  show zF G mX12_chart (d + 12) 9 [(0, zR hm), (1, zI p)] [] σa1 _
  have hMa1 := zMo_f2 fr1 hM
  have hNa1 : zia σa1 (A 0) = N := zFr_N (σ := (zsi σ hm ((5 : Nat) : Int) 0)) hM (zMo_hN (k := 0) hN hM (by decide) zMo_h1) fr1
  have hga1 := gOK_V hV p1
  refine zF_iconst 10 dX12_chart_9 rfl ?_
  refine zF_istore_n 11 (ls' := [(2, zI 0), (0, zR hm), (1, zI p)]) dX12_chart_10 rfl (by decide) rfl ?_
  refine zF_locs (ls' := [(2, zI ((0 : Nat) : Int)), (0, zR hm), (1, zI p)]) ⟨zlI rfl (by first | rfl | omega | (push_cast; omega) | exact congrArg (_ + ·) (zbT (by assumption)) | exact congrArg (_ + ·) (zbF (by assumption)) | exact congrArg (_ + ·) (zbT (by omega)) | exact congrArg (_ + ·) (zbF (by omega)) | exact congrArg (_ + ·) (if_pos (by omega)).symm | exact congrArg (_ + ·) (if_neg (by omega)).symm | exact (if_pos (by omega)).symm | exact (if_neg (by omega)).symm | exact zsub_s (if_pos (by omega)).symm | exact zsub_s0 (if_neg (by omega)).symm | exact zadd0 (if_neg (by omega)).symm | exact zadd0 (zbF (by omega)) | exact (Int.sub_zero _).symm), rfl, rfl, trivial⟩ ?_
  refine zF_while (X := Nat) (fun x => nF N - x) (fun x σ2 => x ≤ nF N ∧ σ2 = σa1 ∧ ∀ f : Nat, f < x → mAh N f (nF N) ≠ p) (fun x => [(2, zI ((x : Nat) : Int)), (0, zR hm), (1, zI p)]) ?_ 0 σa1 (⟨by omega, rfl, fun f hf => absurd hf (by omega)⟩)
  intro x σ2 hI11 ih11
  show zF G mX12_chart (d + 12) 11 [(2, zI ((x : Nat) : Int)), (0, zR hm), (1, zI p)] [] σ2 _
  obtain ⟨hx, e2, hno⟩ := hI11
  subst e2
  refine zF_iload_n 12 dX12_chart_11 rfl rfl ?_
  refine zF_aload_n 13 dX12_chart_12 rfl rfl ?_
  refine zF_callVi 16 (d2 := (d + 11)) (as := []) dX12_chart_13 rfl kX12_116 iX12_films (ci := 12) rfl eX12_films (Nat.le_refl _) hMa1.1 hMa1.2.1 rfl rfl (Nat.le_of_ble_eq_true rfl) (zn_X12_films hMa1 hNa1) ?_
  refine zF_icmp_ge 92 19 dX12_chart_16 rfl rfl (by first | decide | assumption | exact hb _ | exact mSh_rg hb _ _ | exact zb_rg _ | (constructor <;> omega)) (by first | decide | assumption | exact hb _ | exact mSh_rg hb _ _ | exact zb_rg _ | (constructor <;> omega)) (fun c1 => ?_) (fun c1 => ?_)
  · refine zF_aload_n 93 dX12_chart_92 rfl rfl ?_
    refine zF_iconst 94 dX12_chart_93 rfl ?_
    refine zF_callV 97 (d2 := (d + 11)) (as := [zI 1]) dX12_chart_94 rfl kX12_238 iX12_raise (ci := 12) rfl eX12_raise (Nat.le_refl _) hMa1.1 hMa1.2.1 rfl rfl (Nat.le_of_ble_eq_true rfl) (zE.mono (zt_X12_raise hMa1) fun ro σx2 hh2 => ?_)
    obtain ⟨er2, es2⟩ := hh2
    subst er2
    subst es2
    refine ⟨rfl, ?_⟩
    exact zF_ireturn dX12_chart_97 rfl (mopT (mSc_hm5 (mSc_fr78 (mSc_hm5 zFr.rf) fr1)) (zsi_same _ _ _ _) (if_neg (fun q => by obtain ⟨f, f1, f2⟩ := mCh_some hV q.1 q.2; exact hno f (by omega) f2)) (by decide))
  · refine zF_iconst 20 dX12_chart_19 rfl ?_
    refine zF_istore_n 21 (ls' := [(3, zI 0), (2, zI ((x : Nat) : Int)), (0, zR hm), (1, zI p)]) dX12_chart_20 rfl (by decide) rfl ?_
    refine zF_iconst 22 dX12_chart_21 rfl ?_
    refine zF_istore 24 (ls' := [(4, zI 0), (3, zI 0), (2, zI ((x : Nat) : Int)), (0, zR hm), (1, zI p)]) dX12_chart_22 rfl (by decide) rfl ?_
    refine zF_locs (ls' := (fun (i : Nat) => [(4, zI (i : Int)), (3, zI (mAh N (x : Int) i)), (2, zI ((x : Nat) : Int)), (0, zR hm), (1, zI p)]) 0) ⟨zlI rfl (by first | rfl | omega | (push_cast; omega) | exact congrArg (_ + ·) (zbT (by assumption)) | exact congrArg (_ + ·) (zbF (by assumption)) | exact congrArg (_ + ·) (zbT (by omega)) | exact congrArg (_ + ·) (zbF (by omega)) | exact congrArg (_ + ·) (if_pos (by omega)).symm | exact congrArg (_ + ·) (if_neg (by omega)).symm | exact (if_pos (by omega)).symm | exact (if_neg (by omega)).symm | exact zsub_s (if_pos (by omega)).symm | exact zsub_s0 (if_neg (by omega)).symm | exact zadd0 (if_neg (by omega)).symm | exact zadd0 (zbF (by omega)) | exact (Int.sub_zero _).symm), zlI rfl (by first | rfl | omega | (push_cast; omega) | exact congrArg (_ + ·) (zbT (by assumption)) | exact congrArg (_ + ·) (zbF (by assumption)) | exact congrArg (_ + ·) (zbT (by omega)) | exact congrArg (_ + ·) (zbF (by omega)) | exact congrArg (_ + ·) (if_pos (by omega)).symm | exact congrArg (_ + ·) (if_neg (by omega)).symm | exact (if_pos (by omega)).symm | exact (if_neg (by omega)).symm | exact zsub_s (if_pos (by omega)).symm | exact zsub_s0 (if_neg (by omega)).symm | exact zadd0 (if_neg (by omega)).symm | exact zadd0 (zbF (by omega)) | exact (Int.sub_zero _).symm), rfl, rfl, rfl, trivial⟩ ?_
    refine zF_loop (n := (nF N)) (fun (i : Nat) => [(4, zI (i : Int)), (3, zI (mAh N (x : Int) i)), (2, zI ((x : Nat) : Int)), (0, zR hm), (1, zI p)]) (fun _ => σ2) (fun i hi ih24 => ?_) ?_
    · show zF G mX12_chart (d + 12) 24 [(4, zI (i : Int)), (3, zI (mAh N (x : Int) i)), (2, zI ((x : Nat) : Int)), (0, zR hm), (1, zI p)] [] σ2 _
      have q1 := mRk_b hV hW hQ (f := (i : Int)) (by omega) (by omega)
      have q2 := mRk_b hV hW hQ (f := (x : Int)) (by omega) (by omega)
      have q3 := mAh_b N (x : Int) i
      refine zF_iload 26 dX12_chart_24 rfl rfl ?_
      refine zF_aload_n 27 dX12_chart_26 rfl rfl ?_
      refine zF_callVi 30 (d2 := (d + 11)) (as := []) dX12_chart_27 rfl kX12_116 iX12_films (ci := 12) rfl eX12_films (Nat.le_refl _) hMa1.1 hMa1.2.1 rfl rfl (Nat.le_of_ble_eq_true rfl) (zn_X12_films hMa1 hNa1) ?_
      refine zF_icmp_ge 79 33 dX12_chart_30 rfl rfl (by first | decide | assumption | exact hb _ | exact mSh_rg hb _ _ | exact zb_rg _ | (constructor <;> omega)) (by first | decide | assumption | exact hb _ | exact mSh_rg hb _ _ | exact zb_rg _ | (constructor <;> omega)) (fun c2 => ?_) (fun c2 => ?_)
      · exact absurd c2 (by omega)
      · refine zF_aload_n 34 dX12_chart_33 rfl rfl ?_
        refine zF_iload 36 dX12_chart_34 rfl rfl ?_
        refine zF_callVi 39 (d2 := (d + 11)) (as := [zI (i : Int)]) dX12_chart_36 rfl kX12_278 iX12_tookOf (ci := 12) rfl eX12_tookOf (Nat.le_refl _) hMa1.1 hMa1.2.1 rfl rfl (Nat.le_of_ble_eq_true rfl) (zt_X12_tookOf hMa1 hNa1 hV hW p1 (by omega) (by omega)) ?_
        refine zF_aload_n 40 dX12_chart_39 rfl rfl ?_
        refine zF_iload_n 41 dX12_chart_40 rfl rfl ?_
        refine zF_callVi 44 (d2 := (d + 11)) (as := [zI ((x : Nat) : Int)]) dX12_chart_41 rfl kX12_278 iX12_tookOf (ci := 12) rfl eX12_tookOf (Nat.le_refl _) hMa1.1 hMa1.2.1 rfl rfl (Nat.le_of_ble_eq_true rfl) (zt_X12_tookOf hMa1 hNa1 hV hW p1 (by omega) (by omega)) ?_
        refine zF_callSi 47 (d2 := (d + 11)) (as := [zI (mRk N (i : Int)), zI (mRk N ((x : Nat) : Int))]) dX12_chart_44 rfl kX12_281 sJ6_compare_7cf53 (Nat.le_refl _) rfl rfl (Nat.le_of_ble_eq_true rfl) (zt_J6_compare (by first | decide | assumption | exact hb _ | exact mSh_rg hb _ _ | exact zb_rg _ | (constructor <;> omega)) (by first | decide | assumption | exact hb _ | exact mSh_rg hb _ _ | exact zb_rg _ | (constructor <;> omega))) ?_
        refine zF_istore 49 (ls' := [(5, zI (zcmp (mRk N (i : Int)) (mRk N ((x : Nat) : Int)))), (4, zI (i : Int)), (3, zI (mAh N (x : Int) i)), (2, zI ((x : Nat) : Int)), (0, zR hm), (1, zI p)]) dX12_chart_47 rfl (by decide) rfl ?_
        refine zF_iload_n 50 dX12_chart_49 rfl rfl ?_
        have qz : (0 < (zcmp (mRk N (i : Int)) (mRk N ((x : Nat) : Int))) ↔ mRk N (x : Int) < mRk N (i : Int)) ∧ ((zcmp (mRk N (i : Int)) (mRk N ((x : Nat) : Int))) = 0 ↔ mRk N (i : Int) = mRk N (x : Int)) ∧ zrg (zcmp (mRk N (i : Int)) (mRk N ((x : Nat) : Int))) := zcmp_p _ _
        refine zF_iload 52 dX12_chart_50 rfl rfl ?_
        refine zF_if_gt 66 55 dX12_chart_52 rfl rfl (by first | decide | assumption | exact hb _ | exact mSh_rg hb _ _ | exact zb_rg _ | (constructor <;> omega)) (fun c3 => ?_) (fun c3 => ?_)
        · refine zF_iconst 67 dX12_chart_66 rfl ?_
          refine zF_goto 71 dX12_chart_67 rfl ?_
          refine zF_iadd 72 dX12_chart_71 rfl ?_
          refine zF_istore_n 73 (ls' := [(3, zI ((mAh N (x : Int) i) + 1)), (5, zI (zcmp (mRk N (i : Int)) (mRk N ((x : Nat) : Int)))), (4, zI (i : Int)), (2, zI ((x : Nat) : Int)), (0, zR hm), (1, zI p)]) dX12_chart_72 rfl (by decide) rfl ?_
          refine zF_iinc 76 (ls' := [(4, zI ((i : Int) + 1)), (3, zI ((mAh N (x : Int) i) + 1)), (5, zI (zcmp (mRk N (i : Int)) (mRk N ((x : Nat) : Int)))), (2, zI ((x : Nat) : Int)), (0, zR hm), (1, zI p)]) dX12_chart_73 rfl rfl rfl (by decide) rfl ?_
          refine zF_goto 24 dX12_chart_76 rfl ?_
          exact zF_locs (ls' := [(4, zI ((i + 1 : Nat) : Int)), (3, zI (mAh N (x : Int) (i + 1))), (2, zI ((x : Nat) : Int)), (0, zR hm), (1, zI p)]) ⟨zlI rfl (by first | rfl | omega | (push_cast; omega) | exact congrArg (_ + ·) (zbT (by assumption)) | exact congrArg (_ + ·) (zbF (by assumption)) | exact congrArg (_ + ·) (zbT (by omega)) | exact congrArg (_ + ·) (zbF (by omega)) | exact congrArg (_ + ·) (if_pos (by omega)).symm | exact congrArg (_ + ·) (if_neg (by omega)).symm | exact (if_pos (by omega)).symm | exact (if_neg (by omega)).symm | exact zsub_s (if_pos (by omega)).symm | exact zsub_s0 (if_neg (by omega)).symm | exact zadd0 (if_neg (by omega)).symm | exact zadd0 (zbF (by omega)) | exact (Int.sub_zero _).symm), zlI rfl (by first | rfl | omega | (push_cast; omega) | exact congrArg (_ + ·) (zbT (by assumption)) | exact congrArg (_ + ·) (zbF (by assumption)) | exact congrArg (_ + ·) (zbT (by omega)) | exact congrArg (_ + ·) (zbF (by omega)) | exact congrArg (_ + ·) (if_pos (by omega)).symm | exact congrArg (_ + ·) (if_neg (by omega)).symm | exact (if_pos (by omega)).symm | exact (if_neg (by omega)).symm | exact zsub_s (if_pos (by omega)).symm | exact zsub_s0 (if_neg (by omega)).symm | exact zadd0 (if_neg (by omega)).symm | exact zadd0 (zbF (by omega)) | exact (Int.sub_zero _).symm), rfl, rfl, rfl, trivial⟩ ih24
        · refine zF_iload 57 dX12_chart_55 rfl rfl ?_
          refine zF_if_ne 70 60 dX12_chart_57 rfl rfl (by first | decide | assumption | exact hb _ | exact mSh_rg hb _ _ | exact zb_rg _ | (constructor <;> omega)) (fun c4 => ?_) (fun c4 => ?_)
          · refine zF_iconst 71 dX12_chart_70 rfl ?_
            refine zF_iadd 72 dX12_chart_71 rfl ?_
            refine zF_istore_n 73 (ls' := [(3, zI ((mAh N (x : Int) i) + 0)), (5, zI (zcmp (mRk N (i : Int)) (mRk N ((x : Nat) : Int)))), (4, zI (i : Int)), (2, zI ((x : Nat) : Int)), (0, zR hm), (1, zI p)]) dX12_chart_72 rfl (by decide) rfl ?_
            refine zF_iinc 76 (ls' := [(4, zI ((i : Int) + 1)), (3, zI ((mAh N (x : Int) i) + 0)), (5, zI (zcmp (mRk N (i : Int)) (mRk N ((x : Nat) : Int)))), (2, zI ((x : Nat) : Int)), (0, zR hm), (1, zI p)]) dX12_chart_73 rfl rfl rfl (by decide) rfl ?_
            refine zF_goto 24 dX12_chart_76 rfl ?_
            exact zF_locs (ls' := [(4, zI ((i + 1 : Nat) : Int)), (3, zI (mAh N (x : Int) (i + 1))), (2, zI ((x : Nat) : Int)), (0, zR hm), (1, zI p)]) ⟨zlI rfl (by first | rfl | omega | (push_cast; omega) | exact congrArg (_ + ·) (zbT (by assumption)) | exact congrArg (_ + ·) (zbF (by assumption)) | exact congrArg (_ + ·) (zbT (by omega)) | exact congrArg (_ + ·) (zbF (by omega)) | exact congrArg (_ + ·) (if_pos (by omega)).symm | exact congrArg (_ + ·) (if_neg (by omega)).symm | exact (if_pos (by omega)).symm | exact (if_neg (by omega)).symm | exact zsub_s (if_pos (by omega)).symm | exact zsub_s0 (if_neg (by omega)).symm | exact zadd0 (if_neg (by omega)).symm | exact zadd0 (zbF (by omega)) | exact (Int.sub_zero _).symm), zlI rfl (by first | rfl | omega | (push_cast; omega) | exact congrArg (_ + ·) (zbT (by assumption)) | exact congrArg (_ + ·) (zbF (by assumption)) | exact congrArg (_ + ·) (zbT (by omega)) | exact congrArg (_ + ·) (zbF (by omega)) | exact congrArg (_ + ·) (if_pos (by omega)).symm | exact congrArg (_ + ·) (if_neg (by omega)).symm | exact (if_pos (by omega)).symm | exact (if_neg (by omega)).symm | exact zsub_s (if_pos (by omega)).symm | exact zsub_s0 (if_neg (by omega)).symm | exact zadd0 (if_neg (by omega)).symm | exact zadd0 (zbF (by omega)) | exact (Int.sub_zero _).symm), rfl, rfl, rfl, trivial⟩ ih24
          · refine zF_iload 62 dX12_chart_60 rfl rfl ?_
            refine zF_iload_n 63 dX12_chart_62 rfl rfl ?_
            refine zF_icmp_ge 70 66 dX12_chart_63 rfl rfl (by first | decide | assumption | exact hb _ | exact mSh_rg hb _ _ | exact zb_rg _ | (constructor <;> omega)) (by first | decide | assumption | exact hb _ | exact mSh_rg hb _ _ | exact zb_rg _ | (constructor <;> omega)) (fun c5 => ?_) (fun c5 => ?_)
            · refine zF_iconst 71 dX12_chart_70 rfl ?_
              refine zF_iadd 72 dX12_chart_71 rfl ?_
              refine zF_istore_n 73 (ls' := [(3, zI ((mAh N (x : Int) i) + 0)), (5, zI (zcmp (mRk N (i : Int)) (mRk N ((x : Nat) : Int)))), (4, zI (i : Int)), (2, zI ((x : Nat) : Int)), (0, zR hm), (1, zI p)]) dX12_chart_72 rfl (by decide) rfl ?_
              refine zF_iinc 76 (ls' := [(4, zI ((i : Int) + 1)), (3, zI ((mAh N (x : Int) i) + 0)), (5, zI (zcmp (mRk N (i : Int)) (mRk N ((x : Nat) : Int)))), (2, zI ((x : Nat) : Int)), (0, zR hm), (1, zI p)]) dX12_chart_73 rfl rfl rfl (by decide) rfl ?_
              refine zF_goto 24 dX12_chart_76 rfl ?_
              exact zF_locs (ls' := [(4, zI ((i + 1 : Nat) : Int)), (3, zI (mAh N (x : Int) (i + 1))), (2, zI ((x : Nat) : Int)), (0, zR hm), (1, zI p)]) ⟨zlI rfl (by first | rfl | omega | (push_cast; omega) | exact congrArg (_ + ·) (zbT (by assumption)) | exact congrArg (_ + ·) (zbF (by assumption)) | exact congrArg (_ + ·) (zbT (by omega)) | exact congrArg (_ + ·) (zbF (by omega)) | exact congrArg (_ + ·) (if_pos (by omega)).symm | exact congrArg (_ + ·) (if_neg (by omega)).symm | exact (if_pos (by omega)).symm | exact (if_neg (by omega)).symm | exact zsub_s (if_pos (by omega)).symm | exact zsub_s0 (if_neg (by omega)).symm | exact zadd0 (if_neg (by omega)).symm | exact zadd0 (zbF (by omega)) | exact (Int.sub_zero _).symm), zlI rfl (by first | rfl | omega | (push_cast; omega) | exact congrArg (_ + ·) (zbT (by assumption)) | exact congrArg (_ + ·) (zbF (by assumption)) | exact congrArg (_ + ·) (zbT (by omega)) | exact congrArg (_ + ·) (zbF (by omega)) | exact congrArg (_ + ·) (if_pos (by omega)).symm | exact congrArg (_ + ·) (if_neg (by omega)).symm | exact (if_pos (by omega)).symm | exact (if_neg (by omega)).symm | exact zsub_s (if_pos (by omega)).symm | exact zsub_s0 (if_neg (by omega)).symm | exact zadd0 (if_neg (by omega)).symm | exact zadd0 (zbF (by omega)) | exact (Int.sub_zero _).symm), rfl, rfl, rfl, trivial⟩ ih24
            · refine zF_iconst 67 dX12_chart_66 rfl ?_
              refine zF_goto 71 dX12_chart_67 rfl ?_
              refine zF_iadd 72 dX12_chart_71 rfl ?_
              refine zF_istore_n 73 (ls' := [(3, zI ((mAh N (x : Int) i) + 1)), (5, zI (zcmp (mRk N (i : Int)) (mRk N ((x : Nat) : Int)))), (4, zI (i : Int)), (2, zI ((x : Nat) : Int)), (0, zR hm), (1, zI p)]) dX12_chart_72 rfl (by decide) rfl ?_
              refine zF_iinc 76 (ls' := [(4, zI ((i : Int) + 1)), (3, zI ((mAh N (x : Int) i) + 1)), (5, zI (zcmp (mRk N (i : Int)) (mRk N ((x : Nat) : Int)))), (2, zI ((x : Nat) : Int)), (0, zR hm), (1, zI p)]) dX12_chart_73 rfl rfl rfl (by decide) rfl ?_
              refine zF_goto 24 dX12_chart_76 rfl ?_
              exact zF_locs (ls' := [(4, zI ((i + 1 : Nat) : Int)), (3, zI (mAh N (x : Int) (i + 1))), (2, zI ((x : Nat) : Int)), (0, zR hm), (1, zI p)]) ⟨zlI rfl (by first | rfl | omega | (push_cast; omega) | exact congrArg (_ + ·) (zbT (by assumption)) | exact congrArg (_ + ·) (zbF (by assumption)) | exact congrArg (_ + ·) (zbT (by omega)) | exact congrArg (_ + ·) (zbF (by omega)) | exact congrArg (_ + ·) (if_pos (by omega)).symm | exact congrArg (_ + ·) (if_neg (by omega)).symm | exact (if_pos (by omega)).symm | exact (if_neg (by omega)).symm | exact zsub_s (if_pos (by omega)).symm | exact zsub_s0 (if_neg (by omega)).symm | exact zadd0 (if_neg (by omega)).symm | exact zadd0 (zbF (by omega)) | exact (Int.sub_zero _).symm), zlI rfl (by first | rfl | omega | (push_cast; omega) | exact congrArg (_ + ·) (zbT (by assumption)) | exact congrArg (_ + ·) (zbF (by assumption)) | exact congrArg (_ + ·) (zbT (by omega)) | exact congrArg (_ + ·) (zbF (by omega)) | exact congrArg (_ + ·) (if_pos (by omega)).symm | exact congrArg (_ + ·) (if_neg (by omega)).symm | exact (if_pos (by omega)).symm | exact (if_neg (by omega)).symm | exact zsub_s (if_pos (by omega)).symm | exact zsub_s0 (if_neg (by omega)).symm | exact zadd0 (if_neg (by omega)).symm | exact zadd0 (zbF (by omega)) | exact (Int.sub_zero _).symm), rfl, rfl, rfl, trivial⟩ ih24
    · show zF G mX12_chart (d + 12) 24 [(4, zI (((nF N) : Nat) : Int)), (3, zI (mAh N (x : Int) (nF N))), (2, zI ((x : Nat) : Int)), (0, zR hm), (1, zI p)] [] σ2 _
      have q3 := mAh_b N (x : Int) (nF N)
      refine zF_iload 26 dX12_chart_24 rfl rfl ?_
      refine zF_aload_n 27 dX12_chart_26 rfl rfl ?_
      refine zF_callVi 30 (d2 := (d + 11)) (as := []) dX12_chart_27 rfl kX12_116 iX12_films (ci := 12) rfl eX12_films (Nat.le_refl _) hMa1.1 hMa1.2.1 rfl rfl (Nat.le_of_ble_eq_true rfl) (zn_X12_films hMa1 hNa1) ?_
      refine zF_icmp_ge 79 33 dX12_chart_30 rfl rfl (by first | decide | assumption | exact hb _ | exact mSh_rg hb _ _ | exact zb_rg _ | (constructor <;> omega)) (by first | decide | assumption | exact hb _ | exact mSh_rg hb _ _ | exact zb_rg _ | (constructor <;> omega)) (fun c6 => ?_) (fun c6 => ?_)
      · refine zF_iload_n 80 dX12_chart_79 rfl rfl ?_
        refine zF_iload_n 81 dX12_chart_80 rfl rfl ?_
        refine zF_icmp_ne 86 84 dX12_chart_81 rfl rfl (by first | decide | assumption | exact hb _ | exact mSh_rg hb _ _ | exact zb_rg _ | (constructor <;> omega)) (by first | decide | assumption | exact hb _ | exact mSh_rg hb _ _ | exact zb_rg _ | (constructor <;> omega)) (fun c7 => ?_) (fun c7 => ?_)
        · refine zF_iinc 89 (ls' := [(2, zI (((x : Nat) : Int) + 1)), (4, zI (((nF N) : Nat) : Int)), (3, zI (mAh N (x : Int) (nF N))), (0, zR hm), (1, zI p)]) dX12_chart_86 rfl rfl rfl (by decide) rfl ?_
          refine zF_goto 11 dX12_chart_89 rfl ?_
          exact zF_locs (ls' := [(2, zI (((x + 1) : Nat) : Int)), (0, zR hm), (1, zI p)]) ⟨zlI rfl (by first | rfl | omega | (push_cast; omega) | exact congrArg (_ + ·) (zbT (by assumption)) | exact congrArg (_ + ·) (zbF (by assumption)) | exact congrArg (_ + ·) (zbT (by omega)) | exact congrArg (_ + ·) (zbF (by omega)) | exact congrArg (_ + ·) (if_pos (by omega)).symm | exact congrArg (_ + ·) (if_neg (by omega)).symm | exact (if_pos (by omega)).symm | exact (if_neg (by omega)).symm | exact zsub_s (if_pos (by omega)).symm | exact zsub_s0 (if_neg (by omega)).symm | exact zadd0 (if_neg (by omega)).symm | exact zadd0 (zbF (by omega)) | exact (Int.sub_zero _).symm), rfl, rfl, trivial⟩ (ih11 (x + 1) _ (by omega) (⟨by omega, rfl, fun f hf => by
          by_cases e : f = x
          · subst e; assumption
          · exact hno f (by omega)⟩))
        · refine zF_iload_n 85 dX12_chart_84 rfl rfl ?_
          exact zF_ireturn dX12_chart_85 rfl (mopR (mSc_fr78 (mSc_hm5 zFr.rf) fr1) (zFr_F fr1 (n78 hM (j := 0)) (zsi_same _ _ _ _)) (by have := mAh_lt N (f := x) (n := nF N) (by omega); have := mAh_b N (x : Int) (nF N); rw [if_pos (by omega)]) (mChN_at (by omega) hno (by omega)).symm)
      · exact absurd c6 (by omega)
theorem zt_X12_forecast {s f : Int} (hM : zMo σ hm A) (hN : zia σ (A 0) = N) (hV : mV N) (hW : mW N) (zrs : zrg s) (zrf : zrg f) : zE G mX12_forecast (d + 12) [zR hm, zI s, zI f] σ (mop (if 0 ≤ s ∧ s < N 1 then if 0 ≤ f ∧ f < N 2 then 0 else 1 else 1) (fTake N s f) hm A σ) := by
  refine zE_of rfl (by simp [zcat]) (Nat.le_of_ble_eq_true rfl) ?_
  show zF G mX12_forecast (d + 12) 0 [(0, zR hm), (1, zI s), (2, zI f)] [] σ _
  have hb := hV.b
  have hn := hV.n
  refine zF_aload_n 1 dX12_forecast_0 rfl rfl ?_
  refine zF_iconst 2 dX12_forecast_1 rfl ?_
  refine zF_putI 5 dX12_forecast_2 rfl pX12_forecast_89 (Or.inl rfl) hM.1 hM.2.1 ?_
  refine zF_aload_n 6 dX12_forecast_5 rfl rfl ?_
  refine zF_iload_n 7 dX12_forecast_6 rfl rfl ?_
  refine zF_callVi 10 (d2 := (d + 11)) (as := [zI s]) dX12_forecast_7 rfl kX12_256 iX12_isScreen (ci := 12) rfl eX12_isScreen (Nat.le_refl _) hM.1 hM.2.1 rfl rfl (Nat.le_of_ble_eq_true rfl) (zn_X12_isScreen hM (zMo_hN (k := 0) hN hM (by decide) zMo_h1) (by first | decide | assumption | exact hb _ | exact mSh_rg hb _ _ | exact zb_rg _ | (constructor <;> omega)) (by omega) (by omega)) ?_
  refine zF_ifb_eq 21 13 dX12_forecast_10 rfl rfl (fun c1 => ?_) (fun c1 => ?_)
  · refine zF_aload_n 22 dX12_forecast_21 rfl rfl ?_
    refine zF_iconst 23 dX12_forecast_22 rfl ?_
    refine zF_callV 26 (d2 := (d + 11)) (as := [zI 1]) dX12_forecast_23 rfl kX12_238 iX12_raise (ci := 12) rfl eX12_raise (Nat.le_refl _) hM.1 hM.2.1 rfl rfl (Nat.le_of_ble_eq_true rfl) (zE.mono (zt_X12_raise hM) fun ro σx1 hh1 => ?_)
    obtain ⟨er1, es1⟩ := hh1
    subst er1
    subst es1
    refine ⟨rfl, ?_⟩
    exact zF_ireturn dX12_forecast_26 rfl (mopT (mSc_hm5 (mSc_hm5 zFr.rf)) (zsi_same _ _ _ _) (by repeat (first | rw [if_pos (by omega)] | rw [if_neg (by omega)])) (by decide))
  · refine zF_aload_n 14 dX12_forecast_13 rfl rfl ?_
    refine zF_iload_n 15 dX12_forecast_14 rfl rfl ?_
    refine zF_callVi 18 (d2 := (d + 11)) (as := [zI f]) dX12_forecast_15 rfl kX12_262 iX12_isFilm (ci := 12) rfl eX12_isFilm (Nat.le_refl _) hM.1 hM.2.1 rfl rfl (Nat.le_of_ble_eq_true rfl) (zn_X12_isFilm hM (zMo_hN (k := 0) hN hM (by decide) zMo_h1) (by first | decide | assumption | exact hb _ | exact mSh_rg hb _ _ | exact zb_rg _ | (constructor <;> omega)) (by omega) (by omega)) ?_
    refine zF_ifb_ne 27 21 dX12_forecast_18 rfl rfl (fun c2 => ?_) (fun c2 => ?_)
    · refine zF_aload_n 28 dX12_forecast_27 rfl rfl ?_
      refine zF_iload_n 29 dX12_forecast_28 rfl rfl ?_
      refine zF_iconst 30 dX12_forecast_29 rfl ?_
      refine zF_callVi 33 (d2 := (d + 11)) (as := [zI s, zI 4]) dX12_forecast_30 rfl kX12_119 iX12_of (ci := 12) rfl eX12_of (Nat.le_refl _) hM.1 hM.2.1 rfl rfl (Nat.le_of_ble_eq_true rfl) (zn_X12_of hM (zMo_hN (k := 0) hN hM (by decide) zMo_h1) (by omega) (by omega)) ?_
      refine zF_istore_n 34 (ls' := [(3, zI (mS N s 4)), (0, zR hm), (1, zI s), (2, zI f)]) dX12_forecast_33 rfl (by decide) rfl ?_
      refine zF_aload_n 35 dX12_forecast_34 rfl rfl ?_
      refine zF_iload_n 36 dX12_forecast_35 rfl rfl ?_
      refine zF_iconst 37 dX12_forecast_36 rfl ?_
      refine zF_callVi 40 (d2 := (d + 11)) (as := [zI s, zI 5]) dX12_forecast_37 rfl kX12_119 iX12_of (ci := 12) rfl eX12_of (Nat.le_refl _) hM.1 hM.2.1 rfl rfl (Nat.le_of_ble_eq_true rfl) (zn_X12_of hM (zMo_hN (k := 0) hN hM (by decide) zMo_h1) (by omega) (by omega)) ?_
      refine zF_istore 42 (ls' := [(4, zI (mS N s 5)), (3, zI (mS N s 4)), (0, zR hm), (1, zI s), (2, zI f)]) dX12_forecast_40 rfl (by decide) rfl ?_
      refine zF_aload_n 43 dX12_forecast_42 rfl rfl ?_
      refine zF_iload_n 44 dX12_forecast_43 rfl rfl ?_
      refine zF_bipush 46 dX12_forecast_44 rfl (by decide) ?_
      refine zF_callVi 49 (d2 := (d + 11)) (as := [zI s, zI 6]) dX12_forecast_46 rfl kX12_119 iX12_of (ci := 12) rfl eX12_of (Nat.le_refl _) hM.1 hM.2.1 rfl rfl (Nat.le_of_ble_eq_true rfl) (zn_X12_of hM (zMo_hN (k := 0) hN hM (by decide) zMo_h1) (by omega) (by omega)) ?_
      refine zF_istore 51 (ls' := [(5, zI (mS N s 6)), (4, zI (mS N s 5)), (3, zI (mS N s 4)), (0, zR hm), (1, zI s), (2, zI f)]) dX12_forecast_49 rfl (by decide) rfl ?_
      refine zF_aload_n 52 dX12_forecast_51 rfl rfl ?_
      refine zF_iload_n 53 dX12_forecast_52 rfl rfl ?_
      refine zF_callVi 56 (d2 := (d + 11)) (as := [zI s]) dX12_forecast_53 rfl kX12_208 iX12_isHeld (ci := 12) rfl eX12_isHeld (Nat.le_refl _) hM.1 hM.2.1 rfl rfl (Nat.le_of_ble_eq_true rfl) (zn_X12_isHeld hM (zMo_hN (k := 0) hN hM (by decide) zMo_h1) hb (by omega) (by omega)) ?_
      refine zF_istore 58 (ls' := [(6, zI (zb (mS N s 7 = 1))), (5, zI (mS N s 6)), (4, zI (mS N s 5)), (3, zI (mS N s 4)), (0, zR hm), (1, zI s), (2, zI f)]) dX12_forecast_56 rfl (by decide) rfl ?_
      refine zF_aload_n 59 dX12_forecast_58 rfl rfl ?_
      refine zF_getR 62 dX12_forecast_59 rfl gX12_9 hM.1 hM.2.1 (zM_0 hM).1 ?_
      refine zF_iload_n 63 dX12_forecast_62 rfl rfl ?_
      refine zF_iload_n 64 dX12_forecast_63 rfl rfl ?_
      refine zF_iconst 65 dX12_forecast_64 rfl ?_
      refine zF_iconst 66 dX12_forecast_65 rfl ?_
      refine zF_iload 68 dX12_forecast_66 rfl rfl ?_
      refine zF_callS 71 (d2 := (d + 11)) (as := [zR (A 0), zI s, zI f, zI (-1), zI 0, zI (zb (mS N s 7 = 1))]) dX12_forecast_68 rfl kX12_274 sX12_book (Nat.le_refl _) rfl rfl (Nat.le_of_ble_eq_true rfl) (zE.mono (zt_X12_book (zM_0 hM).2.2 (zM_0 hM).2.1 (by omega) (by omega) (by first | exact zb01 _ | omega)) fun ro σa2 hh2 => ?_)
      obtain ⟨er2, fr2, p2⟩ := hh2
      subst er2
      refine ⟨fr2.1, ?_⟩
      show zF G mX12_forecast (d + 12) 71 [(6, zI (zb (mS N s 7 = 1))), (5, zI (mS N s 6)), (4, zI (mS N s 5)), (3, zI (mS N s 4)), (0, zR hm), (1, zI s), (2, zI f)] [] σa2 _
      have hMb1 := zMo_f2 fr2 hM
      have n0m := zMo_hm1 hM (k := 0) (by decide) zMo_h1
      have hNb1 : zia σa2 (A 0) = (mBook N s f (-1) 0 (zb (mS N s 7 = 1))) := by rw [p2, (zMo_hN (k := 0) hN hM (by decide) zMo_h1)]
      have hV1 := mBook_V hV (s := s) (a := f) (b := -1) (c := 0) (by omega) (by omega) (by omega) (by omega) (by omega) (zb01 (mS N s 7 = 1))
      have hW1 := mBook_W hV hW (s := s) (a := f) (b := -1) (c := 0) (e := zb (mS N s 7 = 1)) (by omega) (by omega) (by omega) (by omega)
      refine zF_aload_n 72 dX12_forecast_71 rfl rfl ?_
      refine zF_callV 75 (d2 := (d + 11)) (as := []) dX12_forecast_72 rfl kX12_244 iX12_layWeek (ci := 12) rfl eX12_layWeek (Nat.le_refl _) hMb1.1 hMb1.2.1 rfl rfl (Nat.le_of_ble_eq_true rfl) (zE.mono (zt_X12_layWeek hMb1 hNb1 hV1 hW1) fun ro σa3 hh3 => ?_)
      obtain ⟨er3, fr3, p3⟩ := hh3
      subst er3
      refine ⟨fr3.1, ?_⟩
      show zF G mX12_forecast (d + 12) 75 [(6, zI (zb (mS N s 7 = 1))), (5, zI (mS N s 6)), (4, zI (mS N s 5)), (3, zI (mS N s 4)), (0, zR hm), (1, zI s), (2, zI f)] [] σa3 _
      have hMb2 := zMo_f2 fr3 hMb1
      have hNb2 := zFr_N hMb1 hNb1 fr3
      refine zF_aload_n 76 dX12_forecast_75 rfl rfl ?_
      refine zF_getR 79 dX12_forecast_76 rfl gX12_9 hMb2.1 hMb2.2.1 (zM_0 hMb2).1 ?_
      refine zF_iload_n 80 dX12_forecast_79 rfl rfl ?_
      refine zF_iload_n 81 dX12_forecast_80 rfl rfl ?_
      refine zF_iload 83 dX12_forecast_81 rfl rfl ?_
      refine zF_iload 85 dX12_forecast_83 rfl rfl ?_
      refine zF_iload 87 dX12_forecast_85 rfl rfl ?_
      refine zF_callS 90 (d2 := (d + 11)) (as := [zR (A 0), zI s, zI (mS N s 4), zI (mS N s 5), zI (mS N s 6), zI (zb (mS N s 7 = 1))]) dX12_forecast_87 rfl kX12_274 sX12_book (Nat.le_refl _) rfl rfl (Nat.le_of_ble_eq_true rfl) (zE.mono (zt_X12_book (zM_0 hMb2).2.2 (zM_0 hMb2).2.1 (by omega) (by omega) (by first | exact zb01 _ | omega)) fun ro σa4 hh4 => ?_)
      obtain ⟨er4, fr4, p4⟩ := hh4
      subst er4
      refine ⟨fr4.1, ?_⟩
      show zF G mX12_forecast (d + 12) 90 [(6, zI (zb (mS N s 7 = 1))), (5, zI (mS N s 6)), (4, zI (mS N s 5)), (3, zI (mS N s 4)), (0, zR hm), (1, zI s), (2, zI f)] [] σa4 _
      have hMb3 := zMo_f2 fr4 hMb2
      have hNb3 : zia σa4 (A 0) = N := by rw [p4, hNb2]; exact mBook_back hV (by omega) (by omega)
      have e73 : zia σa4 (A 7) = zia σa3 (A 7) := fr4.at fun j q => zMo_ne hM (j := 7) (k := 0) (by decide) (by decide) (by decide) q.1
      have frX : zFr (mSc hm A) σ σa4 := fc_fr hM hN hNb3 fr2 fr3 fr4
      have t5 : zia σa4 hm ((5 : Nat) : Int) = 0 := zFr_F fr4 (fun q => n0m q.1.symm) (zFr_F fr3 (n78 hM (j := 0)) (zFr_F fr2 (fun q => n0m q.1.symm) (zsi_same _ _ _ _)))
      refine zF_aload_n 91 dX12_forecast_90 rfl rfl ?_
      refine zF_iload_n 92 dX12_forecast_91 rfl rfl ?_
      refine zF_callVi 95 (d2 := (d + 11)) (as := [zI s]) dX12_forecast_92 rfl kX12_259 iX12_takingsOf (ci := 12) rfl eX12_takingsOf (Nat.le_refl _) hMb3.1 hMb3.2.1 rfl rfl (Nat.le_of_ble_eq_true rfl) (zn_X12_takingsOf hMb3 hNb3 rfl hV (by omega) (by omega)) ?_
      exact zF_ireturn dX12_forecast_95 rfl (mopR frX t5 (by repeat (first | rw [if_pos (by omega)] | rw [if_neg (by omega)])) (fTake_eq hV p3 e73 (by omega) (by omega) (by omega) (by omega)))
    · refine zF_aload_n 22 dX12_forecast_21 rfl rfl ?_
      refine zF_iconst 23 dX12_forecast_22 rfl ?_
      refine zF_callV 26 (d2 := (d + 11)) (as := [zI 1]) dX12_forecast_23 rfl kX12_238 iX12_raise (ci := 12) rfl eX12_raise (Nat.le_refl _) hM.1 hM.2.1 rfl rfl (Nat.le_of_ble_eq_true rfl) (zE.mono (zt_X12_raise hM) fun ro σx5 hh5 => ?_)
      obtain ⟨er5, es5⟩ := hh5
      subst er5
      subst es5
      refine ⟨rfl, ?_⟩
      exact zF_ireturn dX12_forecast_26 rfl (mopT (mSc_hm5 (mSc_hm5 zFr.rf)) (zsi_same _ _ _ _) (by repeat (first | rw [if_pos (by omega)] | rw [if_neg (by omega)])) (by decide))
theorem zt_X12_layRoster {h : Int} (hM : zMo σ hm A) (hN : zia σ (A 0) = N) (hV : mV N) (hQ : mC4 N) (zrh : zrg h) : zE G mX12_layRoster (d + 4) [zR hm, zI h] σ (fun ro σ1 => ro = .inl none ∧ zFr (fun y j => (y = hm ∧ j = 12) ∨ y = A 9) σ σ1 ∧ zia σ1 hm ((12 : Nat) : Int) = mCn N h (nS N) ∧ ∀ k, 0 ≤ k → k < mCn N h (nS N) → zia σ1 (A 9) k = rk N h k) := by
  refine zE_of rfl (by simp [zcat]) (Nat.le_of_ble_eq_true rfl) ?_
  show zF G mX12_layRoster (d + 4) 0 [(0, zR hm), (1, zI h)] [] σ _
  have hb := hV.b
  have hn := hV.n
  have hs := nS_eq hV
  have q4 := hQ.c h
  have n9 := zMo_hm1 hM (k := 9) (by decide) zMo_h1
  have n09 := zMo_ne hM (j := 0) (k := 9) (by decide) (by decide) (by decide)
  have n0 := zMo_hm1 hM (k := 0) (by decide) zMo_h1
  refine zF_aload_n 1 dX12_layRoster_0 rfl rfl ?_
  refine zF_iconst 2 dX12_layRoster_1 rfl ?_
  refine zF_putI 5 dX12_layRoster_2 rfl pX12_layRoster_199 (Or.inl rfl) hM.1 hM.2.1 ?_
  refine zF_iconst 6 dX12_layRoster_5 rfl ?_
  refine zF_istore_n 7 (ls' := [(2, zI 0), (0, zR hm), (1, zI h)]) dX12_layRoster_6 rfl (by decide) rfl ?_
  refine zF_locs (ls' := [(2, zI ((0 : Nat) : Int)), (0, zR hm), (1, zI h)]) ⟨zlI rfl (by first | rfl | omega | (push_cast; omega) | exact congrArg (_ + ·) (zbT (by assumption)) | exact congrArg (_ + ·) (zbF (by assumption)) | exact congrArg (_ + ·) (zbT (by omega)) | exact congrArg (_ + ·) (zbF (by omega)) | exact congrArg (_ + ·) (if_pos (by omega)).symm | exact congrArg (_ + ·) (if_neg (by omega)).symm | exact (if_pos (by omega)).symm | exact (if_neg (by omega)).symm | exact zsub_s (if_pos (by omega)).symm | exact zsub_s0 (if_neg (by omega)).symm | exact zadd0 (if_neg (by omega)).symm | exact zadd0 (zbF (by omega)) | exact (Int.sub_zero _).symm), rfl, rfl, trivial⟩ ?_
  refine zF_while (X := Nat) (fun x => nS N - x) (fun x σ2 => x ≤ nS N ∧ zFr (fun y j => (y = hm ∧ j = 12) ∨ y = A 9) σ σ2 ∧ zia σ2 hm ((12 : Nat) : Int) = mCn N h x ∧ ∀ k, 0 ≤ k → k < mCn N h x → zia σ2 (A 9) k = rkN N h x k) (fun x => [(2, zI ((x : Nat) : Int)), (0, zR hm), (1, zI h)]) ?_ 0 (zsi σ hm ((12 : Nat) : Int) 0) (⟨by omega, zFr_si (Or.inl ⟨rfl, rfl⟩) zFr.rf, zsi_same _ _ _ _, fun k a b => absurd b (by show ¬ k < 0; omega)⟩)
  intro x σ2 hI7 ih7
  show zF G mX12_layRoster (d + 4) 7 [(2, zI ((x : Nat) : Int)), (0, zR hm), (1, zI h)] [] σ2 _
  obtain ⟨hx, fr2, ec2, p2⟩ := hI7
  have hM2 := zMo_fr hM fr2
  have hN2 : zia σ2 (A 0) = N := (fr2.at fun j q => q.elim (fun q => n0 q.1) n09).trans hN
  have cb := mCn_b N h x
  refine zF_iload_n 8 dX12_layRoster_7 rfl rfl ?_
  refine zF_aload_n 9 dX12_layRoster_8 rfl rfl ?_
  refine zF_callVi 12 (d2 := (d + 3)) (as := []) dX12_layRoster_9 rfl kX12_113 iX12_screens (ci := 12) rfl eX12_screens (Nat.le_refl _) hM2.1 hM2.2.1 rfl rfl (Nat.le_of_ble_eq_true rfl) (zn_X12_screens hM2 hN2) ?_
  refine zF_icmp_ge 51 15 dX12_layRoster_12 rfl rfl (by first | decide | assumption | exact hb _ | exact mSh_rg hb _ _ | exact zb_rg _ | (constructor <;> omega)) (by first | decide | assumption | exact hb _ | exact mSh_rg hb _ _ | exact zb_rg _ | (constructor <;> omega)) (fun c1 => ?_) (fun c1 => ?_)
  · exact zF_return dX12_layRoster_51 rfl (by have ex : x = nS N := (by omega); subst ex; exact ⟨rfl, fr2, ec2, p2⟩)
  · refine zF_aload_n 16 dX12_layRoster_15 rfl rfl ?_
    refine zF_iload_n 17 dX12_layRoster_16 rfl rfl ?_
    refine zF_iconst 18 dX12_layRoster_17 rfl ?_
    refine zF_callVi 21 (d2 := (d + 3)) (as := [zI ((x : Nat) : Int), zI 0]) dX12_layRoster_18 rfl kX12_119 iX12_of (ci := 12) rfl eX12_of (Nat.le_refl _) hM2.1 hM2.2.1 rfl rfl (Nat.le_of_ble_eq_true rfl) (zn_X12_of hM2 hN2 (by omega) (by omega)) ?_
    refine zF_iload_n 22 dX12_layRoster_21 rfl rfl ?_
    refine zF_icmp_ne 45 25 dX12_layRoster_22 rfl rfl (by first | decide | assumption | exact hb _ | exact mSh_rg hb _ _ | exact zb_rg _ | (constructor <;> omega)) (by first | decide | assumption | exact hb _ | exact mSh_rg hb _ _ | exact zb_rg _ | (constructor <;> omega)) (fun c2 => ?_) (fun c2 => ?_)
    · refine zF_iinc 48 (ls' := [(2, zI (((x : Nat) : Int) + 1)), (0, zR hm), (1, zI h)]) dX12_layRoster_45 rfl rfl rfl (by decide) rfl ?_
      refine zF_goto 7 dX12_layRoster_48 rfl ?_
      exact zF_locs (ls' := [(2, zI (((x + 1) : Nat) : Int)), (0, zR hm), (1, zI h)]) ⟨zlI rfl (by first | rfl | omega | (push_cast; omega) | exact congrArg (_ + ·) (zbT (by assumption)) | exact congrArg (_ + ·) (zbF (by assumption)) | exact congrArg (_ + ·) (zbT (by omega)) | exact congrArg (_ + ·) (zbF (by omega)) | exact congrArg (_ + ·) (if_pos (by omega)).symm | exact congrArg (_ + ·) (if_neg (by omega)).symm | exact (if_pos (by omega)).symm | exact (if_neg (by omega)).symm | exact zsub_s (if_pos (by omega)).symm | exact zsub_s0 (if_neg (by omega)).symm | exact zadd0 (if_neg (by omega)).symm | exact zadd0 (zbF (by omega)) | exact (Int.sub_zero _).symm), rfl, rfl, trivial⟩ (ih7 (x + 1) _ (by omega) (⟨by omega, fr2, by rw [mCn_s, ← zbF (by omega), Int.add_zero]; exact ec2, rk_skip (by omega) p2⟩))
    · have qlt := mCn_lt N h (a := x) (b := nS N) (by omega) (by omega)
      refine zF_aload_n 26 dX12_layRoster_25 rfl rfl ?_
      refine zF_getR 29 dX12_layRoster_26 rfl gX12_29 hM2.1 hM2.2.1 (zM_9 hM2).1 ?_
      refine zF_aload_n 30 dX12_layRoster_29 rfl rfl ?_
      refine zF_getI 33 dX12_layRoster_30 rfl gX12_199 (by decide) (by decide) hM2.1 hM2.2.1 ec2 ?_
      refine zF_iload_n 34 dX12_layRoster_33 rfl rfl ?_
      refine zF_iastore 35 dX12_layRoster_34 rfl (zM_9 hM2).2.2 (zM_9 hM2).2.1 (by omega) (by omega) ?_
      refine zF_aload_n 36 dX12_layRoster_35 rfl rfl ?_
      refine zF_dup 37 dX12_layRoster_36 rfl rfl ?_
      refine zF_getI 40 dX12_layRoster_37 rfl gX12_199 (by decide) (by decide) hM2.1 hM2.2.1 (zMo_AF (j := 9) ec2 hM2 (by decide) zMo_h1) ?_
      refine zF_iconst 41 dX12_layRoster_40 rfl ?_
      refine zF_iadd 42 dX12_layRoster_41 rfl ?_
      refine zF_putI 45 dX12_layRoster_42 rfl pX12_layRoster_199 (Or.inl rfl) hM2.1 hM2.2.1 ?_
      refine zF_iinc 48 (ls' := [(2, zI (((x : Nat) : Int) + 1)), (0, zR hm), (1, zI h)]) dX12_layRoster_45 rfl rfl rfl (by decide) rfl ?_
      refine zF_goto 7 dX12_layRoster_48 rfl ?_
      exact zF_locs (ls' := [(2, zI (((x + 1) : Nat) : Int)), (0, zR hm), (1, zI h)]) ⟨zlI rfl (by first | rfl | omega | (push_cast; omega) | exact congrArg (_ + ·) (zbT (by assumption)) | exact congrArg (_ + ·) (zbF (by assumption)) | exact congrArg (_ + ·) (zbT (by omega)) | exact congrArg (_ + ·) (zbF (by omega)) | exact congrArg (_ + ·) (if_pos (by omega)).symm | exact congrArg (_ + ·) (if_neg (by omega)).symm | exact (if_pos (by omega)).symm | exact (if_neg (by omega)).symm | exact zsub_s (if_pos (by omega)).symm | exact zsub_s0 (if_neg (by omega)).symm | exact zadd0 (if_neg (by omega)).symm | exact zadd0 (zbF (by omega)) | exact (Int.sub_zero _).symm), rfl, rfl, trivial⟩ (ih7 (x + 1) _ (by omega) (⟨by omega, zFr_si (Or.inl ⟨rfl, rfl⟩) (zFr_si (Or.inr rfl) fr2), by rw [zsi_same, mCn_s, ← zbT (by omega)], rk_step n9 (by omega) p2⟩))
theorem zFr_NR (hM : zMo σ hm A) {σ2 : zMem} (hN : zia σ (A 0) = N) (f : zFr (fun y j => (y = hm ∧ j = 12) ∨ y = A 9) σ σ2) : zia σ2 (A 0) = N := (f.at fun j q => q.elim (fun q => zMo_hm1 hM (k := 0) (by decide) zMo_h1 q.1) (zMo_ne hM (j := 0) (k := 9) (by decide) (by decide) (by decide))).trans hN
theorem nRS (hM : zMo σ hm A) {j : Int} (h : j ≠ 12) : ¬ ((hm = hm ∧ j = 12) ∨ hm = A 9) := fun q => q.elim (fun q => h q.2) (fun q => zMo_hm1 hM (k := 9) (by decide) zMo_h1 q.symm)
theorem mSc_frR {σ1 σ2 : zMem} (h : zFr (mSc hm A) σ σ1) (k : zFr (fun y j => (y = hm ∧ j = 12) ∨ y = A 9) σ1 σ2) : zFr (mSc hm A) σ σ2 := h.tr (k.wk fun y j q => q.elim (fun q => Or.inl ⟨q.1, Or.inr (Or.inl q.2)⟩) (fun q => Or.inr (Or.inr (Or.inr (Or.inl q)))))
theorem zt_X12_screensIn {h : Int} (hM : zMo σ hm A) (hN : zia σ (A 0) = N) (hV : mV N) (hQ : mC4 N) (zrh : zrg h) : zE G mX12_screensIn (d + 5) [zR hm, zI h] σ (fun ro σ1 => ro = .inl (some (zI (mCn N h (nS N)))) ∧ zFr (fun y j => (y = hm ∧ j = 12) ∨ y = A 9) σ σ1 ∧ True) := by
  refine zE_of rfl (by simp [zcat]) (Nat.le_of_ble_eq_true rfl) ?_
  show zF G mX12_screensIn (d + 5) 0 [(0, zR hm), (1, zI h)] [] σ _
  have hb := hV.b
  have hn := hV.n
  refine zF_aload_n 1 dX12_screensIn_0 rfl rfl ?_
  refine zF_iload_n 2 dX12_screensIn_1 rfl rfl ?_
  refine zF_callV 5 (d2 := (d + 4)) (as := [zI h]) dX12_screensIn_2 rfl kX12_211 iX12_layRoster (ci := 12) rfl eX12_layRoster (Nat.le_refl _) hM.1 hM.2.1 rfl rfl (Nat.le_of_ble_eq_true rfl) (zE.mono (zt_X12_layRoster hM hN hV hQ.c (by first | decide | assumption | exact hb _ | exact mSh_rg hb _ _ | exact zb_rg _ | (constructor <;> omega))) fun ro σa1 hh1 => ?_)
  obtain ⟨er1, fr1, p1⟩ := hh1
  subst er1
  refine ⟨fr1.1, ?_⟩
  show zF G mX12_screensIn (d + 5) 5 [(0, zR hm), (1, zI h)] [] σa1 _
  have hMa1 := zMo_f2 fr1 hM
  have hNa1 : zia σa1 (A 0) = N := zFr_NR (σ := σ) hM hN fr1
  refine zF_aload_n 6 dX12_screensIn_5 rfl rfl ?_
  refine zF_getI 9 dX12_screensIn_6 rfl gX12_199 (by decide) (by decide) hMa1.1 hMa1.2.1 p1.1 ?_
  exact zF_ireturn dX12_screensIn_9 rfl (⟨rfl, fr1, trivial⟩)
theorem zt_X12_house {h w : Int} (hM : zMo σ hm A) (hN : zia σ (A 0) = N) (hV : mV N) (hW : mW N) (hQ : mQ N) (zrh : zrg h) (zrw : zrg w) : zE G mX12_house (d + 12) [zR hm, zI h, zI w] σ (mop (if 0 ≤ h ∧ h < N 0 then if 0 ≤ w ∧ w ≤ 5 then 0 else 1 else 1) (sHouse N h w) hm A σ) := by
  refine zE_of rfl (by simp [zcat]) (Nat.le_of_ble_eq_true rfl) ?_
  show zF G mX12_house (d + 12) 0 [(0, zR hm), (1, zI h), (2, zI w)] [] σ _
  have hb := hV.b
  have hn := hV.n
  refine zF_aload_n 1 dX12_house_0 rfl rfl ?_
  refine zF_iconst 2 dX12_house_1 rfl ?_
  refine zF_putI 5 dX12_house_2 rfl pX12_house_89 (Or.inl rfl) hM.1 hM.2.1 ?_
  refine zF_aload_n 6 dX12_house_5 rfl rfl ?_
  refine zF_iload_n 7 dX12_house_6 rfl rfl ?_
  refine zF_callVi 10 (d2 := (d + 11)) (as := [zI h]) dX12_house_7 rfl kX12_241 iX12_isHouse (ci := 12) rfl eX12_isHouse (Nat.le_refl _) hM.1 hM.2.1 rfl rfl (Nat.le_of_ble_eq_true rfl) (zn_X12_isHouse hM (zMo_hN (k := 0) hN hM (by decide) zMo_h1) (by first | decide | assumption | exact hb _ | exact mSh_rg hb _ _ | exact zb_rg _ | (constructor <;> omega)) (by omega) (by omega)) ?_
  refine zF_ifb_ne 19 13 dX12_house_10 rfl rfl (fun c1 => ?_) (fun c1 => ?_)
  · refine zF_aload_n 20 dX12_house_19 rfl rfl ?_
    refine zF_callV 23 (d2 := (d + 11)) (as := []) dX12_house_20 rfl kX12_244 iX12_layWeek (ci := 12) rfl eX12_layWeek (Nat.le_refl _) hM.1 hM.2.1 rfl rfl (Nat.le_of_ble_eq_true rfl) (zE.mono (zt_X12_layWeek hM (zMo_hN (k := 0) hN hM (by decide) zMo_h1) hV hW) fun ro σa1 hh1 => ?_)
    obtain ⟨er1, fr1, p1⟩ := hh1
    subst er1
    refine ⟨fr1.1, ?_⟩
    show zF G mX12_house (d + 12) 23 [(0, zR hm), (1, zI h), (2, zI w)] [] σa1 _
    have hMa1 := zMo_f2 fr1 hM
    have hNa1 : zia σa1 (A 0) = N := zFr_N (σ := (zsi σ hm ((5 : Nat) : Int) 0)) hM (zMo_hN (k := 0) hN hM (by decide) zMo_h1) fr1
    have hga1 := gOK_V hV p1
    refine zF_iload_n 24 dX12_house_23 rfl rfl ?_
    rcases Decidable.em (w = 0) with sw2 | sw2x0
    · refine zF_swIn 64 dX12_house_24 (by first | decide | assumption | exact hb _ | exact mSh_rg hb _ _ | exact zb_rg _ | (constructor <;> omega)) (by omega) (by omega) (by rw [sw2]; rfl) rfl ?_
      refine zF_aload_n 65 dX12_house_64 rfl rfl ?_
      refine zF_iload_n 66 dX12_house_65 rfl rfl ?_
      refine zF_iload_n 67 dX12_house_66 rfl rfl ?_
      refine zF_callVi 70 (d2 := (d + 11)) (as := [zI h, zI w]) dX12_house_67 rfl kX12_122 iX12_ofHouse (ci := 12) rfl eX12_ofHouse (Nat.le_refl _) hMa1.1 hMa1.2.1 rfl rfl (Nat.le_of_ble_eq_true rfl) (zn_X12_ofHouse hMa1 hNa1 (by omega) (by omega)) ?_
      exact zF_ireturn dX12_house_70 rfl (mopR (mSc_fr78 (mSc_hm5 zFr.rf) fr1) (zFr_F fr1 (n78 hM (j := 0)) (zsi_same _ _ _ _)) (by repeat (first | rw [if_pos (by omega)] | rw [if_neg (by omega)])) (by unfold sHouse; (repeat (first | rw [if_pos (by omega)] | rw [if_neg (by omega)])); first | done | rfl | (congr 1)))
    rcases Decidable.em (w = 1) with sw2 | sw2x1
    · refine zF_swIn 64 dX12_house_24 (by first | decide | assumption | exact hb _ | exact mSh_rg hb _ _ | exact zb_rg _ | (constructor <;> omega)) (by omega) (by omega) (by rw [sw2]; rfl) rfl ?_
      refine zF_aload_n 65 dX12_house_64 rfl rfl ?_
      refine zF_iload_n 66 dX12_house_65 rfl rfl ?_
      refine zF_iload_n 67 dX12_house_66 rfl rfl ?_
      refine zF_callVi 70 (d2 := (d + 11)) (as := [zI h, zI w]) dX12_house_67 rfl kX12_122 iX12_ofHouse (ci := 12) rfl eX12_ofHouse (Nat.le_refl _) hMa1.1 hMa1.2.1 rfl rfl (Nat.le_of_ble_eq_true rfl) (zn_X12_ofHouse hMa1 hNa1 (by omega) (by omega)) ?_
      exact zF_ireturn dX12_house_70 rfl (mopR (mSc_fr78 (mSc_hm5 zFr.rf) fr1) (zFr_F fr1 (n78 hM (j := 0)) (zsi_same _ _ _ _)) (by repeat (first | rw [if_pos (by omega)] | rw [if_neg (by omega)])) (by unfold sHouse; (repeat (first | rw [if_pos (by omega)] | rw [if_neg (by omega)])); first | done | rfl | (congr 1)))
    rcases Decidable.em (w = 2) with sw2 | sw2x2
    · refine zF_swIn 71 dX12_house_24 (by first | decide | assumption | exact hb _ | exact mSh_rg hb _ _ | exact zb_rg _ | (constructor <;> omega)) (by omega) (by omega) (by rw [sw2]; rfl) rfl ?_
      refine zF_aload_n 72 dX12_house_71 rfl rfl ?_
      refine zF_iload_n 73 dX12_house_72 rfl rfl ?_
      refine zF_callV 76 (d2 := (d + 11)) (as := [zI h]) dX12_house_73 rfl kX12_247 iX12_screensIn (ci := 12) rfl eX12_screensIn (Nat.le_refl _) hMa1.1 hMa1.2.1 rfl rfl (Nat.le_of_ble_eq_true rfl) (zE.mono (zt_X12_screensIn hMa1 hNa1 hV hQ.c (by first | decide | assumption | exact hb _ | exact mSh_rg hb _ _ | exact zb_rg _ | (constructor <;> omega))) fun ro σa2 hh2 => ?_)
      obtain ⟨er2, fr2, _p2⟩ := hh2
      subst er2
      refine ⟨fr2.1, ?_⟩
      show zF G mX12_house (d + 12) 76 [(0, zR hm), (1, zI h), (2, zI w)] [zI (mCn N h (nS N))] σa2 _
      have hMa2 := zMo_f2 fr2 hMa1
      have hNa2 : zia σa2 (A 0) = N := zFr_NR (σ := σa1) hMa1 hNa1 fr2
      exact zF_ireturn dX12_house_76 rfl (mopR (mSc_frR (mSc_fr78 (mSc_hm5 zFr.rf) fr1) fr2) (zFr_F fr2 (nRS hMa1 (by decide)) (zFr_F fr1 (n78 hM (j := 0)) (zsi_same _ _ _ _))) (by repeat (first | rw [if_pos (by omega)] | rw [if_neg (by omega)])) (by unfold sHouse; (repeat (first | rw [if_pos (by omega)] | rw [if_neg (by omega)])); first | done | rfl))
    rcases Decidable.em (w = 3) with sw2 | sw2x3
    · refine zF_swIn 77 dX12_house_24 (by first | decide | assumption | exact hb _ | exact mSh_rg hb _ _ | exact zb_rg _ | (constructor <;> omega)) (by omega) (by omega) (by rw [sw2]; rfl) rfl ?_
      refine zF_aload_n 78 dX12_house_77 rfl rfl ?_
      refine zF_iload_n 79 dX12_house_78 rfl rfl ?_
      refine zF_iconst 80 dX12_house_79 rfl ?_
      refine zF_callVi 83 (d2 := (d + 11)) (as := [zI h, zI (-1)]) dX12_house_80 rfl kX12_187 iX12_takingsIn (ci := 12) rfl eX12_takingsIn (Nat.le_refl _) hMa1.1 hMa1.2.1 rfl rfl (Nat.le_of_ble_eq_true rfl) (zn_X12_takingsIn hMa1 hNa1 rfl hV (by first | decide | assumption | exact hb _ | exact mSh_rg hb _ _ | exact zb_rg _ | (constructor <;> omega)) (by first | decide | assumption | exact hb _ | exact mSh_rg hb _ _ | exact zb_rg _ | (constructor <;> omega))) ?_
      exact zF_ireturn dX12_house_83 rfl (mopR (mSc_fr78 (mSc_hm5 zFr.rf) fr1) (zFr_F fr1 (n78 hM (j := 0)) (zsi_same _ _ _ _)) (by repeat (first | rw [if_pos (by omega)] | rw [if_neg (by omega)])) (by unfold sHouse; (repeat (first | rw [if_pos (by omega)] | rw [if_neg (by omega)])); exact gIn_house hV p1 (by omega)))
    rcases Decidable.em (w = 4) with sw2 | sw2x4
    · refine zF_swIn 84 dX12_house_24 (by first | decide | assumption | exact hb _ | exact mSh_rg hb _ _ | exact zb_rg _ | (constructor <;> omega)) (by omega) (by omega) (by rw [sw2]; rfl) rfl ?_
      refine zF_aload_n 85 dX12_house_84 rfl rfl ?_
      refine zF_iload_n 86 dX12_house_85 rfl rfl ?_
      refine zF_callVi 89 (d2 := (d + 11)) (as := [zI h]) dX12_house_86 rfl kX12_250 iX12_sharesIn (ci := 12) rfl eX12_sharesIn (Nat.le_refl _) hMa1.1 hMa1.2.1 rfl rfl (Nat.le_of_ble_eq_true rfl) (zn_X12_sharesIn hMa1 hNa1 rfl hV hga1 (by omega) (by omega)) ?_
      exact zF_ireturn dX12_house_89 rfl (mopR (mSc_fr78 (mSc_hm5 zFr.rf) fr1) (zFr_F fr1 (n78 hM (j := 0)) (zsi_same _ _ _ _)) (by repeat (first | rw [if_pos (by omega)] | rw [if_neg (by omega)])) (by unfold sHouse; (repeat (first | rw [if_pos (by omega)] | rw [if_neg (by omega)])); exact gShares_eq hV p1 (by omega)))
    rcases Decidable.em (w = 5) with sw2 | sw2x5
    · refine zF_swIn 90 dX12_house_24 (by first | decide | assumption | exact hb _ | exact mSh_rg hb _ _ | exact zb_rg _ | (constructor <;> omega)) (by omega) (by omega) (by rw [sw2]; rfl) rfl ?_
      refine zF_aload_n 91 dX12_house_90 rfl rfl ?_
      refine zF_iload_n 92 dX12_house_91 rfl rfl ?_
      refine zF_iconst 93 dX12_house_92 rfl ?_
      refine zF_callVi 96 (d2 := (d + 11)) (as := [zI h, zI (-1)]) dX12_house_93 rfl kX12_187 iX12_takingsIn (ci := 12) rfl eX12_takingsIn (Nat.le_refl _) hMa1.1 hMa1.2.1 rfl rfl (Nat.le_of_ble_eq_true rfl) (zn_X12_takingsIn hMa1 hNa1 rfl hV (by first | decide | assumption | exact hb _ | exact mSh_rg hb _ _ | exact zb_rg _ | (constructor <;> omega)) (by first | decide | assumption | exact hb _ | exact mSh_rg hb _ _ | exact zb_rg _ | (constructor <;> omega))) ?_
      refine zF_aload_n 97 dX12_house_96 rfl rfl ?_
      refine zF_iload_n 98 dX12_house_97 rfl rfl ?_
      refine zF_callVi 101 (d2 := (d + 11)) (as := [zI h]) dX12_house_98 rfl kX12_250 iX12_sharesIn (ci := 12) rfl eX12_sharesIn (Nat.le_refl _) hMa1.1 hMa1.2.1 rfl rfl (Nat.le_of_ble_eq_true rfl) (zn_X12_sharesIn hMa1 hNa1 rfl hV hga1 (by omega) (by omega)) ?_
      refine zF_isub 102 dX12_house_101 rfl ?_
      refine zF_aload_n 103 dX12_house_102 rfl rfl ?_
      refine zF_iload_n 104 dX12_house_103 rfl rfl ?_
      refine zF_callVi 107 (d2 := (d + 11)) (as := [zI h]) dX12_house_104 rfl kX12_253 iX12_rentsIn (ci := 12) rfl eX12_rentsIn (Nat.le_refl _) hMa1.1 hMa1.2.1 rfl rfl (Nat.le_of_ble_eq_true rfl) (zn_X12_rentsIn hMa1 hNa1 hV (by first | decide | assumption | exact hb _ | exact mSh_rg hb _ _ | exact zb_rg _ | (constructor <;> omega))) ?_
      refine zF_isub 108 dX12_house_107 rfl ?_
      exact zF_ireturn dX12_house_108 rfl (mopR (mSc_fr78 (mSc_hm5 zFr.rf) fr1) (zFr_F fr1 (n78 hM (j := 0)) (zsi_same _ _ _ _)) (by repeat (first | rw [if_pos (by omega)] | rw [if_neg (by omega)])) (by unfold sHouse; (repeat (first | rw [if_pos (by omega)] | rw [if_neg (by omega)])); rw [gIn_house hV p1 (by omega), gShares_eq hV p1 (by omega), mRent_eq (by omega)]))
    refine zF_swOut 109 dX12_house_24 (by first | decide | assumption | exact hb _ | exact mSh_rg hb _ _ | exact zb_rg _ | (constructor <;> omega)) (by omega) rfl ?_
    refine zF_aload_n 110 dX12_house_109 rfl rfl ?_
    refine zF_iconst 111 dX12_house_110 rfl ?_
    refine zF_callV 114 (d2 := (d + 11)) (as := [zI 1]) dX12_house_111 rfl kX12_238 iX12_raise (ci := 12) rfl eX12_raise (Nat.le_refl _) hMa1.1 hMa1.2.1 rfl rfl (Nat.le_of_ble_eq_true rfl) (zE.mono (zt_X12_raise hMa1) fun ro σx3 hh3 => ?_)
    obtain ⟨er3, es3⟩ := hh3
    subst er3
    subst es3
    refine ⟨rfl, ?_⟩
    exact zF_ireturn dX12_house_114 rfl (mopT (mSc_hm5 (mSc_fr78 (mSc_hm5 zFr.rf) fr1)) (zsi_same _ _ _ _) (by repeat (first | rw [if_pos (by omega)] | rw [if_neg (by omega)])) (by decide))
  · refine zF_aload_n 14 dX12_house_13 rfl rfl ?_
    refine zF_iconst 15 dX12_house_14 rfl ?_
    refine zF_callV 18 (d2 := (d + 11)) (as := [zI 1]) dX12_house_15 rfl kX12_238 iX12_raise (ci := 12) rfl eX12_raise (Nat.le_refl _) hM.1 hM.2.1 rfl rfl (Nat.le_of_ble_eq_true rfl) (zE.mono (zt_X12_raise hM) fun ro σx4 hh4 => ?_)
    obtain ⟨er4, es4⟩ := hh4
    subst er4
    subst es4
    refine ⟨rfl, ?_⟩
    exact zF_ireturn dX12_house_18 rfl (mopT (mSc_hm5 (mSc_hm5 zFr.rf)) (zsi_same _ _ _ _) (by repeat (first | rw [if_pos (by omega)] | rw [if_neg (by omega)])) (by decide))
end ZR

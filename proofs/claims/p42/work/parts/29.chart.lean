/-! holding, the chart, the roster -/
section ZR
variable {G : zG} {d : Nat} {σ : zMem} {hm : Nat} {A : Nat → Nat} {B : Nat → Nat} {N : Int → Int}
theorem zmul_b {a b X Y : Int} (a0 : 0 ≤ a) (a1 : a ≤ X) (b0 : 0 ≤ b) (b1 : b ≤ Y) : 0 ≤ a * b ∧ a * b ≤ X * Y :=
  ⟨Int.mul_nonneg a0 b0, Int.mul_le_mul a1 b1 b0 (by omega)⟩
/-- how many of the first screens are in a house -/
def mCn (N : Int → Int) (h : Int) (n : Nat) : Int := zsum (fun s => zb (mS N s 0 = h)) n
/-- no house has more than four screens -/
def mC4 (N : Int → Int) : Prop := ∀ h, mCn N h (nS N) ≤ 4
theorem mC4.c (h : mC4 N) : ∀ h, mCn N h (nS N) ≤ 4 := h
/-- what is kept by every call beside mV, mW, mX -/
def mQ (N : Int → Int) : Prop :=
  (∀ h, mCn N h (nS N) ≤ 4) ∧
  (∀ f, 0 ≤ f → f < 6 → 0 ≤ mF N f 9 ∧ mF N f 9 ≤ 20790000 * N 3) ∧
  (∀ s, 0 ≤ s → s < N 1 → (mS N s 5 ≠ -1 → mS N s 4 ≠ mS N s 5) ∧ (mS N s 7 = 1 → 0 ≤ mS N s 4)) ∧
  (∀ h f, 0 ≤ h → h < N 0 → 0 ≤ f → f < N 2 → mNeed N h f ≤ mP N f h) ∧
  (∀ h f, 0 ≤ h → h < 4 → 0 ≤ f → f < 6 → mR N h f ≤ N 3) ∧
  (∀ k, 0 ≤ k → k < 4 → 0 ≤ N (208 + k) ∧ N (208 + k) ≤ 20790000 * N 3) ∧
  (∀ j, j < 0 ∨ 312 ≤ j → N j = 0)
theorem mQ.c (h : mQ N) : ∀ h, mCn N h (nS N) ≤ 4 := h.1
theorem mQ.t (h : mQ N) : ∀ f, 0 ≤ f → f < 6 → 0 ≤ mF N f 9 ∧ mF N f 9 ≤ 20790000 * N 3 := h.2.1
theorem mQ.s (h : mQ N) : ∀ s, 0 ≤ s → s < N 1 → (mS N s 5 ≠ -1 → mS N s 4 ≠ mS N s 5) ∧ (mS N s 7 = 1 → 0 ≤ mS N s 4) := h.2.2.1
theorem mQ.p (h : mQ N) : ∀ h f, 0 ≤ h → h < N 0 → 0 ≤ f → f < N 2 → mNeed N h f ≤ mP N f h := h.2.2.2.1
theorem mQ.r (h : mQ N) : ∀ h f, 0 ≤ h → h < 4 → 0 ≤ f → f < 6 → mR N h f ≤ N 3 := h.2.2.2.2.1
theorem mQ.a (h : mQ N) : ∀ k, 0 ≤ k → k < 4 → 0 ≤ N (208 + k) ∧ N (208 + k) ≤ 20790000 * N 3 := h.2.2.2.2.2.1
theorem mQ.z (h : mQ N) : ∀ j, j < 0 ∨ 312 ≤ j → N j = 0 := h.2.2.2.2.2.2
abbrev mHold (N : Int → Int) (s : Int) : Prop := mSh N s 6 ≠ -1 ∧ mH N (mS N s 0) 1 * (mCap N s * mPrice N s * (7 - mS N s 6)) ≤ vSn N s (mS N s 6) (7 - mS N s 6).toNat * mPrice N s * 100
theorem mH_b (hV : mV N) {s : Int} (s0 : 0 ≤ s) (s1 : s < 10) : 0 ≤ mH N (mS N s 0) 1 ∧ mH N (mS N s 0) 1 ≤ 100 := by
  have h1 := hV.s s s0 s1
  have h2 := hV.h (mS N s 0) (by omega) (by omega)
  omega
theorem hold_b {a b c e : Int} (a0 : 0 ≤ a ∧ a ≤ 100) (b0 : 0 ≤ b ∧ b ≤ 7) (c0 : 0 ≤ c ∧ c ≤ 3000) (e0 : 0 ≤ e ∧ e ≤ 99) : zrg (a * (b * c * e)) ∧ zrg (a * (c * e * b)) := by
  have q1 := zmul_b b0.1 b0.2 c0.1 c0.2
  have q2 := zmul_b q1.1 q1.2 e0.1 e0.2
  have q3 := zmul_b a0.1 a0.2 q2.1 q2.2
  have : c * e * b = b * c * e := by rw [Int.mul_comm, ← Int.mul_assoc]
  rw [this]
  constructor <;> constructor <;> omega
/-- the roster: the k-th screen of a house -/
def rkN (N : Int → Int) (h : Int) : Nat → Int → Int
  | 0, _ => 0
  | n + 1, k => if mS N n 0 = h ∧ mCn N h n = k then n else rkN N h n k
def rk (N : Int → Int) (h k : Int) : Int := rkN N h (nS N) k
theorem mCn_b (N : Int → Int) (h : Int) (n : Nat) : 0 ≤ mCn N h n ∧ mCn N h n ≤ n := by
  have a := zsum_ge (f := fun s => zb (mS N s 0 = h)) (n := n) (a := 0) fun i _ => zb_ge _
  have b := zsum_le (f := fun s => zb (mS N s 0 = h)) (n := n) (a := 1) fun i _ => zb_le _
  unfold mCn
  omega
theorem mCn_s (N : Int → Int) (h : Int) (n : Nat) : mCn N h (n + 1) = mCn N h n + zb (mS N n 0 = h) := rfl
theorem mCn_mono (N : Int → Int) (h : Int) {a b : Nat} (hab : a ≤ b) : mCn N h a ≤ mCn N h b := by
  induction b with
  | zero => have : a = 0 := by omega
            subst this; exact Int.le_refl _
  | succ b ih =>
    by_cases e : a = b + 1
    · subst e; exact Int.le_refl _
    · have := ih (by omega)
      have := zb_ge (mS N b 0 = h)
      rw [mCn_s]
      omega
theorem mCn_lt (N : Int → Int) (h : Int) {a b : Nat} (hab : a < b) (e : mS N a 0 = h) : mCn N h a < mCn N h b := by
  have := mCn_mono N h (a := a + 1) (b := b) hab
  rw [mCn_s, ← zbT e] at this
  omega
theorem rkN_p (N : Int → Int) (h : Int) : ∀ (n : Nat) (k : Int), 0 ≤ k → k < mCn N h n → ∃ s : Nat, rkN N h n k = s ∧ s < n ∧ mS N s 0 = h ∧ mCn N h s = k := by
  intro n
  induction n with
  | zero => intro k h0 h1; exact absurd h1 (by show ¬ k < 0; omega)
  | succ n ih =>
    intro k h0 h1
    unfold rkN
    by_cases c : mS N n 0 = h ∧ mCn N h n = k
    · rw [if_pos c]; exact ⟨n, rfl, by omega, c.1, c.2⟩
    · rw [if_neg c]
      rw [mCn_s] at h1
      have : k < mCn N h n := by
        by_cases e : mS N n 0 = h
        · rw [← zbT e] at h1
          have : mCn N h n ≠ k := fun z => c ⟨e, z⟩
          omega
        · rw [← zbF e] at h1; omega
      obtain ⟨s, a, b, e⟩ := ih k h0 this
      exact ⟨s, a, by omega, e⟩
theorem rk_p (N : Int → Int) (h : Int) {k : Int} (h0 : 0 ≤ k) (h1 : k < mCn N h (nS N)) : ∃ s : Nat, rk N h k = s ∧ s < nS N ∧ mS N s 0 = h ∧ mCn N h s = k := rkN_p N h _ k h0 h1
theorem rk_inj (N : Int → Int) (h : Int) {s : Nat} (hs : s < nS N) (e : mS N s 0 = h) : rk N h (mCn N h s) = s := by
  have key : ∀ n, s < n → rkN N h n (mCn N h s) = s := by
    intro n
    induction n with
    | zero => intro q; omega
    | succ n ih =>
      intro q
      unfold rkN
      by_cases c : mS N n 0 = h ∧ mCn N h n = mCn N h s
      · rw [if_pos c]
        by_cases z : s = n
        · rw [z]
        · have := mCn_lt N h (a := s) (b := n) (by omega) e
          omega
      · rw [if_neg c]
        refine ih ?_
        by_cases z : s = n
        · subst z; exact absurd ⟨e, rfl⟩ c
        · omega
  exact key _ hs
/-- the chart -/
def mRk (N : Int → Int) (f : Int) : Int := mF N f 9 + cFt N f
def mAh (N : Int → Int) (f : Int) (n : Nat) : Int := zsum (fun o => zb (mRk N f < mRk N o ∨ (mRk N o = mRk N f ∧ o < f))) n
def mChN (N : Int → Int) (p : Int) : Nat → Int
  | 0 => -1
  | n + 1 => if mChN N p n = -1 then (if mAh N n (nF N) = p then n else -1) else mChN N p n
def mCh (N : Int → Int) (p : Int) : Int := mChN N p (nF N)
theorem mChN_no {p : Int} : ∀ {n : Nat}, (∀ f : Nat, f < n → mAh N f (nF N) ≠ p) → mChN N p n = -1 := by
  intro n
  induction n with
  | zero => intro _; rfl
  | succ n ih =>
    intro h
    unfold mChN
    rw [if_pos (ih fun f hf => h f (by omega)), if_neg (h n (by omega))]
theorem mChN_at {p : Int} {f : Nat} : ∀ {n : Nat}, f < n → (∀ g : Nat, g < f → mAh N g (nF N) ≠ p) → mAh N f (nF N) = p → mChN N p n = f := by
  intro n
  induction n with
  | zero => intro h; omega
  | succ n ih =>
    intro h h1 h2
    unfold mChN
    by_cases e : f = n
    · subst e
      rw [if_pos (mChN_no h1), if_pos h2]
    · rw [ih (by omega) h1 h2, if_neg (by omega)]
theorem mAh_b (N : Int → Int) (f : Int) (n : Nat) : 0 ≤ mAh N f n ∧ mAh N f n ≤ n := by
  have a := zsum_ge (f := fun o => zb (mRk N f < mRk N o ∨ (mRk N o = mRk N f ∧ o < f))) (n := n) (a := 0) fun i _ => zb_ge _
  have b := zsum_le (f := fun o => zb (mRk N f < mRk N o ∨ (mRk N o = mRk N f ∧ o < f))) (n := n) (a := 1) fun i _ => zb_le _
  unfold mAh
  omega
theorem gOK_ex (hV : mV N) : gOK N (fun j => gv N (j / 7) (j % 7)) := fun s dd a b c e => by
  show gv N ((7 * s + dd) / 7) ((7 * s + dd) % 7) = _
  rw [show (7 * s + dd) / 7 = s by omega, show (7 * s + dd) % 7 = dd by omega]
theorem cFt_b (hV : mV N) (hW : mW N) {f : Int} (f0 : 0 ≤ f) : 0 ≤ cFt N f ∧ cFt N f ≤ 20790000 := by
  have hg := gOK_ex hV
  rw [← gIn_films hV hW hg f0]
  exact gIn_b hV (gOK_V hV hg) (-1) f (nS N) (nS_eq hV).2
theorem mRk_b (hV : mV N) (hW : mW N) (hQ : mQ N) {f : Int} (f0 : 0 ≤ f) (f1 : f < 6) : 0 ≤ mRk N f ∧ mRk N f ≤ 1300000000 := by
  have a := cFt_b hV hW f0
  have b := hQ.t f f0 f1
  have c := hV.n
  unfold mRk
  omega
/-- a booking in the numbers -/
theorem mBook_at (N : Int → Int) (s a b c e t : Int) (f : Int) (f0 : 0 ≤ f) (f1 : f < 8) : mS (mBook N s a b c e) t f = if t = s then (if f = 4 then a else if f = 5 then b else if f = 6 then c else if f = 7 then e else mS N s f) else mS N t f := by
  unfold mS mBook
  by_cases q : t = s
  · subst q
    rw [if_pos rfl]
    by_cases q4 : f = 4
    · subst q4
      rw [if_neg (by omega), if_neg (by omega), if_neg (by omega), if_pos rfl, if_pos rfl]
    by_cases q5 : f = 5
    · subst q5
      rw [if_neg (by omega), if_neg (by omega), if_pos rfl, if_neg (by omega), if_pos rfl]
    by_cases q6 : f = 6
    · subst q6
      rw [if_neg (by omega), if_pos rfl, if_neg (by omega), if_neg (by omega), if_pos rfl]
    by_cases q7 : f = 7
    · subst q7
      rw [if_pos rfl, if_neg (by omega), if_neg (by omega), if_neg (by omega), if_pos rfl]
    · rw [if_neg (by omega), if_neg (by omega), if_neg (by omega), if_neg (by omega), if_neg (by omega), if_neg (by omega), if_neg (by omega), if_neg (by omega)]
  · rw [if_neg q, if_neg (by omega), if_neg (by omega), if_neg (by omega), if_neg (by omega)]
theorem mBook_4 {N : Int → Int} {s a b c e : Int} : mS (mBook N s a b c e) s 4 = a := by rw [mBook_at N s a b c e s 4 (by omega) (by omega), if_pos rfl]; rfl
theorem mBook_5 {N : Int → Int} {s a b c e : Int} : mS (mBook N s a b c e) s 5 = b := by rw [mBook_at N s a b c e s 5 (by omega) (by omega), if_pos rfl]; rfl
theorem mBook_6 {N : Int → Int} {s a b c e : Int} : mS (mBook N s a b c e) s 6 = c := by rw [mBook_at N s a b c e s 6 (by omega) (by omega), if_pos rfl]; rfl
theorem mBook_7 {N : Int → Int} {s a b c e : Int} : mS (mBook N s a b c e) s 7 = e := by rw [mBook_at N s a b c e s 7 (by omega) (by omega), if_pos rfl]; rfl
theorem mBook_t {N : Int → Int} {s a b c e t k : Int} (ht : t ≠ s) (k0 : 0 ≤ k) (k1 : k < 8) : mS (mBook N s a b c e) t k = mS N t k := by rw [mBook_at N s a b c e t k k0 k1, if_neg ht]
theorem mBook_c {N : Int → Int} {s a b c e t k : Int} (k0 : 0 ≤ k) (k1 : k < 4) : mS (mBook N s a b c e) t k = mS N t k := by
  rw [mBook_at N s a b c e t k k0 (by omega)]
  by_cases z : t = s
  · subst z; rw [if_pos rfl, if_neg (by omega), if_neg (by omega), if_neg (by omega), if_neg (by omega)]
  · rw [if_neg z]
theorem mBook_o (N : Int → Int) {s a b c e : Int} (s0 : 0 ≤ s) (s1 : s < 10) {j : Int} (h : j < 14 ∨ 94 ≤ j) : mBook N s a b c e j = N j := by
  unfold mBook
  rw [if_neg (by omega), if_neg (by omega), if_neg (by omega), if_neg (by omega)]
theorem mBook_F (N : Int → Int) {s a b c e : Int} (s0 : 0 ≤ s) (s1 : s < 10) {f k : Int} (f0 : 0 ≤ f) (k0 : 0 ≤ k) : mF (mBook N s a b c e) f k = mF N f k := mBook_o N s0 s1 (Or.inr (by omega))
theorem mBook_H (N : Int → Int) {s a b c e : Int} (s0 : 0 ≤ s) (s1 : s < 10) {h k : Int} (h0 : 0 ≤ h) (h1 : h < 4) (k0 : 0 ≤ k) (k1 : k < 2) : mH (mBook N s a b c e) h k = mH N h k := mBook_o N s0 s1 (Or.inl (by omega))
theorem mBook_V (hV : mV N) {s a b c e : Int} (s0 : 0 ≤ s) (s1 : s < 10) (ha : -1 ≤ a ∧ a < 6) (hb : -1 ≤ b ∧ b < 6) (hc : 0 ≤ c ∧ c < 7) (he : e = 0 ∨ e = 1) : mV (mBook N s a b c e) := by
  have o : ∀ j, j < 14 ∨ 94 ≤ j → mBook N s a b c e j = N j := fun j h => mBook_o N s0 s1 h
  refine ⟨?_, fun j => ?_, fun t t0 t1 => ?_, fun f f0 f1 => ?_, fun f k f0 f1 k0 k1 => ?_, fun h h0 h1 => ?_, fun h f h0 h1 f0 f1 => ?_, fun f p f0 f1 p0 p1 => ?_⟩
  · rw [o 0 (by omega), o 1 (by omega), o 2 (by omega), o 3 (by omega)]; exact hV.n
  · unfold mBook
    repeat (first | exact hV.b j | (split; (constructor <;> omega)) | split)
  · have q := hV.s t t0 t1
    rw [mBook_c (by omega) (by omega), mBook_c (by omega) (by omega), mBook_c (by omega) (by omega), mBook_c (by omega) (by omega)]
    by_cases z : t = s
    · subst z
      rw [mBook_4, mBook_5, mBook_6, mBook_7]
      omega
    · rw [mBook_t z (by omega) (by omega), mBook_t z (by omega) (by omega), mBook_t z (by omega) (by omega), mBook_t z (by omega) (by omega)]
      exact q
  · have q := hV.f f f0 f1
    rw [mBook_F N s0 s1 f0 (by omega), mBook_F N s0 s1 f0 (by omega), mBook_F N s0 s1 f0 (by omega), mBook_F N s0 s1 f0 (by omega), mBook_F N s0 s1 f0 (by omega), o 2 (by omega), o 3 (by omega)]
    exact q
  · rw [mBook_F N s0 s1 f0 (by omega)]; exact hV.t f k f0 f1 k0 k1
  · rw [mBook_H N s0 s1 h0 h1 (by omega) (by omega), mBook_H N s0 s1 h0 h1 (by omega) (by omega)]; exact hV.h h h0 h1
  · unfold mR; rw [o _ (by omega), o 3 (by omega)]; exact hV.r h f h0 h1 f0 f1
  · unfold mP; rw [o _ (by omega)]; exact hV.p f p f0 f1 p0 p1
theorem mBook_W (hV : mV N) (hW : mW N) {s a b c e : Int} (s0 : 0 ≤ s) (s1 : s < 10) (ha : a < N 2) (hb : b < N 2) : mW (mBook N s a b c e) := fun t t0 t1 => by
  have o : ∀ j, j < 14 ∨ 94 ≤ j → mBook N s a b c e j = N j := fun j h => mBook_o N s0 s1 h
  rw [o 1 (by omega)] at t1
  have q := hW t t0 t1
  rw [o 0 (by omega), o 2 (by omega), mBook_c (by omega) (by omega)]
  by_cases z : t = s
  · subst z
    rw [mBook_4, mBook_5]
    exact ⟨q.1, ha, hb⟩
  · rw [mBook_t z (by omega) (by omega), mBook_t z (by omega) (by omega)]; exact q
end ZR

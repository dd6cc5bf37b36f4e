/-! programs of a house, as numbers -/
section ZB
variable {N : Int → Int}
def nn (N : Int → Int) (h : Int) : Nat := (mCn N h (nS N)).toNat
theorem nn_eq (hQ : mC4 N) (h : Int) : mCn N h (nS N) = (nn N h : Int) ∧ nn N h ≤ 4 := by
  have a := mCn_b N h (nS N)
  have b := hQ.c h
  unfold nn
  omega
def pRoom (N : Int → Int) (h : Int) (t : Int → Int) (f : Int) (m : Nat) : Int := zsum (fun k => if t k = f then mCap N (rk N h k) else 0) m
def pCnt (t : Int → Int) (f : Int) (m : Nat) : Int := zsum (fun k => zb (t k = f)) m
def pTk (N : Int → Int) (h : Int) (t : Int → Int) (f : Int) : Int := 7 * min (mDem N f) (pRoom N h t f (nn N h)) * mH N h 0
def pG1 (N : Int → Int) (h : Int) (lim t : Int → Int) (f : Int) : Int := if lim f < pCnt t f (nn N h) then -1 else if pCnt t f (nn N h) = 0 then 0 else pTk N h t f - mShare N h f (pTk N h t f)
def pGN (N : Int → Int) (h : Int) (lim t : Int → Int) : Nat → Int
  | 0 => 0
  | m + 1 => if pGN N h lim t m = -1 ∨ pG1 N h lim t m = -1 then -1 else pGN N h lim t m + pG1 N h lim t m
def pG (N : Int → Int) (h : Int) (lim t : Int → Int) : Int := pGN N h lim t (nF N)
theorem pRoom_b (hV : mV N) (h : Int) (t : Int → Int) (f : Int) (m : Nat) (hm : m ≤ nn N h) (h4 : m ≤ 4) : 0 ≤ pRoom N h t f m ∧ pRoom N h t f m ≤ 12000 := by
  have key : ∀ i : Nat, i < m → 0 ≤ mCap N (rk N h i) ∧ mCap N (rk N h i) ≤ 3000 := fun i hi => by
    have e : (i : Int) < mCn N h (nS N) := by unfold nn at hm; omega
    obtain ⟨s, e1, e2, -, -⟩ := rk_p N h (by omega) e
    have := nS_eq hV
    rw [e1]
    exact mCap_b hV (by omega) (by omega)
  have a := zsum_ge (f := fun k => if t k = f then mCap N (rk N h k) else 0) (n := m) (a := 0) fun i hi => by have := key i hi; split <;> omega
  have b := zsum_le (f := fun k => if t k = f then mCap N (rk N h k) else 0) (n := m) (a := 3000) fun i hi => by have := key i hi; split <;> omega
  unfold pRoom
  omega
theorem pCnt_b (t : Int → Int) (f : Int) (m : Nat) : 0 ≤ pCnt t f m ∧ pCnt t f m ≤ m := by
  have a := zsum_ge (f := fun k => zb (t k = f)) (n := m) (a := 0) fun i _ => zb_ge _
  have b := zsum_le (f := fun k => zb (t k = f)) (n := m) (a := 1) fun i _ => zb_le _
  unfold pCnt
  omega
theorem pTk_b (hV : mV N) (hQ : mC4 N) {h : Int} (h0 : 0 ≤ h) (h1 : h < 4) (t : Int → Int) {f : Int} (f0 : 0 ≤ f) (f1 : f < 6) : (0 ≤ min (mDem N f) (pRoom N h t f (nn N h)) ∧ min (mDem N f) (pRoom N h t f (nn N h)) ≤ 9999) ∧ 0 ≤ pTk N h t f ∧ pTk N h t f ≤ 6929307 := by
  have a := pRoom_b hV h t f (nn N h) (Nat.le_refl _) (nn_eq hQ h).2
  have b := mDem_b hV f0 f1 (mAge N f).toNat
  have c := hV.h h h0 h1
  have e : mDem N f = mDemN N f (mAge N f).toNat := rfl
  have q := zmul_b (a := 7 * min (mDem N f) (pRoom N h t f (nn N h))) (b := mH N h 0) (X := 69993) (Y := 99) (by omega) (by omega) (by omega) (by omega)
  unfold pTk
  omega
theorem mShare_le (hV : mV N) {h f t : Int} (h0 : 0 ≤ h) (h1 : h < 4) (f0 : 0 ≤ f) (f1 : f < N 2) (t0 : 0 ≤ t) (t1 : t ≤ 20790000) : 0 ≤ mShare N h f t ∧ mShare N h f t ≤ t := by
  have a := mIdx_b hV h0 h1 f0 f1
  have b := hV.f f f0 (by have := hV.n; omega)
  have c := mShare_p hV h0 h1 f0 f1 t0 t1
  have q : t * mF N f (4 + mIdx N h f) ≤ t * 90 := Int.mul_le_mul_of_nonneg_left (by omega) t0
  unfold mShare
  omega
theorem pG1_p (hV : mV N) (hQ : mC4 N) {h : Int} (h0 : 0 ≤ h) (h1 : h < 4) (lim t : Int → Int) {f : Int} (f0 : 0 ≤ f) (f1 : f < N 2) : (pG1 N h lim t f = -1 ∧ lim f < pCnt t f (nn N h)) ∨ (0 ≤ pG1 N h lim t f ∧ pG1 N h lim t f ≤ 6929307 ∧ ¬ lim f < pCnt t f (nn N h)) := by
  have hn := hV.n
  have a := pTk_b hV hQ h0 h1 t f0 (by omega)
  have b := mShare_le hV h0 h1 f0 f1 a.2.1 (by omega)
  unfold pG1
  by_cases c : lim f < pCnt t f (nn N h)
  · rw [if_pos c]; exact Or.inl ⟨rfl, c⟩
  · rw [if_neg c]
    split
    · exact Or.inr ⟨by omega, by omega, c⟩
    · exact Or.inr ⟨by omega, by omega, c⟩
theorem pGN_b (hV : mV N) (hQ : mC4 N) {h : Int} (h0 : 0 ≤ h) (h1 : h < 4) (lim t : Int → Int) {m : Nat} (hm : m ≤ nF N) : pGN N h lim t m = -1 ∨ (0 ≤ pGN N h lim t m ∧ pGN N h lim t m ≤ m * 6929307) := by
  have hf := nF_eq hV
  induction m with
  | zero => right; show (0 : Int) ≤ 0 ∧ (0 : Int) ≤ ((0 : Nat) : Int) * 6929307; omega
  | succ m ih =>
    have := ih (by omega)
    have q := pG1_p hV hQ h0 h1 lim t (f := (m : Int)) (by omega) (by omega)
    unfold pGN
    split
    · exact Or.inl rfl
    · right; push_cast; omega
theorem pGN_no {h : Int} {lim t : Int → Int} {m n : Nat} (h1 : pGN N h lim t m = -1) (hm : m ≤ n) : pGN N h lim t n = -1 := by
  induction n with
  | zero => have : m = 0 := by omega
            subst this; exact h1
  | succ n ih =>
    by_cases e : m = n + 1
    · subst e; exact h1
    · unfold pGN; rw [if_pos (Or.inl (ih (by omega)))]
theorem pGN_no1 {h : Int} {lim t : Int → Int} {m n : Nat} (h1 : pG1 N h lim t m = -1) (hm : m < n) : pGN N h lim t n = -1 := pGN_no (m := m + 1) (by unfold pGN; rw [if_pos (Or.inr h1)]) hm
theorem pG_congr {h : Int} {lim t u : Int → Int} (e : ∀ k : Nat, k < nn N h → t k = u k) : pG N h lim t = pG N h lim u := by
  have r : ∀ f, pRoom N h t f (nn N h) = pRoom N h u f (nn N h) := fun f => zsum_congr fun i hi => by rw [e i hi]
  have c : ∀ f, pCnt t f (nn N h) = pCnt u f (nn N h) := fun f => zsum_congr fun i hi => by rw [e i hi]
  have g : ∀ f, pG1 N h lim t f = pG1 N h lim u f := fun f => by unfold pG1 pTk; rw [r, c]
  unfold pG
  generalize nF N = m
  induction m with
  | zero => rfl
  | succ m ih => unfold pGN; rw [ih, g]
/-- a choice of films: what is fixed, what is open (-2) -/
def pVc (F : Int) (ch : Int → Int) (n : Nat) (t : Int → Int) : Prop := ∀ k : Nat, k < n → (ch k = -2 → -1 ≤ t k ∧ t k < F) ∧ (ch k ≠ -2 → t k = ch k)
def rR (F : Int) (ch t : Int → Int) : Nat → Int
  | 0 => 0
  | m + 1 => if ch m = -2 then rR F ch t m * (F + 1) + (t m + 1) else rR F ch t m
theorem rR_congr {F : Int} {ch t u : Int → Int} {n : Nat} (e : ∀ k : Nat, k < n → t k = u k) : rR F ch t n = rR F ch u n := by
  induction n with
  | zero => rfl
  | succ n ih => unfold rR; rw [ih fun k hk => e k (by omega), e n (by omega)]
theorem rR_lt {F : Int} (hF : 0 ≤ F) {ch t u : Int → Int} {k : Nat} : ∀ {n : Nat}, k < n → pVc F ch n t → pVc F ch n u → (∀ i : Nat, i < k → t i = u i) → t k < u k → rR F ch t n < rR F ch u n := by
  intro n
  induction n with
  | zero => intro h; omega
  | succ n ih =>
    intro hk ht hu e lt
    have qt := ht n (by omega)
    have qu := hu n (by omega)
    by_cases en : k = n
    · subst en
      have c : ch k = -2 := Decidable.not_not.mp fun c => by have := qt.2 c; have := qu.2 c; omega
      unfold rR
      rw [if_pos c, if_pos c, rR_congr e]
      omega
    · have i := ih (by omega) (fun k hk => ht k (by omega)) (fun k hk => hu k (by omega)) e lt
      unfold rR
      by_cases c : ch n = -2
      · rw [if_pos c, if_pos c]
        have a := qt.1 c
        have b := qu.1 c
        have m2 : (rR F ch t n + 1) * (F + 1) ≤ rR F ch u n * (F + 1) := Int.mul_le_mul_of_nonneg_right (by omega) (by omega)
        rw [Int.add_mul] at m2
        omega
      · rw [if_neg c, if_neg c]; exact i
theorem first_diff {t u : Int → Int} : ∀ {n : Nat}, (∀ k : Nat, k < n → t k = u k) ∨ ∃ k : Nat, k < n ∧ (∀ i : Nat, i < k → t i = u i) ∧ t k ≠ u k := by
  intro n
  induction n with
  | zero => exact Or.inl fun k hk => by omega
  | succ n ih =>
    rcases ih with e | ⟨k, k1, k2, k3⟩
    · by_cases c : t n = u n
      · exact Or.inl fun k hk => by
          by_cases z : k = n
          · subst z; exact c
          · exact e k (by omega)
      · exact Or.inr ⟨n, by omega, e, c⟩
    · exact Or.inr ⟨k, by omega, k2, k3⟩
theorem rR_inj {F : Int} (hF : 0 ≤ F) {ch t u : Int → Int} {n : Nat} (ht : pVc F ch n t) (hu : pVc F ch n u) (e : rR F ch t n = rR F ch u n) : ∀ k : Nat, k < n → t k = u k := by
  rcases first_diff (t := t) (u := u) (n := n) with h | ⟨k, k1, k2, k3⟩
  · exact h
  · exfalso
    rcases Int.lt_or_gt_of_ne k3 with z | z
    · have := rR_lt hF k1 ht hu k2 z; omega
    · have := rR_lt hF k1 hu ht (fun i hi => (k2 i hi).symm) z; omega
/-- the greatest gain, and the first program that has it -/
def pMax (N : Int → Int) (h : Int) (lim ch : Int → Int) (b : Int) : Prop := (∃ t, pVc (N 2) ch (nn N h) t ∧ pG N h lim t = b) ∧ ∀ t, pVc (N 2) ch (nn N h) t → pG N h lim t ≤ b
def pLx (N : Int → Int) (h : Int) (lim ch c : Int → Int) : Prop := pVc (N 2) ch (nn N h) c ∧ (∀ t, pVc (N 2) ch (nn N h) t → pG N h lim t ≤ pG N h lim c) ∧ ∀ t, pVc (N 2) ch (nn N h) t → pG N h lim t = pG N h lim c → rR (N 2) ch c (nn N h) ≤ rR (N 2) ch t (nn N h)
theorem pMax_u {h : Int} {lim ch : Int → Int} {b c : Int} (x : pMax N h lim ch b) (y : pMax N h lim ch c) : b = c := by
  obtain ⟨⟨t, t1, t2⟩, x2⟩ := x
  obtain ⟨⟨u, u1, u2⟩, y2⟩ := y
  have := x2 u u1
  have := y2 t t1
  omega
theorem pLx_u (hF : 0 ≤ N 2) {h : Int} {lim ch b c : Int → Int} (x : pLx N h lim ch b) (y : pLx N h lim ch c) : ∀ k : Nat, k < nn N h → b k = c k := by
  have a1 := x.2.1 c y.1
  have a2 := y.2.1 b x.1
  have e : pG N h lim b = pG N h lim c := by omega
  have b1 := x.2.2 c y.1 e.symm
  have b2 := y.2.2 b x.1 e
  exact rR_inj hF x.1 y.1 (by omega)
def ch0 (N : Int → Int) (h : Int) : Int → Int := fun k => if mS N (rk N h k) 7 = 1 then mS N (rk N h k) 4 else -2
noncomputable def bG (N : Int → Int) (h : Int) (lim : Int → Int) : Int := Classical.epsilon (fun b => pMax N h lim (ch0 N h) b)
noncomputable def bF (N : Int → Int) (h : Int) (lim : Int → Int) : Int → Int := Classical.epsilon (fun c => pLx N h lim (ch0 N h) c)
theorem bG_eq {h b : Int} {lim : Int → Int} (x : pMax N h lim (ch0 N h) b) : b = bG N h lim := pMax_u x (Classical.epsilon_spec (p := fun b => pMax N h lim (ch0 N h) b) ⟨b, x⟩)
theorem bF_eq (hF : 0 ≤ N 2) {h : Int} {lim c : Int → Int} (x : pLx N h lim (ch0 N h) c) : ∀ k : Nat, k < nn N h → c k = bF N h lim k := pLx_u hF x (Classical.epsilon_spec (p := fun c => pLx N h lim (ch0 N h) c) ⟨c, x⟩)
theorem bF_sp {h : Int} {lim c : Int → Int} (x : pLx N h lim (ch0 N h) c) : pLx N h lim (ch0 N h) (bF N h lim) := Classical.epsilon_spec (p := fun c => pLx N h lim (ch0 N h) c) ⟨c, x⟩
theorem rR_0 {F : Int} {ch t : Int → Int} {n : Nat} (h : ∀ k : Nat, k < n → ch k = -2 → t k = -1) : rR F ch t n = 0 := by
  induction n with
  | zero => rfl
  | succ n ih =>
    unfold rR
    rw [ih fun k hk => h k (by omega)]
    by_cases c : ch n = -2
    · rw [if_pos c, h n (by omega) c]; omega
    · rw [if_neg c]
end ZB

/-! programs of a house, as numbers -/
section ZB
variable {N : Int → Int}
def nn (N : Int → Int) (h : Int) : Nat := (mCn N h (nS N)).toNat
theorem nn_eq (hQ : mC4 N) (h : Int) : mCn N h (nS N) = (nn N h : Int) ∧ nn N h ≤ 4 := by
  have a := mCn_b N h (nS N)
  have b := hQ.c h
  unfold nn
  omega
def pRoom (N : Int → Int) (h : Int) (t : Int → Int) (f : Int) (m : Nat) : Int := zsum (fun k => if t k = f then mCap N (rk N h k) else 0) m
def pCnt (t : Int → Int) (f : Int) (m : Nat) : Int := zsum (fun k => zb (t k = f)) m
def pTk (N : Int → Int) (h : Int) (t : Int → Int) (f : Int) : Int := 7 * min (mDem N f) (pRoom N h t f (nn N h)) * mH N h 0
def pG1 (N : Int → Int) (h : Int) (lim t : Int → Int) (f : Int) : Int := if lim f < pCnt t f (nn N h) then -1 else if pCnt t f (nn N h) = 0 then 0 else pTk N h t f - mShare N h f (pTk N h t f)
def pGN (N : Int → Int) (h : Int) (lim t : Int → Int) : Nat → Int
  | 0 => 0
  | m + 1 => if pGN N h lim t m = -1 ∨ pG1 N h lim t m = -1 then -1 else pGN N h lim t m + pG1 N h lim t m
def pG (N : Int → Int) (h : Int) (lim t : Int → Int) : Int := pGN N h lim t (nF N)
theorem pRoom_b (hV : mV N) (h : Int) (t : Int → Int) (f : Int) (m : Nat) (hm : m ≤ nn N h) (h4 : m ≤ 4) : 0 ≤ pRoom N h t f m ∧ pRoom N h t f m ≤ 12000 := by
  have key : ∀ i : Nat, i < m → 0 ≤ mCap N (rk N h i) ∧ mCap N (rk N h i) ≤ 3000 := fun i hi => by
    have e : (i : Int) < mCn N h (nS N) := by unfold nn at hm; omega
    obtain ⟨s, e1, e2, -, -⟩ := rk_p N h (by omega) e
    have := nS_eq hV
    rw [e1]
    exact mCap_b hV (by omega) (by omega)
  have a := zsum_ge (f := fun k => if t k = f then mCap N (rk N h k) else 0) (n := m) (a := 0) fun i hi => by have := key i hi; split <;> omega
  have b := zsum_le (f := fun k => if t k = f then mCap N (rk N h k) else 0) (n := m) (a := 3000) fun i hi => by have := key i hi; split <;> omega
  unfold pRoom
  omega
theorem pCnt_b (t : Int → Int) (f : Int) (m : Nat) : 0 ≤ pCnt t f m ∧ pCnt t f m ≤ m := by
  have a := zsum_ge (f := fun k => zb (t k = f)) (n := m) (a := 0) fun i _ => zb_ge _
  have b := zsum_le (f := fun k => zb (t k = f)) (n := m) (a := 1) fun i _ => zb_le _
  unfold pCnt
  omega
theorem pTk_b (hV : mV N) (hQ : mC4 N) {h : Int} (h0 : 0 ≤ h) (h1 : h < 4) (t : Int → Int) {f : Int} (f0 : 0 ≤ f) (f1 : f < 6) : (0 ≤ min (mDem N f) (pRoom N h t f (nn N h)) ∧ min (mDem N f) (pRoom N h t f (nn N h)) ≤ 9999) ∧ 0 ≤ pTk N h t f ∧ pTk N h t f ≤ 6929307 := by
  have a := pRoom_b hV h t f (nn N h) (Nat.le_refl _) (nn_eq hQ h).2
  have b := mDem_b hV f0 f1 (mAge N f).toNat
  have c := hV.h h h0 h1
  have e : mDem N f = mDemN N f (mAge N f).toNat := rfl
  have q := zmul_b (a := 7 * min (mDem N f) (pRoom N h t f (nn N h))) (b := mH N h 0) (X := 69993) (Y := 99) (by omega) (by omega) (by omega) (by omega)
  unfold pTk
  omega
theorem mShare_le (hV : mV N) {h f t : Int} (h0 : 0 ≤ h) (h1 : h < 4) (f0 : 0 ≤ f) (f1 : f < N 2) (t0 : 0 ≤ t) (t1 : t ≤ 20790000) : 0 ≤ mShare N h f t ∧ mShare N h f t ≤ t := by
  have a := mIdx_b hV h0 h1 f0 f1
  have b := hV.f f f0 (by have := hV.n; omega)
  have c := mShare_p hV h0 h1 f0 f1 t0 t1
  have q : t * mF N f (4 + mIdx N h f) ≤ t * 90 := Int.mul_le_mul_of_nonneg_left (by omega) t0
  unfold mShare
  omega
theorem pG1_p (hV : mV N) (hQ : mC4 N) {h : Int} (h0 : 0 ≤ h) (h1 : h < 4) (lim t : Int → Int) {f : Int} (f0 : 0 ≤ f) (f1 : f < N 2) : (pG1 N h lim t f = -1 ∧ lim f < pCnt t f (nn N h)) ∨ (0 ≤ pG1 N h lim t f ∧ pG1 N h lim t f ≤ 6929307 ∧ ¬ lim f < pCnt t f (nn N h)) := by
  have hn := hV.n
  have a := pTk_b hV hQ h0 h1 t f0 (by omega)
  have b := mShare_le hV h0 h1 f0 f1 a.2.1 (by omega)
  unfold pG1
  by_cases c : lim f < pCnt t f (nn N h)
  · rw [if_pos c]; exact Or.inl ⟨rfl, c⟩
  · rw [if_neg c]
    split
    · exact Or.inr ⟨by omega, by omega, c⟩
    · exact Or.inr ⟨by omega, by omega, c⟩
theorem pGN_b (hV : mV N) (hQ : mC4 N) {h : Int} (h0 : 0 ≤ h) (h1 : h < 4) (lim t : Int → Int) {m : Nat} (hm : m ≤ nF N) : pGN N h lim t m = -1 ∨ (0 ≤ pGN N h lim t m ∧ pGN N h lim t m ≤ m * 6929307) := by
  have hf := nF_eq hV
  induction m with
  | zero => right; show (0 : Int) ≤ 0 ∧ (0 : Int) ≤ ((0 : Nat) : Int) * 6929307; omega
  | succ m ih =>
    have := ih (by omega)
    have q := pG1_p hV hQ h0 h1 lim t (f := (m : Int)) (by omega) (by omega)
    unfold pGN
    split
    · exact Or.inl rfl
    · right; push_cast; omega
theorem pGN_no {h : Int} {lim t : Int → Int} {m n : Nat} (h1 : pGN N h lim t m = -1) (hm : m ≤ n) : pGN N h lim t n = -1 := by
  induction n with
  | zero => have : m = 0 := by omega
            subst this; exact h1
  | succ n ih =>
    by_cases e : m = n + 1
    · subst e; exact h1
    · unfold pGN; rw [if_pos (Or.inl (ih (by omega)))]
theorem pGN_no1 {h : Int} {lim t : Int → Int} {m n : Nat} (h1 : pG1 N h lim t m = -1) (hm : m < n) : pGN N h lim t n = -1 := pGN_no (m := m + 1) (by unfold pGN; rw [if_pos (Or.inr h1)]) hm
theorem pG_congr {h : Int} {lim t u : Int → Int} (e : ∀ k : Nat, k < nn N h → t k = u k) : pG N h lim t = pG N h lim u := by
  have r : ∀ f, pRoom N h t f (nn N h) = pRoom N h u f (nn N h) := fun f => zsum_congr fun i hi => by rw [e i hi]
  have c : ∀ f, pCnt t f (nn N h) = pCnt u f (nn N h) := fun f => zsum_congr fun i hi => by rw [e i hi]
  have g : ∀ f, pG1 N h lim t f = pG1 N h lim u f := fun f => by unfold pG1 pTk; rw [r, c]
  unfold pG
  generalize nF N = m
  induction m with
  | zero => rfl
  | succ m ih => unfold pGN; rw [ih, g]
/-- a choice of films: what is fixed, what is open (-2) -/
def pVc (F : Int) (ch : Int → Int) (n : Nat) (t : Int → Int) : Prop := ∀ k : Nat, k < n → (ch k = -2 → -1 ≤ t k ∧ t k < F) ∧ (ch k ≠ -2 → t k = ch k)
def rR (F : Int) (ch t : Int → Int) : Nat → Int
  | 0 => 0
  | m + 1 => if ch m = -2 then rR F ch t m * (F + 1) + (t m + 1) else rR F ch t m
def rW (F : Int) (ch : Int → Int) : Nat → Int
  | 0 => 1
  | m + 1 => if ch m = -2 then rW F ch m * (F + 1) else rW F ch m
theorem pVc_congr {F : Int} {ch t u : Int → Int} {n : Nat} (e : ∀ k : Nat, k < n → t k = u k) (h : pVc F ch n t) : pVc F ch n u := fun k hk => by
  rw [← e k hk]; exact h k hk
theorem rR_congr {F : Int} {ch t u : Int → Int} {n : Nat} (e : ∀ k : Nat, k < n → t k = u k) : rR F ch t n = rR F ch u n := by
  induction n with
  | zero => rfl
  | succ n ih => unfold rR; rw [ih fun k hk => e k (by omega), e n (by omega)]
theorem rR_b {F : Int} (hF : 0 ≤ F) {ch t : Int → Int} {n : Nat} (h : pVc F ch n t) : 0 ≤ rR F ch t n ∧ rR F ch t n + 1 ≤ rW F ch n := by
  induction n with
  | zero => exact ⟨Int.le_refl _, Int.le_refl _⟩
  | succ n ih =>
    have i := ih fun k hk => h k (by omega)
    have q := h n (by omega)
    unfold rR rW
    by_cases c : ch n = -2
    · rw [if_pos c, if_pos c]
      have r := q.1 c
      have m1 : 0 ≤ rR F ch t n * (F + 1) := Int.mul_nonneg i.1 (by omega)
      have m2 : (rR F ch t n + 1) * (F + 1) ≤ rW F ch n * (F + 1) := Int.mul_le_mul_of_nonneg_right i.2 (by omega)
      rw [Int.add_mul] at m2
      omega
    · rw [if_neg c, if_neg c]; exact i
theorem rR_lt {F : Int} (hF : 0 ≤ F) {ch t u : Int → Int} {k : Nat} : ∀ {n : Nat}, k < n → pVc F ch n t → pVc F ch n u → (∀ i : Nat, i < k → t i = u i) → t k < u k → rR F ch t n < rR F ch u n := by
  intro n
  induction n with
  | zero => intro h; omega
  | succ n ih =>
    intro hk ht hu e lt
    have qt := ht n (by omega)
    have qu := hu n (by omega)
    by_cases en : k = n
    · subst en
      have c : ch k = -2 := Decidable.not_not.mp fun c => by have := qt.2 c; have := qu.2 c; omega
      unfold rR
      rw [if_pos c, if_pos c, rR_congr e]
      omega
    · have i := ih (by omega) (fun k hk => ht k (by omega)) (fun k hk => hu k (by omega)) e lt
      unfold rR
      by_cases c : ch n = -2
      · rw [if_pos c, if_pos c]
        have a := qt.1 c
        have b := qu.1 c
        have m2 : (rR F ch t n + 1) * (F + 1) ≤ rR F ch u n * (F + 1) := Int.mul_le_mul_of_nonneg_right (by omega) (by omega)
        rw [Int.add_mul] at m2
        omega
      · rw [if_neg c, if_neg c]; exact i
theorem first_diff {t u : Int → Int} : ∀ {n : Nat}, (∀ k : Nat, k < n → t k = u k) ∨ ∃ k : Nat, k < n ∧ (∀ i : Nat, i < k → t i = u i) ∧ t k ≠ u k := by
  intro n
  induction n with
  | zero => exact Or.inl fun k hk => by omega
  | succ n ih =>
    rcases ih with e | ⟨k, k1, k2, k3⟩
    · by_cases c : t n = u n
      · exact Or.inl fun k hk => by
          by_cases z : k = n
          · subst z; exact c
          · exact e k (by omega)
      · exact Or.inr ⟨n, by omega, e, c⟩
    · exact Or.inr ⟨k, by omega, k2, k3⟩
theorem rR_inj {F : Int} (hF : 0 ≤ F) {ch t u : Int → Int} {n : Nat} (ht : pVc F ch n t) (hu : pVc F ch n u) (e : rR F ch t n = rR F ch u n) : ∀ k : Nat, k < n → t k = u k := by
  rcases first_diff (t := t) (u := u) (n := n) with h | ⟨k, k1, k2, k3⟩
  · exact h
  · exfalso
    rcases Int.lt_or_gt_of_ne k3 with z | z
    · have := rR_lt hF k1 ht hu k2 z; omega
    · have := rR_lt hF k1 hu ht (fun i hi => (k2 i hi).symm) z; omega
theorem rR_max {F : Int} {ch t : Int → Int} {n : Nat} (h : ∀ k : Nat, k < n → ch k = -2 → t k = F - 1) : rR F ch t n + 1 = rW F ch n := by
  induction n with
  | zero => rfl
  | succ n ih =>
    have i := ih fun k hk => h k (by omega)
    unfold rR rW
    by_cases c : ch n = -2
    · rw [if_pos c, if_pos c, ← i, h n (by omega) c, Int.add_mul]; omega
    · rw [if_neg c, if_neg c]; exact i
theorem rR_next {F : Int} {ch t u : Int → Int} {k : Nat} (hk : ch k = -2) (e : ∀ i : Nat, i < k → u i = t i) (e2 : u k = t k + 1) : ∀ {n : Nat}, k < n → (∀ i : Nat, k < i → i < n → (ch i = -2 → t i = F - 1 ∧ u i = -1)) → rR F ch u n = rR F ch t n + 1 := by
  intro n
  induction n with
  | zero => intro h; omega
  | succ n ih =>
    intro h1 h2
    by_cases en : k = n
    · subst en
      unfold rR
      rw [if_pos hk, if_pos hk, rR_congr e, e2]
      omega
    · have i := ih (by omega) fun i a b => h2 i a (by omega)
      unfold rR
      by_cases c : ch n = -2
      · have q := h2 n (by omega) (by omega) c
        rw [if_pos c, if_pos c, i, q.1, q.2, Int.add_mul]; omega
      · rw [if_neg c, if_neg c]; exact i
/-- the greatest gain, and the first program that has it -/
def pMax (N : Int → Int) (h : Int) (lim ch : Int → Int) (b : Int) : Prop := (∃ t, pVc (N 2) ch (nn N h) t ∧ pG N h lim t = b) ∧ ∀ t, pVc (N 2) ch (nn N h) t → pG N h lim t ≤ b
def pLx (N : Int → Int) (h : Int) (lim ch c : Int → Int) : Prop := pVc (N 2) ch (nn N h) c ∧ (∀ t, pVc (N 2) ch (nn N h) t → pG N h lim t ≤ pG N h lim c) ∧ ∀ t, pVc (N 2) ch (nn N h) t → pG N h lim t = pG N h lim c → rR (N 2) ch c (nn N h) ≤ rR (N 2) ch t (nn N h)
theorem pMax_u {h : Int} {lim ch : Int → Int} {b c : Int} (x : pMax N h lim ch b) (y : pMax N h lim ch c) : b = c := by
  obtain ⟨⟨t, t1, t2⟩, x2⟩ := x
  obtain ⟨⟨u, u1, u2⟩, y2⟩ := y
  have := x2 u u1
  have := y2 t t1
  omega
theorem pLx_u (hF : 0 ≤ N 2) {h : Int} {lim ch b c : Int → Int} (x : pLx N h lim ch b) (y : pLx N h lim ch c) : ∀ k : Nat, k < nn N h → b k = c k := by
  have a1 := x.2.1 c y.1
  have a2 := y.2.1 b x.1
  have e : pG N h lim b = pG N h lim c := by omega
  have b1 := x.2.2 c y.1 e.symm
  have b2 := y.2.2 b x.1 e
  exact rR_inj hF x.1 y.1 (by omega)
def ch0 (N : Int → Int) (h : Int) : Int → Int := fun k => if mS N (rk N h k) 7 = 1 then mS N (rk N h k) 4 else -2
noncomputable def bG (N : Int → Int) (h : Int) (lim : Int → Int) : Int := Classical.epsilon (fun b => pMax N h lim (ch0 N h) b)
noncomputable def bF (N : Int → Int) (h : Int) (lim : Int → Int) : Int → Int := Classical.epsilon (fun c => pLx N h lim (ch0 N h) c)
theorem bG_eq {h b : Int} {lim : Int → Int} (x : pMax N h lim (ch0 N h) b) : b = bG N h lim := pMax_u x (Classical.epsilon_spec (p := fun b => pMax N h lim (ch0 N h) b) ⟨b, x⟩)
theorem bF_eq (hF : 0 ≤ N 2) {h : Int} {lim c : Int → Int} (x : pLx N h lim (ch0 N h) c) : ∀ k : Nat, k < nn N h → c k = bF N h lim k := pLx_u hF x (Classical.epsilon_spec (p := fun c => pLx N h lim (ch0 N h) c) ⟨c, x⟩)
theorem bF_sp {h : Int} {lim c : Int → Int} (x : pLx N h lim (ch0 N h) c) : pLx N h lim (ch0 N h) (bF N h lim) := Classical.epsilon_spec (p := fun c => pLx N h lim (ch0 N h) c) ⟨c, x⟩
/-- the loop over all programs -/
def pInv (N : Int → Int) (h : Int) (lim ch : Int → Int) (t best : Int → Int) (bg : Int) : Prop :=
  pVc (N 2) ch (nn N h) t ∧ -1 ≤ bg ∧ (∀ u, pVc (N 2) ch (nn N h) u → rR (N 2) ch u (nn N h) < rR (N 2) ch t (nn N h) → pG N h lim u ≤ bg) ∧
  (bg = -1 ∨ (pVc (N 2) ch (nn N h) best ∧ pG N h lim best = bg ∧ rR (N 2) ch best (nn N h) < rR (N 2) ch t (nn N h) ∧ ∀ u, pVc (N 2) ch (nn N h) u → rR (N 2) ch u (nn N h) < rR (N 2) ch t (nn N h) → pG N h lim u = bg → rR (N 2) ch best (nn N h) ≤ rR (N 2) ch u (nn N h)))
/-- the same behind the weighing of t -/
def pInw (N : Int → Int) (h : Int) (lim ch : Int → Int) (t best : Int → Int) (bg : Int) : Prop :=
  pVc (N 2) ch (nn N h) t ∧ -1 ≤ bg ∧ (∀ u, pVc (N 2) ch (nn N h) u → rR (N 2) ch u (nn N h) ≤ rR (N 2) ch t (nn N h) → pG N h lim u ≤ bg) ∧
  (bg = -1 ∨ (pVc (N 2) ch (nn N h) best ∧ pG N h lim best = bg ∧ rR (N 2) ch best (nn N h) ≤ rR (N 2) ch t (nn N h) ∧ ∀ u, pVc (N 2) ch (nn N h) u → rR (N 2) ch u (nn N h) ≤ rR (N 2) ch t (nn N h) → pG N h lim u = bg → rR (N 2) ch best (nn N h) ≤ rR (N 2) ch u (nn N h)))
theorem pInv_less (hF : 0 ≤ N 2) {h : Int} {lim ch t best : Int → Int} {bg : Int} (i : pInv N h lim ch t best bg) (c : pG N h lim t ≤ bg) : pInw N h lim ch t best bg := by
  obtain ⟨i1, i0, i2, i3⟩ := i
  have same : ∀ u, pVc (N 2) ch (nn N h) u → rR (N 2) ch u (nn N h) = rR (N 2) ch t (nn N h) → pG N h lim u = pG N h lim t := fun u hu e => pG_congr (rR_inj hF hu i1 e)
  refine ⟨i1, i0, fun u hu le => ?_, ?_⟩
  · by_cases e : rR (N 2) ch u (nn N h) = rR (N 2) ch t (nn N h)
    · rw [same u hu e]; exact c
    · exact i2 u hu (by omega)
  · rcases i3 with z | ⟨a, b, c2, e⟩
    · exact Or.inl z
    · refine Or.inr ⟨a, b, by omega, fun u hu le hg => ?_⟩
      by_cases e2 : rR (N 2) ch u (nn N h) = rR (N 2) ch t (nn N h)
      · omega
      · exact e u hu (by omega) hg
theorem pInv_more (hF : 0 ≤ N 2) {h : Int} {lim ch t best best' : Int → Int} {bg : Int} (i : pInv N h lim ch t best bg) (c : bg < pG N h lim t) (eb : ∀ k : Nat, k < nn N h → best' k = t k) : pInw N h lim ch t best' (pG N h lim t) := by
  obtain ⟨i1, i0, i2, i3⟩ := i
  have same : ∀ u, pVc (N 2) ch (nn N h) u → rR (N 2) ch u (nn N h) = rR (N 2) ch t (nn N h) → pG N h lim u = pG N h lim t := fun u hu e => pG_congr (rR_inj hF hu i1 e)
  refine ⟨i1, by omega, fun u hu le => ?_, Or.inr ⟨pVc_congr (fun k hk => (eb k hk).symm) i1, pG_congr eb, by rw [rR_congr eb]; exact Int.le_refl _, fun u hu le hg => ?_⟩⟩
  · by_cases e : rR (N 2) ch u (nn N h) = rR (N 2) ch t (nn N h)
    · rw [same u hu e]; exact Int.le_refl _
    · have := i2 u hu (by omega); omega
  · by_cases e : rR (N 2) ch u (nn N h) = rR (N 2) ch t (nn N h)
    · rw [rR_congr eb]; omega
    · have := i2 u hu (by omega); omega
theorem pInw_next {h : Int} {lim ch t t' best : Int → Int} {bg : Int} (i : pInw N h lim ch t best bg) (v : pVc (N 2) ch (nn N h) t') (e : rR (N 2) ch t' (nn N h) = rR (N 2) ch t (nn N h) + 1) : pInv N h lim ch t' best bg := by
  obtain ⟨i1, i0, i2, i3⟩ := i
  refine ⟨v, i0, fun u hu le => i2 u hu (by omega), ?_⟩
  rcases i3 with z | ⟨a, b, c, g⟩
  · exact Or.inl z
  · exact Or.inr ⟨a, b, by omega, fun u hu le hg => g u hu (by omega) hg⟩
theorem pInw_end (hV : mV N) (hQ : mC4 N) {h : Int} (h0 : 0 ≤ h) (h1 : h < 4) {lim ch t best : Int → Int} {bg : Int} (i : pInw N h lim ch t best bg) (e : rR (N 2) ch t (nn N h) + 1 = rW (N 2) ch (nn N h)) : pMax N h lim ch bg ∧ (0 ≤ bg → pLx N h lim ch best) := by
  have hF := hV.n
  obtain ⟨i1, i0, i2, i3⟩ := i
  have all : ∀ u, pVc (N 2) ch (nn N h) u → rR (N 2) ch u (nn N h) ≤ rR (N 2) ch t (nn N h) := fun u hu => by
    have := rR_b (F := N 2) (by omega) hu
    omega
  refine ⟨⟨?_, fun u hu => i2 u hu (all u hu)⟩, fun b0 => ?_⟩
  · rcases i3 with z | ⟨a, b, c, g⟩
    · refine ⟨t, i1, ?_⟩
      have q := i2 t i1 (Int.le_refl _)
      have := pGN_b hV hQ h0 h1 lim t (Nat.le_refl (nF N))
      unfold pG at q ⊢
      omega
    · exact ⟨best, a, b⟩
  · rcases i3 with z | ⟨a, b, c, g⟩
    · omega
    · exact ⟨a, fun u hu => by rw [b]; exact i2 u hu (all u hu), fun u hu hg => g u hu (all u hu) (by rw [hg, b])⟩
theorem pInv_0 {h : Int} {lim ch t best : Int → Int} (v : pVc (N 2) ch (nn N h) t) (hz : rR (N 2) ch t (nn N h) = 0) (hF : 0 ≤ N 2) : pInv N h lim ch t best (-1) :=
  ⟨v, by omega, fun u hu le => by have := (rR_b hF hu).1; omega, Or.inl rfl⟩
theorem rR_0 {F : Int} {ch t : Int → Int} {n : Nat} (h : ∀ k : Nat, k < n → ch k = -2 → t k = -1) : rR F ch t n = 0 := by
  induction n with
  | zero => rfl
  | succ n ih =>
    unfold rR
    rw [ih fun k hk => h k (by omega)]
    by_cases c : ch n = -2
    · rw [if_pos c, h n (by omega) c]; omega
    · rw [if_neg c]
end ZB

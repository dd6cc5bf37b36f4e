/-! the reference: programs -/
section ZQ4
variable {G : zG} {d : Nat} {σ : zMem} {hm : Nat} {A : Nat → Nat} {N : Int → Int}
theorem rk_b (hV : mV N) {h k : Int} (k0 : 0 ≤ k) (k1 : k < (nn N h : Int)) : 0 ≤ rk N h k ∧ rk N h k < N 1 ∧ mS N (rk N h k) 0 = h := by
  have hs := nS_eq hV
  obtain ⟨s, e1, e2, e3, -⟩ := rk_p N h (k := k) k0 (by unfold nn at k1; have := mCn_b N h (nS N); omega)
  rw [e1]
  exact ⟨by omega, by omega, e3⟩
theorem ch0_b (hV : mV N) {h k : Int} (k0 : 0 ≤ k) (k1 : k < (nn N h : Int)) : (mS N (rk N h k) 7 = 1 ∧ ch0 N h k = mS N (rk N h k) 4 ∧ -1 ≤ ch0 N h k ∧ ch0 N h k < 6) ∨ (mS N (rk N h k) 7 ≠ 1 ∧ ch0 N h k = -2) := by
  have hn := hV.n
  have b := rk_b hV k0 k1
  have q := hV.s (rk N h k) b.1 (by omega)
  unfold ch0
  by_cases c : mS N (rk N h k) 7 = 1
  · rw [if_pos c]; exact Or.inl ⟨c, rfl, by omega, by omega⟩
  · rw [if_neg c]; exact Or.inr ⟨c, rfl⟩
theorem tv_b (hV : mV N) {h : Int} {t : Int → Int} (v : pVc (N 2) (ch0 N h) (nn N h) t) {k : Int} (k0 : 0 ≤ k) (k1 : k < (nn N h : Int)) : -1 ≤ t k ∧ t k < 6 := by
  have hn := hV.n
  obtain ⟨n, rfl⟩ := Int.eq_ofNat_of_zero_le k0
  have q := v n (by omega)
  rcases ch0_b hV k0 k1 with ⟨_, b, c, e⟩ | ⟨_, b⟩
  · have := q.2 (by omega); omega
  · have := q.1 b; omega
/-- the next program -/
def pNx (N : Int → Int) (h : Int) (t t' : Int → Int) (b : Int) : Prop := (b = 1 ∧ pVc (N 2) (ch0 N h) (nn N h) t' ∧ rR (N 2) (ch0 N h) t' (nn N h) = rR (N 2) (ch0 N h) t (nn N h) + 1) ∨ (b = 0 ∧ rR (N 2) (ch0 N h) t (nn N h) + 1 = rW (N 2) (ch0 N h) (nn N h))
def pDn (N : Int → Int) (h : Int) (t t2 : Int → Int) (x : Nat) : Prop := (∀ j : Nat, j < x → t2 j = t j) ∧ ∀ j : Nat, x ≤ j → j < nn N h → (ch0 N h j = -2 → t j = N 2 - 1 ∧ t2 j = -1) ∧ (ch0 N h j ≠ -2 → t2 j = t j)
theorem pDn_end {h : Int} {t t2 : Int → Int} (p : pDn N h t t2 0) : rR (N 2) (ch0 N h) t (nn N h) + 1 = rW (N 2) (ch0 N h) (nn N h) := rR_max fun k hk c => ((p.2 k (by omega) hk).1 c).1
theorem pDn_held {h : Int} {t t2 : Int → Int} {x : Nat} (p : pDn N h t t2 (x + 1)) (c : ch0 N h x ≠ -2) : pDn N h t t2 x := ⟨fun j hj => p.1 j (by omega), fun j h1 h2 => by
  by_cases e : j = x
  · subst e; exact ⟨fun z => absurd z c, fun _ => p.1 j (by omega)⟩
  · exact p.2 j (by omega) h2⟩
theorem pGN_s {h : Int} {lim t : Int → Int} {x : Nat} (h1 : pGN N h lim t x ≠ -1) (h2 : pG1 N h lim t x ≠ -1) : pGN N h lim t x + pG1 N h lim t x = pGN N h lim t (x + 1) := by
  show _ = if _ then _ else _
  rw [if_neg (fun q => q.elim h1 h2)]
theorem pInv_b (hV : mV N) (hQ : mC4 N) {h : Int} (h0 : 0 ≤ h) (h1 : h < 4) {lim ch t best : Int → Int} {bg : Int} (i : pInv N h lim ch t best bg) : -1 ≤ bg ∧ bg ≤ 41575842 := by
  have hf := nF_eq hV
  have hn := hV.n
  refine ⟨i.2.1, ?_⟩
  rcases i.2.2.2 with z | ⟨_, b, _⟩
  · omega
  · have := pGN_b hV hQ h0 h1 lim best (Nat.le_refl (nF N))
    unfold pG at b
    omega
theorem pG_b (hV : mV N) (hQ : mC4 N) {h : Int} (h0 : 0 ≤ h) (h1 : h < 4) (lim t : Int → Int) : -1 ≤ pG N h lim t ∧ pG N h lim t ≤ 41575842 := by
  have hf := nF_eq hV
  have hn := hV.n
  have := pGN_b hV hQ h0 h1 lim t (Nat.le_refl (nF N))
  unfold pG
  omega
def iT (N : Int → Int) (h k : Int) : Int := if mS N (rk N h k) 7 = 1 then mS N (rk N h k) 4 else -1
theorem iT_v (hV : mV N) {h : Int} {t : Int → Int} (e : ∀ k : Int, 0 ≤ k → k < (nn N h : Int) → t k = iT N h k) : pVc (N 2) (ch0 N h) (nn N h) t ∧ rR (N 2) (ch0 N h) t (nn N h) = 0 := by
  have hn := hV.n
  refine ⟨fun k hk => ?_, rR_0 fun k hk c => ?_⟩
  · rw [e k (by omega) (by omega)]
    rcases ch0_b hV (h := h) (k := (k : Int)) (by omega) (by omega) with ⟨a, b, c, g⟩ | ⟨a, b⟩
    · exact ⟨fun z => by omega, fun _ => by unfold iT; rw [if_pos a, b]⟩
    · exact ⟨fun _ => by unfold iT; rw [if_neg a]; omega, fun z => absurd b z⟩
  · rw [e k (by omega) (by omega)]
    rcases ch0_b hV (h := h) (k := (k : Int)) (by omega) (by omega) with ⟨a, b, c2, g⟩ | ⟨a, b⟩
    · omega
    · unfold iT; rw [if_neg a]
end ZQ4

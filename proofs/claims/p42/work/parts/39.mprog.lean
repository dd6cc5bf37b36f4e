/-! the reference: programs -/
section ZQ4
variable {G : zG} {d : Nat} {σ : zMem} {hm : Nat} {A : Nat → Nat} {N : Int → Int}
theorem rk_b (hV : mV N) {h k : Int} (k0 : 0 ≤ k) (k1 : k < (nn N h : Int)) : 0 ≤ rk N h k ∧ rk N h k < N 1 ∧ mS N (rk N h k) 0 = h := by
  have hs := nS_eq hV
  obtain ⟨s, e1, e2, e3, -⟩ := rk_p N h (k := k) k0 (by unfold nn at k1; have := mCn_b N h (nS N); omega)
  rw [e1]
  exact ⟨by omega, by omega, e3⟩
theorem ch0_b (hV : mV N) {h k : Int} (k0 : 0 ≤ k) (k1 : k < (nn N h : Int)) : (mS N (rk N h k) 7 = 1 ∧ ch0 N h k = mS N (rk N h k) 4 ∧ -1 ≤ ch0 N h k ∧ ch0 N h k < 6) ∨ (mS N (rk N h k) 7 ≠ 1 ∧ ch0 N h k = -2) := by
  have hn := hV.n
  have b := rk_b hV k0 k1
  have q := hV.s (rk N h k) b.1 (by omega)
  unfold ch0
  by_cases c : mS N (rk N h k) 7 = 1
  · rw [if_pos c]; exact Or.inl ⟨c, rfl, by omega, by omega⟩
  · rw [if_neg c]; exact Or.inr ⟨c, rfl⟩
theorem pG_b (hV : mV N) (hQ : mC4 N) {h : Int} (h0 : 0 ≤ h) (h1 : h < 4) (lim t : Int → Int) : -1 ≤ pG N h lim t ∧ pG N h lim t ≤ 41575842 := by
  have hf := nF_eq hV
  have hn := hV.n
  have := pGN_b hV hQ h0 h1 lim t (Nat.le_refl (nF N))
  unfold pG
  omega
def iT (N : Int → Int) (h k : Int) : Int := if mS N (rk N h k) 7 = 1 then mS N (rk N h k) 4 else -1
theorem iT_v (hV : mV N) {h : Int} {t : Int → Int} (e : ∀ k : Int, 0 ≤ k → k < (nn N h : Int) → t k = iT N h k) : pVc (N 2) (ch0 N h) (nn N h) t ∧ rR (N 2) (ch0 N h) t (nn N h) = 0 := by
  have hn := hV.n
  refine ⟨fun k hk => ?_, rR_0 fun k hk c => ?_⟩
  · rw [e k (by omega) (by omega)]
    rcases ch0_b hV (h := h) (k := (k : Int)) (by omega) (by omega) with ⟨a, b, c, g⟩ | ⟨a, b⟩
    · exact ⟨fun z => by omega, fun _ => by unfold iT; rw [if_pos a, b]⟩
    · exact ⟨fun _ => by unfold iT; rw [if_neg a]; omega, fun z => absurd b z⟩
  · rw [e k (by omega) (by omega)]
    rcases ch0_b hV (h := h) (k := (k : Int)) (by omega) (by omega) with ⟨a, b, c2, g⟩ | ⟨a, b⟩
    · omega
    · unfold iT; rw [if_neg a]
end ZQ4

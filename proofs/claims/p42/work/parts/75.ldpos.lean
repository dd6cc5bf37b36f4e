/-! a clause keeps the numbers, and goes on -/
section ZLE
variable {t : Int → Int} {L : Nat} {s : tS} {D : Int → Int}
theorem tAdv_p (h : s.1 ≤ L) (h0 : s.2 = 0) (k : tk t L s.1 ≠ 0) : s.1 < (tAdv t L s).1 ∧ (tAdv t L s).1 ≤ L := by
  have a := tbg_b (t := t) h
  have b := te_b (t := t) h
  have c := b.2.2 k
  rw [tAdv_0 h0]
  exact ⟨by show s.1 < te t L s.1; omega, by show te t L s.1 ≤ L; omega⟩
theorem tHs_1 (h : s.1 ≤ L) : s.1 ≤ (tHs t L D s).1 ∧ (tHs t L D s).1 ≤ L := by
  unfold tHs
  split
  · rw [tFail_1]; omega
  · split
    · rw [tFail_1]; omega
    · split
      · exact tAdv_1 h
      · rw [tFail_1]; omega
theorem tIt_1 (h : s.1 ≤ L) {n : Nat} : s.1 ≤ (tIt t L s n).1 ∧ (tIt t L s n).1 ≤ L := by
  induction n with
  | zero => exact ⟨Nat.le_refl _, h⟩
  | succ n ih =>
    have a := tNumS_1 (t := t) (lo := 0) (hi := 90) ih.2
    exact ⟨by show s.1 ≤ (tNumS t L 0 90 (tIt t L s n)).1; omega, a.2⟩
theorem tIt_2 {n : Nat} (h : (tIt t L s n).2 = 0) : s.2 = 0 ∧ ∀ i, i < n → 0 ≤ tNumV t L 0 90 (tIt t L s i) ∧ tNumV t L 0 90 (tIt t L s i) ≤ 90 := by
  induction n with
  | zero => exact ⟨h, fun i hi => absurd hi (Nat.not_lt_zero _)⟩
  | succ n ih =>
    have a := tNumS_2 (t := t) (L := L) (s := tIt t L s n) (lo := 0) (hi := 90) h
    have b := ih a.1
    refine ⟨b.1, fun i hi => ?_⟩
    by_cases e : i = n
    · subst e; exact ⟨a.2.1, a.2.2.1⟩
    · exact b.2 i (by omega)
theorem tHs_2 (h : (tHs t L D s).2 = 0) : s.2 = 0 ∧ tk t L s.1 = 2 ∧ 0 ≤ tv t L s.1 ∧ tv t L s.1 ≤ D 0 - 1 ∧ mCn D (tv t L s.1) (nS D) < 4 := by
  unfold tHs at h
  by_cases c : tKd t L s ≠ 2
  · rw [if_pos c] at h; exact absurd h (tFail_2 (by decide))
  · rw [if_neg c] at h
    have c' : tKd t L s = 2 := Decidable.not_not.mp c
    have z := tKd_z (t := t) (L := L) (s := s) (by omega)
    by_cases c2 : tv t L s.1 < 0 ∨ D 0 - 1 < tv t L s.1
    · rw [if_pos c2] at h; exact absurd h (tFail_2 (by decide))
    · rw [if_neg c2] at h
      by_cases c3 : mCn D (tv t L s.1) (nS D) < 4
      · exact ⟨z, by rw [← tKd_0 z]; exact c', by omega, by omega, c3⟩
      · rw [if_neg c3] at h; exact absurd h (tFail_2 (by decide))
theorem tAdv_20 (h : (tAdv t L s).2 = 0) : s.2 = 0 := tAdv_2.symm.trans h
theorem tWd_k {w : List Int} (h : tWd t L w s) : tk t L s.1 ≠ 0 := by
  have z := tWd_0 h
  have k := h.1
  rw [tKd_0 z] at k
  omega
theorem ldB_p (h : s.1 ≤ L) (h0 : s.2 = 0) (e : (ldB t L (s, D)).1.2 = 0) : s.1 < (ldB t L (s, D)).1.1 ∧ (ldB t L (s, D)).1.1 ≤ L := by
  unfold ldB at e ⊢
  by_cases c1 : tWd t L (zsbi 1) s
  · rw [if_pos c1] at e ⊢
    rw [ldHouse_s] at e ⊢
    by_cases k : D 0 < 4
    · rw [if_pos k] at e ⊢
      have a := tAdv_p h h0 (tWd_k c1)
      have b := tNumS_1 (t := t) (lo := 1) (hi := 99) a.2
      have c := tNumS_1 (t := t) (lo := 1) (hi := 100) b.2
      omega
    · rw [if_neg k] at e; exact absurd e (tFail_2 (by decide))
  · rw [if_neg c1] at e ⊢
    by_cases c2 : tWd t L (zsbi 2) s
    · rw [if_pos c2] at e ⊢
      rw [ldScreen_s] at e ⊢
      by_cases k : D 1 < 10
      · rw [if_pos k] at e ⊢
        have a := tAdv_p h h0 (tWd_k c2)
        have b0 := tHs_1 (t := t) (D := D) a.2
        have b := tNumS_1 (t := t) (lo := 1) (hi := 500) b0.2
        have c := tNumS_1 (t := t) (lo := 1) (hi := 6) b.2
        have d := tNumS_1 (t := t) (lo := 0) (hi := 9999) c.2
        omega
      · rw [if_neg k] at e; exact absurd e (tFail_2 (by decide))
    · rw [if_neg c2] at e ⊢
      by_cases c3 : tWd t L (zsbi 3) s
      · rw [if_pos c3] at e ⊢
        by_cases k : D 2 < 6
        · have a := tAdv_p h h0 (tWd_k c3)
          have b := tNumS_1 (t := t) (lo := 0) (hi := 9999) a.2
          have c := tNumS_1 (t := t) (lo := 0) (hi := 100) b.2
          have d := tNumS_1 (t := t) (lo := 0) (hi := 9999) c.2
          have f := tIt_1 (t := t) d.2 (n := tmC t L (tNumS t L 0 9999 (tNumS t L 0 100 (tNumS t L 0 9999 (tAdv t L s)))))
          have g : (ldFilm t L (s, D)).1 = tIt t L (tNumS t L 0 9999 (tNumS t L 0 100 (tNumS t L 0 9999 (tAdv t L s)))) (tmC t L (tNumS t L 0 9999 (tNumS t L 0 100 (tNumS t L 0 9999 (tAdv t L s))))) := by
            unfold ldFilm; rw [if_pos k]
          rw [g]
          omega
        · rw [ldFilm_n k] at e; exact absurd e (tFail_2 (by decide))
      · rw [if_neg c3] at e ⊢
        by_cases c4 : tWd t L (zsbi 4) s
        · rw [if_pos c4] at e ⊢
          have a := tAdv_p h h0 (tWd_k c4)
          have b := tNumS_1 (t := t) (lo := 0) (hi := D 2 - 1) a.2
          unfold ldPrints ldPr
          dsimp only
          have c : (tNumS t L 0 (D 2 - 1) (tAdv t L s)).1 ≤ (if tWd t L (zsbi 5) (tNumS t L 0 (D 2 - 1) (tAdv t L s)) then tAdv t L (tNumS t L 0 (D 2 - 1) (tAdv t L s)) else tNumS t L 0 (D 0 - 1) (tNumS t L 0 (D 2 - 1) (tAdv t L s))).1 ∧ (if tWd t L (zsbi 5) (tNumS t L 0 (D 2 - 1) (tAdv t L s)) then tAdv t L (tNumS t L 0 (D 2 - 1) (tAdv t L s)) else tNumS t L 0 (D 0 - 1) (tNumS t L 0 (D 2 - 1) (tAdv t L s))).1 ≤ L := by
            split
            · exact tAdv_1 b.2
            · exact tNumS_1 b.2
          have d := tNumS_1 (t := t) (lo := 0) (hi := 9) c.2
          omega
        · rw [if_neg c4] at e ⊢
          have e' : (tNumS t L 0 999 (tWdS t L (zsbi 6) s)).2 = 0 := e
          have z := (tNumS_2 e').1
          unfold tWdS at z
          by_cases c5 : tWd t L (zsbi 6) s
          · have a := tAdv_p h h0 (tWd_k c5)
            have b := tNumS_1 (t := t) (lo := 0) (hi := 999) a.2
            have g : (ldFee t L (s, D)).1 = tNumS t L 0 999 (tAdv t L s) := by
              unfold ldFee tWdS; dsimp only; rw [if_pos c5]
            rw [g]
            omega
          · rw [if_neg c5] at z; exact absurd z (tFail_2 (by decide))
theorem ldC_p (h : s.1 ≤ L) (h0 : s.2 = 0) (e : (ldC t L (s, D)).1.2 = 0) : s.1 < (ldC t L (s, D)).1.1 ∧ (ldC t L (s, D)).1.1 ≤ L := by
  have e' : (tSgS t L 59 (ldB t L (s, D)).1).2 = 0 := e
  have a := ldB_p h h0 (tSgS_2 e')
  have b := tSgS_1 (t := t) (c := 59) a.2
  exact ⟨by show s.1 < (tSgS t L 59 (ldB t L (s, D)).1).1; omega, b.2⟩
end ZLE

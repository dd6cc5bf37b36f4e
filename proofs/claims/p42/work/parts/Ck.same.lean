/-! what was told and loaded is what the law has -/
section ZT9
variable {σ : zMem} {E : Nat → Nat} {D N : Int → Int}
theorem eO_ld (hN : dN N) (hv : ldV D) (hi : iV N (N 0).toNat (N 1).toNat (N 2).toNat D) (hp : iP N (N 2).toNat 0 D) (h4 : D 4 = N 4) (h : eO N σ E) : eO (ldN D) σ E := by
  have n := hN.1
  have z : ∀ j, 0 ≤ j → j < 312 → ldN D j = D j := fun j a b => if_pos ⟨a, b⟩
  obtain ⟨⟨d0, d1, d2⟩, -, cH, cS, cF⟩ := hi
  have m0 : ldN D 0 = N 0 := (z 0 (by omega) (by omega)).trans (by omega)
  have m1 : ldN D 1 = N 1 := (z 1 (by omega) (by omega)).trans (by omega)
  have m2 : ldN D 2 = N 2 := (z 2 (by omega) (by omega)).trans (by omega)
  have vn := hv.n
  refine ⟨by rw [m0, m1, m2]; exact h.1, ⟨h.i0.trans m0.symm, h.i1.trans m1.symm, h.i2.trans m2.symm, ?_, ?_, ?_⟩, fun x k a b c q => ?_, fun s k a b c q => ?_, fun f k a b c => ?_, fun f p a b c q => ?_, fun x f a b c q => ?_, fun k a b => ?_⟩
  · rw [h.i3, z 3 (by omega) (by omega)]; omega
  · rw [h.i4, z 4 (by omega) (by omega)]; omega
  · rw [h.i5, z 5 (by omega) (by omega)]; omega
  · rw [m0] at b
    rw [h.c6 x k a b c q]
    show N (6 + 2 * x + k) = ldN D (6 + 2 * x + k)
    rw [z _ (by omega) (by omega), cH _ (by omega) (by omega)]
  · rw [m1] at b
    rw [h.c7 s k a b c q]
    have q1 := hN.2.2.1 s a b
    have q2 := (hv.sc s a (by omega)).1 (by omega)
    show N (14 + 8 * s + k) = ldN D (14 + 8 * s + k)
    rw [z _ (by omega) (by omega)]
    unfold mS at q1 q2
    by_cases k4 : k < 4
    · rw [cS s k a (by omega) c k4]
    · have : k = 4 ∨ k = 5 ∨ k = 6 ∨ k = 7 := by omega
      rcases this with e | e | e | e <;> subst e <;> omega
  · rw [m2] at b
    have q1 := hN.2.2.2.1 f a b
    have q2 := hv.f f a (by omega)
    have q3 := q2.1 (by omega)
    have e3 : mF (ldN D) f 3 = mF N f 3 := by
      show ldN D (94 + 10 * f + 3) = N (94 + 10 * f + 3)
      rw [z _ (by omega) (by omega)]
      exact cF f 3 a (by omega) (by omega) (by have : N (94 + 10 * f + 3) = mF N f 3 := rfl; omega)
    rw [e3] at c
    rw [h.c8q f k a b c]
    show N (94 + 10 * f + k) = ldN D (94 + 10 * f + k)
    rw [z _ (by omega) (by omega)]
    rcases c with c | c | c
    · rw [cF f k a (by omega) c.1 (by have : N (94 + 10 * f + 3) = mF N f 3 := rfl; omega)]
    · subst c
      unfold mF at q1 q3
      omega
    · subst c
      have q9 := q2.2.2.1
      unfold mF at q1 q9
      omega
  · rw [m2] at b
    rw [m0] at q
    rw [h.c9 f p a b c q]
    obtain ⟨fn, ef⟩ := Int.eq_ofNat_of_zero_le a
    obtain ⟨pn, ep⟩ := Int.eq_ofNat_of_zero_le (show 0 ≤ p + 1 by omega)
    subst ef
    have g := (hp fn pn (by omega) (by omega)).1 ⟨Or.inl (by omega), by omega⟩
    show N (154 + 5 * (fn : Int) + p + 1) = ldN D (154 + 5 * (fn : Int) + p + 1)
    rw [z _ (by omega) (by omega), show 154 + 5 * (fn : Int) + p + 1 = 154 + 5 * (fn : Int) + (pn : Int) by omega, g]
  · rw [m0] at b
    rw [m2] at q
    rw [h.c10 x f a b c q, hN.2.2.2.2.2.1 x f a b c q]
    show 0 = ldN D (184 + 6 * x + f)
    rw [z _ (by omega) (by omega), hv.r _ (by omega) (by omega)]
  · rw [h.c11 k a b, hN.2.2.2.2.2.2.1 k a b, z _ (by omega) (by omega), hv.r _ (by omega) (by omega)]
end ZT9

/-! the law's first text, and the numbers that it says -/
section ZQJ
variable {t : Int → Int} {L : Nat}
def z37 : Int → Int := zcz fun _ => 0
def D37a : Int → Int := mSet (mSet (mSet z37 (6 + 2 * z37 0 + 0) ((2 : Nat) : Int)) (6 + 2 * z37 0 + 1) ((50 : Nat) : Int)) 0 (z37 0 + 1)
def D37b : Int → Int := mSet (mBook (mSet (mSet (mSet (mSet D37a (14 + 8 * D37a 1 + 0) ((0 : Nat) : Int)) (14 + 8 * D37a 1 + 1) ((10 : Nat) : Int)) (14 + 8 * D37a 1 + 2) ((1 : Nat) : Int)) (14 + 8 * D37a 1 + 3) ((5 : Nat) : Int)) (D37a 1) (-1) (-1) 0 0) 1 (D37a 1 + 1)
def D37x : Int → Int := mSet (mSet (mSet D37b (94 + 10 * D37b 2 + 0) ((8 : Nat) : Int)) (94 + 10 * D37b 2 + 1) ((50 : Nat) : Int)) (94 + 10 * D37b 2 + 2) ((0 : Nat) : Int)
def D37c : Int → Int := mSet (mSet (mSet (mSet D37x (94 + 10 * D37b 2 + 4 + ((0 : Nat) : Int)) ((25 : Nat) : Int)) (94 + 10 * D37b 2 + 3) ((1 : Nat) : Int)) (94 + 10 * D37b 2 + 8) (-1)) 2 (D37b 2 + 1)
def D37 : Int → Int := mSet D37c (154 + 5 * ((0 : Nat) : Int) + ((0 : Nat) : Int) + 1) ((1 : Nat) : Int)
theorem rd_37 (h : sfx t L 0 (sN 37)) : rdC t L ((0, 0), zcz fun _ => 0) ((L, 0), D37) := by
  have h0 : sfx t L 0 (clH 2 50 ++ (clSc 0 10 1 5 ++ (clF 8 50 0 (fun _ => 25) 1 ++ (clP 0 0 1 ++ [])))) := sfx_eq h (by decide +kernel)
  obtain ⟨q1, s1, r1⟩ := cl_house (D := z37) (by decide +kernel) (by decide) (by decide) (by decide) (by decide) h0
  obtain ⟨q2, s2, r2⟩ := cl_screen (D := D37a) (by decide +kernel) (by decide +kernel) (by decide) (by decide +kernel) (by decide) (by decide) (by decide) (by decide) (by decide) s1
  obtain ⟨q3, sx, s3, ku, r3⟩ := cl_film (D := D37b) (by decide +kernel) (by decide) (by decide) (by decide) (by decide) (by decide) (fun _ _ => by decide) s2
  have em : mTm t L D37x sx (94 + 10 * D37b 2 + 4) 1 = mSet D37x (94 + 10 * D37b 2 + 4 + ((0 : Nat) : Int)) ((25 : Nat) : Int) := by
    show mSet D37x _ (tNumV t L 0 90 (tIt t L sx 0)) = _
    rw [ku 0 (by decide)]
  have r3' : rdC t L ((q2, 0), D37b) ((q3, 0), mSet (mSet (mSet (mTm t L D37x sx (94 + 10 * D37b 2 + 4) 1) (94 + 10 * D37b 2 + 3) ((1 : Nat) : Int)) (94 + 10 * D37b 2 + 8) (-1)) 2 (D37b 2 + 1)) := r3
  rw [em] at r3'
  obtain ⟨q4, s4, r4⟩ := cl_prints (D := D37c) (by decide +kernel) (by decide) (by decide +kernel) (by decide) (by decide) s3
  have e4 : q4 = L := s4.1
  subst e4
  exact ((r1.tr r2).tr r3').tr r4
def N37 : Int → Int := ldN D37
def B37 : Int → Int := mBook N37 0 0 (-1) 0 0
def C37 : Int → Int := clN B37
theorem v37_1 : D37 1 = 1 := by decide +kernel
theorem v37_2 : (N37 0 = 1 ∧ N37 1 = 1 ∧ N37 2 = 1) ∧ mS N37 0 7 = 0 := by decide +kernel
theorem v37_3 : mEn N37 0 0 (-1) 0 := ⟨by decide +kernel, Or.inl rfl⟩
theorem v37_4 : cTake B37 0 = 112 := by decide +kernel
theorem v37_5 : mShare B37 0 0 (cFi B37 0 0) = 28 := by decide +kernel
theorem v37_6 : sHouse B37 0 5 = 79 := by decide +kernel
theorem v37_7 : zb (mHold B37 0) = 1 := by decide +kernel
theorem v37_8 : clA B37 0 = 112 ∧ B37 3 ≠ 60 := by decide +kernel
theorem v37_9 : sSize C37 7 = 1 ∧ sFilm C37 0 5 = 4 ∧ sScreen C37 0 8 = 56 := by decide +kernel
theorem v37_a : mS C37 0 7 ≠ 0 := by decide +kernel
end ZQJ

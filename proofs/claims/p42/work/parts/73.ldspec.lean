/-! a text of clauses, as a draft's numbers -/
section ZLD
variable {t : Int → Int} {L : Nat} {s : tS} {D : Int → Int}
theorem tFail_e {c : Int} (h : s.2 ≠ 0) : tFail c s = s := if_neg h
theorem tNumS_e {lo hi : Int} (h : s.2 ≠ 0) : tNumS t L lo hi s = s := by
  unfold tNumS
  rw [if_pos (by rw [tKd_e h]; decide), tFail_e h]
theorem tSgS_e {c : Int} (h : s.2 ≠ 0) : tSgS t L c s = s := by
  unfold tSgS
  rw [if_neg (fun z => h (tSg_0 z)), tFail_e h]
theorem tWdS_e {w : List Int} (h : s.2 ≠ 0) : tWdS t L w s = s := by
  unfold tWdS
  rw [if_neg (fun z => h (tWd_0 z)), tFail_e h]
abbrev ldS : Type := tS × (Int → Int)
def ldHouse (t : Int → Int) (L : Nat) (x : ldS) : ldS :=
  if x.2 0 < 4 then
    (tNumS t L 1 100 (tNumS t L 1 99 (tAdv t L x.1)), mSet (mSet (mSet x.2 (6 + 2 * x.2 0 + 0) (tNumV t L 1 99 (tAdv t L x.1))) (6 + 2 * x.2 0 + 1) (tNumV t L 1 100 (tNumS t L 1 99 (tAdv t L x.1)))) 0 (x.2 0 + 1))
  else (tFail 3 x.1, x.2)
/-- the house of a screen, taken -/
def tHs (t : Int → Int) (L : Nat) (D : Int → Int) (s : tS) : tS := if tKd t L s ≠ 2 then tFail 1 s else if tv t L s.1 < 0 ∨ D 0 - 1 < tv t L s.1 then tFail 2 s else if mCn D (tv t L s.1) (nS D) < 4 then tAdv t L s else tFail 4 s
def ldScreen (t : Int → Int) (L : Nat) (x : ldS) : ldS :=
  if x.2 1 < 10 then
    let s1 := tAdv t L x.1
    let s2 := tHs t L x.2 s1
    let s3 := tNumS t L 1 500 s2
    let s4 := tNumS t L 1 6 s3
    (tNumS t L 0 9999 s4, mSet (mBook (mSet (mSet (mSet (mSet x.2 (14 + 8 * x.2 1 + 0) (tv t L s1.1)) (14 + 8 * x.2 1 + 1) (tNumV t L 1 500 s2)) (14 + 8 * x.2 1 + 2) (tNumV t L 1 6 s3)) (14 + 8 * x.2 1 + 3) (tNumV t L 0 9999 s4)) (x.2 1) (-1) (-1) 0 0) 1 (x.2 1 + 1))
  else (tFail 3 x.1, x.2)
/-- so many numbers taken -/
def tIt (t : Int → Int) (L : Nat) (s : tS) : Nat → tS
  | 0 => s
  | n + 1 => tNumS t L 0 90 (tIt t L s n)
/-- how many terms -/
def tmC (t : Int → Int) (L : Nat) (s : tS) : Nat := if tKd t L (tIt t L s 1) ≠ 2 then 1 else if tKd t L (tIt t L s 2) ≠ 2 then 2 else if tKd t L (tIt t L s 3) ≠ 2 then 3 else 4
def mTm (t : Int → Int) (L : Nat) (D : Int → Int) (s : tS) (b : Int) : Nat → Int → Int
  | 0 => D
  | n + 1 => mSet (mTm t L D s b n) (b + (n : Int)) (tNumV t L 0 90 (tIt t L s n))
theorem tmC_is {k : Nat} (k1 : 1 ≤ k) (k4 : k ≤ 4) (h : ∀ i, 1 ≤ i → i < k → tKd t L (tIt t L s i) = 2) (e : k = 4 ∨ tKd t L (tIt t L s k) ≠ 2) : tmC t L s = k := by
  unfold tmC
  have c : k = 1 ∨ k = 2 ∨ k = 3 ∨ k = 4 := by omega
  rcases c with c | c | c | c <;> subst c
  · rw [if_pos (e.resolve_left (by decide))]
  · rw [if_neg (fun z => z (h 1 (by decide) (by decide))), if_pos (e.resolve_left (by decide))]
  · rw [if_neg (fun z => z (h 1 (by decide) (by decide))), if_neg (fun z => z (h 2 (by decide) (by decide))), if_pos (e.resolve_left (by decide))]
  · rw [if_neg (fun z => z (h 1 (by decide) (by decide))), if_neg (fun z => z (h 2 (by decide) (by decide))), if_neg (fun z => z (h 3 (by decide) (by decide)))]
theorem tmC_b : 1 ≤ tmC t L s ∧ tmC t L s ≤ 4 := by
  unfold tmC
  split
  · omega
  · split
    · omega
    · split <;> omega
def ldFilm (t : Int → Int) (L : Nat) (x : ldS) : ldS :=
  if x.2 2 < 6 then
    let s1 := tAdv t L x.1
    let s2 := tNumS t L 0 9999 s1
    let s3 := tNumS t L 0 100 s2
    let s4 := tNumS t L 0 9999 s3
    let D1 := mSet (mSet (mSet x.2 (94 + 10 * x.2 2 + 0) (tNumV t L 0 9999 s1)) (94 + 10 * x.2 2 + 1) (tNumV t L 0 100 s2)) (94 + 10 * x.2 2 + 2) (tNumV t L 0 9999 s3)
    (tIt t L s4 (tmC t L s4), mSet (mSet (mSet (mTm t L D1 s4 (94 + 10 * x.2 2 + 4) (tmC t L s4)) (94 + 10 * x.2 2 + 3) (tmC t L s4 : Int)) (94 + 10 * x.2 2 + 8) (-1)) 2 (x.2 2 + 1))
  else (tFail 3 x.1, x.2)
/-- prints, from behind the word -/
def ldPr (t : Int → Int) (L : Nat) (s1 : tS) (D : Int → Int) : ldS :=
  let s2 := tNumS t L 0 (D 2 - 1) s1
  let s3 := if tWd t L (zsbi 5) s2 then tAdv t L s2 else tNumS t L 0 (D 0 - 1) s2
  let pl := if tWd t L (zsbi 5) s2 then -1 else tNumV t L 0 (D 0 - 1) s2
  (tNumS t L 0 9 s3, mSet D (154 + 5 * tNumV t L 0 (D 2 - 1) s1 + pl + 1) (tNumV t L 0 9 s3))
def ldPrints (t : Int → Int) (L : Nat) (x : ldS) : ldS := ldPr t L (tAdv t L x.1) x.2
def ldFee (t : Int → Int) (L : Nat) (x : ldS) : ldS :=
  let s1 := tWdS t L (zsbi 6) x.1
  (tNumS t L 0 999 s1, mSet x.2 4 (tNumV t L 0 999 s1))
/-- a clause, all but its end -/
def ldB (t : Int → Int) (L : Nat) (x : ldS) : ldS := if tWd t L (zsbi 1) x.1 then ldHouse t L x else if tWd t L (zsbi 2) x.1 then ldScreen t L x else if tWd t L (zsbi 3) x.1 then ldFilm t L x else if tWd t L (zsbi 4) x.1 then ldPrints t L x else ldFee t L x
def ldC (t : Int → Int) (L : Nat) (x : ldS) : ldS := (tSgS t L 59 (ldB t L x).1, (ldB t L x).2)
/-- after so many clauses -/
def ldI (t : Int → Int) (L : Nat) (x : ldS) : Nat → ldS
  | 0 => x
  | n + 1 => ldC t L (ldI t L x n)
/-- the numbers that a reading counts on -/
def ldV (D : Int → Int) : Prop :=
  (0 ≤ D 0 ∧ D 0 ≤ 4 ∧ 0 ≤ D 1 ∧ D 1 ≤ 10 ∧ 0 ≤ D 2 ∧ D 2 ≤ 6 ∧ D 3 = 0 ∧ 0 ≤ D 4 ∧ D 4 ≤ 999 ∧ D 5 = 0) ∧ (∀ j, zrg (D j)) ∧
  (∀ h, 0 ≤ h → h < 4 → 0 ≤ mH D h 0 ∧ mH D h 0 ≤ 99 ∧ 0 ≤ mH D h 1 ∧ mH D h 1 ≤ 100) ∧
  (∀ s, 0 ≤ s → s < 10 → (s < D 1 → 0 ≤ mS D s 0 ∧ mS D s 0 < D 0 ∧ 1 ≤ mS D s 1 ∧ mS D s 1 ≤ 500 ∧ 1 ≤ mS D s 2 ∧ mS D s 2 ≤ 6 ∧ 0 ≤ mS D s 3 ∧ mS D s 3 ≤ 9999 ∧ mS D s 4 = -1 ∧ mS D s 5 = -1 ∧ mS D s 6 = 0 ∧ mS D s 7 = 0) ∧ (¬ s < D 1 → ∀ k, 0 ≤ k → k < 8 → mS D s k = 0)) ∧
  (∀ f, 0 ≤ f → f < 6 → (f < D 2 → 0 ≤ mF D f 0 ∧ mF D f 0 ≤ 9999 ∧ 0 ≤ mF D f 1 ∧ mF D f 1 ≤ 100 ∧ 0 ≤ mF D f 2 ∧ mF D f 2 ≤ 9999 ∧ 1 ≤ mF D f 3 ∧ mF D f 3 ≤ 4 ∧ mF D f 8 = -1) ∧ (¬ f < D 2 → mF D f 0 = 0 ∧ mF D f 1 = 0 ∧ mF D f 2 = 0 ∧ mF D f 3 = 0 ∧ mF D f 8 = 0) ∧ mF D f 9 = 0 ∧ ∀ k, 0 ≤ k → k < 4 → 0 ≤ mF D f (4 + k) ∧ mF D f (4 + k) ≤ 90) ∧
  (∀ j, 154 ≤ j → j < 184 → 0 ≤ D j ∧ D j ≤ 9) ∧ (∀ j, 184 ≤ j → j < 212 → D j = 0) ∧ ∀ h, mCn D h (nS D) ≤ 4
theorem ldHouse_s : (ldHouse t L (s, D)).1 = if D 0 < 4 then tNumS t L 1 100 (tNumS t L 1 99 (tAdv t L s)) else tFail 3 s := by
  unfold ldHouse
  by_cases h : D 0 < 4
  · rw [if_pos h, if_pos h]
  · rw [if_neg h, if_neg h]
theorem ldScreen_s : (ldScreen t L (s, D)).1 = if D 1 < 10 then tNumS t L 0 9999 (tNumS t L 1 6 (tNumS t L 1 500 (tHs t L D (tAdv t L s)))) else tFail 3 s := by
  unfold ldScreen
  by_cases h : D 1 < 10
  · rw [if_pos h, if_pos h]
  · rw [if_neg h, if_neg h]
theorem ldFilm_n (h : ¬ D 2 < 6) : ldFilm t L (s, D) = (tFail 3 s, D) := if_neg h
theorem tAdv_0 (h : s.2 = 0) : tAdv t L s = (te t L s.1, 0) := if_pos h
theorem ldV.n (h : ldV D) : 0 ≤ D 0 ∧ D 0 ≤ 4 ∧ 0 ≤ D 1 ∧ D 1 ≤ 10 ∧ 0 ≤ D 2 ∧ D 2 ≤ 6 ∧ D 3 = 0 ∧ 0 ≤ D 4 ∧ D 4 ≤ 999 ∧ D 5 = 0 := h.1
theorem ldV.b (h : ldV D) : ∀ j, zrg (D j) := h.2.1
theorem mTm_o {b : Int} {j : Int} {n : Nat} (h : j < b ∨ b + n ≤ j) : mTm t L D s b n j = D j := by
  induction n with
  | zero => rfl
  | succ n ih =>
    show mSet (mTm t L D s b n) (b + (n : Int)) _ j = D j
    rw [mSet_o (by omega)]
    exact ih (by omega)
end ZLD

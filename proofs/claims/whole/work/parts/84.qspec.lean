/-! a query's text, as codes -/
section ZQS
variable {t : Int → Int} {L : Nat} {s : tS}
abbrev qS : Type := List Int × tS
/-- the property's place, 9 if none -/
def qIxF (t : Int → Int) (L : Nat) (s : tS) : Nat → Nat → Nat
  | 0, i => i
  | n + 1, i => if tWd t L (zsbi (50 + i)) s then i else qIxF t L s n (i + 1)
def qIx (t : Int → Int) (L : Nat) (s : tS) : Nat := qIxF t L s 9 0
def qVal (t : Int → Int) (L : Nat) (s : tS) : Int × tS := if tKd t L s = 2 then (tNumV t L 0 99999 s, tNumS t L 0 99999 s) else if qIx t L s < 9 then (-1 - (qIx t L s : Int), tAdv t L s) else (0, tFail 1 s)
def qRel (t : Int → Int) (L : Nat) (s : tS) : Int × tS := if tSg t L 60 s then (-20, tAdv t L s) else if tSg t L 61 s then (-21, tAdv t L s) else if tSg t L 62 s then (-22, tAdv t L s) else (-22, tFail 1 s)
def qCmp (t : Int → Int) (L : Nat) (s : tS) : qS :=
  ([(qVal t L s).1, (qVal t L (qRel t L (qVal t L s).2).2).1, (qRel t L (qVal t L s).2).1], (qVal t L (qRel t L (qVal t L s).2).2).2)
def qConjL (t : Int → Int) (L : Nat) (F : tS → qS) : Nat → qS → qS
  | 0, x => x
  | k + 1, x => if tWd t L (zsbi 28) x.2 then qConjL t L F k (x.1 ++ (F (tAdv t L x.2)).1 ++ [-24], (F (tAdv t L x.2)).2) else x
def qConj (t : Int → Int) (L : Nat) (F : tS → qS) (s : tS) : qS := qConjL t L F 200 (F s)
def qTestL (t : Int → Int) (L : Nat) (F : tS → qS) : Nat → qS → qS
  | 0, x => x
  | k + 1, x => if tWd t L (zsbi 29) x.2 then qTestL t L F k (x.1 ++ (qConj t L F (tAdv t L x.2)).1 ++ [-25], (qConj t L F (tAdv t L x.2)).2) else x
def qTest (t : Int → Int) (L : Nat) (F : tS → qS) (s : tS) : qS := qTestL t L F 200 (qConj t L F s)
/-- a factor, so many openings allowed -/
def qFac (t : Int → Int) (L : Nat) : Nat → tS → qS
  | 0, s => if tWd t L (zsbi 27) s ∨ tSg t L 40 s then ([], tFail 3 s) else qCmp t L s
  | n + 1, s => if tWd t L (zsbi 27) s then ((qFac t L n (tAdv t L s)).1 ++ [-23], (qFac t L n (tAdv t L s)).2) else if tSg t L 40 s then ((qTest t L (qFac t L n) (tAdv t L s)).1, tSgS t L 41 (qTest t L (qFac t L n) (tAdv t L s)).2) else qCmp t L s
/-- what a code does on a stack -/
def qOp (c x y : Int) : Int := if c = -20 then zb (x < y) else if c = -21 then zb (x = y) else if c = -22 then zb (y < x) else if c = -24 then min x y else max x y
def qStep (pv : Int → Int) (c : Int) (st : List Int) : List Int :=
  if c = -23 then (1 - st.getD 0 0) :: st.drop 1 else if -20 < c then (if 0 ≤ c then c else pv (-1 - c)) :: st else qOp c (st.getD 1 0) (st.getD 0 0) :: st.drop 2
def qEv (pv : Int → Int) : List Int → List Int → List Int
  | [], st => st
  | c :: cs, st => qEv pv cs (qStep pv c st)
theorem qEv_app {pv : Int → Int} {a b st : List Int} : qEv pv (a ++ b) st = qEv pv b (qEv pv a st) := by
  induction a generalizing st with
  | nil => rfl
  | cons c cs ih => exact ih
/-- a code that a stack bears -/
def qSafe (c : Int) (st : List Int) : Prop := (c = -23 ∧ 1 ≤ st.length ∧ (st.getD 0 0 = 0 ∨ st.getD 0 0 = 1)) ∨ (-10 < c ∧ c ≤ 99999) ∨ ((c = -20 ∨ c = -21 ∨ c = -22 ∨ c = -24 ∨ c = -25) ∧ 2 ≤ st.length ∧ (zrg (st.getD 0 0) ∧ zrg (st.getD 1 0)) ∧ (c ≤ -24 → (st.getD 0 0 = 0 ∨ st.getD 0 0 = 1) ∧ (st.getD 1 0 = 0 ∨ st.getD 1 0 = 1)))
def qOK (pv : Int → Int) : List Int → List Int → Prop
  | [], _ => True
  | c :: cs, st => qSafe c st ∧ qOK pv cs (qStep pv c st)
theorem qOK_app {pv : Int → Int} {a b st : List Int} (h : qOK pv a st) (k : qOK pv b (qEv pv a st)) : qOK pv (a ++ b) st := by
  induction a generalizing st with
  | nil => exact k
  | cons c cs ih => exact ⟨h.1, ih h.2 k⟩
/-- values that fit -/
def qPr (pv : Int → Int) : Prop := ∀ i, 0 ≤ i → i < 9 → zrg (pv i)
/-- codes that leave one truth value -/
def qW (pv : Int → Int) (c : List Int) (v : Int) : Prop := (v = 0 ∨ v = 1) ∧ (∀ st, qEv pv c st = v :: st) ∧ (qPr pv → ∀ st, qOK pv c st)
theorem zrg01 {v : Int} (h : v = 0 ∨ v = 1) : zrg v := by rcases h with h | h <;> rw [h] <;> decide
theorem qW_not {pv : Int → Int} {a : List Int} {v : Int} (h : qW pv a v) : qW pv (a ++ [-23]) (1 - v) := by
  refine ⟨by have := h.1; omega, fun st => ?_, fun hp st => ?_⟩
  · rw [qEv_app, h.2.1]; rfl
  · refine qOK_app (h.2.2 hp st) ?_
    rw [h.2.1]
    exact ⟨Or.inl ⟨rfl, Nat.le_add_left _ _, h.1⟩, trivial⟩
theorem qW_and {pv : Int → Int} {a b : List Int} {v w : Int} (h : qW pv a v) (k : qW pv b w) : qW pv (a ++ b ++ [-24]) (min v w) := by
  refine ⟨by have := h.1; have := k.1; omega, fun st => ?_, fun hp st => ?_⟩
  · rw [qEv_app, qEv_app, h.2.1, k.2.1]; rfl
  · refine qOK_app (qOK_app (h.2.2 hp st) (k.2.2 hp _)) ?_
    rw [qEv_app, h.2.1, k.2.1]
    exact ⟨Or.inr (Or.inr ⟨Or.inr (Or.inr (Or.inr (Or.inl rfl))), by show 2 ≤ st.length + 1 + 1; omega, ⟨zrg01 k.1, zrg01 h.1⟩, fun _ => ⟨k.1, h.1⟩⟩), trivial⟩
theorem qW_or {pv : Int → Int} {a b : List Int} {v w : Int} (h : qW pv a v) (k : qW pv b w) : qW pv (a ++ b ++ [-25]) (max v w) := by
  refine ⟨by have := h.1; have := k.1; omega, fun st => ?_, fun hp st => ?_⟩
  · rw [qEv_app, qEv_app, h.2.1, k.2.1]; rfl
  · refine qOK_app (qOK_app (h.2.2 hp st) (k.2.2 hp _)) ?_
    rw [qEv_app, h.2.1, k.2.1]
    exact ⟨Or.inr (Or.inr ⟨Or.inr (Or.inr (Or.inr (Or.inr rfl))), by show 2 ≤ st.length + 1 + 1; omega, ⟨zrg01 k.1, zrg01 h.1⟩, fun _ => ⟨k.1, h.1⟩⟩), trivial⟩
/-- what a value's code is worth -/
def qPv (pv : Int → Int) (c : Int) : Int := if 0 ≤ c then c else pv (-1 - c)
theorem qIxF_b {n i : Nat} : qIxF t L s n i ≤ i + n := by
  induction n generalizing i with
  | zero => exact Nat.le_refl _
  | succ n ih =>
    unfold qIxF
    split
    · omega
    · have := ih (i := i + 1); omega
theorem qVal_b (h : (qVal t L s).2.2 = 0) : -10 < (qVal t L s).1 ∧ (qVal t L s).1 ≤ 99999 ∧ s.2 = 0 := by
  unfold qVal at h ⊢
  by_cases c : tKd t L s = 2
  · rw [if_pos c] at h ⊢
    have := tNumS_2 h
    exact ⟨by show -10 < tNumV t L 0 99999 s; omega, this.2.2.1, this.1⟩
  · rw [if_neg c] at h ⊢
    by_cases k : qIx t L s < 9
    · rw [if_pos k] at h ⊢
      exact ⟨by show -10 < -1 - (qIx t L s : Int); omega, by show -1 - (qIx t L s : Int) ≤ 99999; omega, tAdv_20 h⟩
    · rw [if_neg k] at h; exact absurd h (tFail_2 (by decide))
theorem qRel_b (h : (qRel t L s).2.2 = 0) : s.2 = 0 ∧ ((qRel t L s).1 = -20 ∨ (qRel t L s).1 = -21 ∨ (qRel t L s).1 = -22) := by
  unfold qRel at h ⊢
  by_cases c1 : tSg t L 60 s
  · rw [if_pos c1]; exact ⟨tSg_0 c1, Or.inl rfl⟩
  · rw [if_neg c1] at h ⊢
    by_cases c2 : tSg t L 61 s
    · rw [if_pos c2]; exact ⟨tSg_0 c2, Or.inr (Or.inl rfl)⟩
    · rw [if_neg c2] at h ⊢
      by_cases c3 : tSg t L 62 s
      · rw [if_pos c3]; exact ⟨tSg_0 c3, Or.inr (Or.inr rfl)⟩
      · rw [if_neg c3] at h; exact absurd h (tFail_2 (by decide))
theorem qW_cmp {pv : Int → Int} (h : (qCmp t L s).2.2 = 0) : s.2 = 0 ∧ qW pv (qCmp t L s).1 (qOp (qRel t L (qVal t L s).2).1 (qPv pv (qVal t L s).1) (qPv pv (qVal t L (qRel t L (qVal t L s).2).2).1)) := by
  have h' : (qVal t L (qRel t L (qVal t L s).2).2).2.2 = 0 := h
  have a := qVal_b h'
  have b := qRel_b a.2.2
  have c := qVal_b b.1
  have s1 : ∀ x : Int, -10 < x → ∀ z, qStep pv x z = qPv pv x :: z := fun x hx z => by
    unfold qStep qPv
    rw [if_neg (by omega), if_pos (by omega)]
  refine ⟨c.2.2, ?_, fun st => ?_, fun hp st => ?_⟩
  · unfold qOp
    rcases b.2 with q | q | q <;> rw [q]
    · rw [if_pos rfl]; exact zb01 _
    · rw [if_neg (by decide), if_pos rfl]; exact zb01 _
    · rw [if_neg (by decide), if_neg (by decide), if_pos rfl]; exact zb01 _
  · show qEv pv [_, _, _] st = _
    show qStep pv _ (qStep pv _ (qStep pv _ st)) = _
    rw [s1 _ c.1, s1 _ a.1]
    unfold qStep
    rw [if_neg (by rcases b.2 with q | q | q <;> rw [q] <;> decide), if_neg (by rcases b.2 with q | q | q <;> rw [q] <;> decide)]
    rfl
  · have hv : ∀ x : Int, -10 < x → x ≤ 99999 → zrg (qPv pv x) := fun x h0 h1 => by
      unfold qPv
      by_cases q : 0 ≤ x
      · rw [if_pos q]; omega
      · rw [if_neg q]; exact hp _ (by omega) (by omega)
    refine ⟨Or.inr (Or.inl ⟨c.1, c.2.1⟩), ?_⟩
    rw [s1 _ c.1]
    refine ⟨Or.inr (Or.inl ⟨a.1, a.2.1⟩), ?_⟩
    rw [s1 _ a.1]
    refine ⟨Or.inr (Or.inr ⟨by rcases b.2 with q | q | q <;> rw [q] <;> decide, by show 2 ≤ st.length + 1 + 1; omega, ⟨hv _ a.1 a.2.1, hv _ c.1 c.2.1⟩, fun z => by rcases b.2 with q | q | q <;> rw [q] at z <;> exact absurd z (by decide)⟩), trivial⟩
end ZQS

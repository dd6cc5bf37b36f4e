/-! a query's codes: how far, how many, and that they leave one truth value -/
section ZQI
variable {t : Int → Int} {L : Nat} {s : tS}
theorem tNumS_at {lo hi : Int} (h : (tNumS t L lo hi s).2 = 0) : tNumS t L lo hi s = tAdv t L s := by
  unfold tNumS at h ⊢
  by_cases c : tKd t L s ≠ 2
  · rw [if_pos c] at h; exact absurd h (tFail_2 (by decide))
  · rw [if_neg c] at h ⊢
    by_cases c2 : tv t L s.1 < lo ∨ hi < tv t L s.1
    · rw [if_pos c2] at h; exact absurd h (tFail_2 (by decide))
    · rw [if_neg c2]
theorem tSgS_at {c : Int} (h : (tSgS t L c s).2 = 0) : tSg t L c s ∧ tSgS t L c s = tAdv t L s := by
  unfold tSgS at h ⊢
  by_cases k : tSg t L c s
  · rw [if_pos k]; exact ⟨k, rfl⟩
  · rw [if_neg k] at h; exact absurd h (tFail_2 (by decide))
theorem tSg_k {c : Int} (h : tSg t L c s) : tk t L s.1 ≠ 0 := by
  have z := tSg_0 h
  have k := h.1
  rw [tKd_0 z] at k
  omega
theorem qIxF_w {n i : Nat} (h : qIxF t L s n i < i + n) : tWd t L (zsbi (50 + qIxF t L s n i)) s := by
  induction n generalizing i with
  | zero => exact absurd h (Nat.lt_irrefl _)
  | succ n ih =>
    unfold qIxF at h ⊢
    by_cases c : tWd t L (zsbi (50 + i)) s
    · rw [if_pos c]; exact c
    · rw [if_neg c] at h ⊢
      exact ih (by omega)
theorem qVal_p (h : s.1 ≤ L) : (s.1 ≤ (qVal t L s).2.1 ∧ (qVal t L s).2.1 ≤ L) ∧ ((qVal t L s).2.2 = 0 → s.1 < (qVal t L s).2.1) := by
  unfold qVal
  by_cases c : tKd t L s = 2
  · rw [if_pos c]
    refine ⟨tNumS_1 h, fun e => ?_⟩
    have a := tNumS_2 e
    show s.1 < (tNumS t L 0 99999 s).1
    rw [tNumS_at e]
    exact (tAdv_p h a.1 (by rw [a.2.2.2.2]; decide)).1
  · rw [if_neg c]
    by_cases k : qIx t L s < 9
    · rw [if_pos k]
      refine ⟨tAdv_1 h, fun e => ?_⟩
      have w : tWd t L (zsbi (50 + qIx t L s)) s := qIxF_w (i := 0) (n := 9) (by show qIx t L s < 0 + 9; omega)
      exact (tAdv_p h (tWd_0 w) (tWd_k w)).1
    · rw [if_neg k]
      refine ⟨?_, fun e => absurd e (tFail_2 (by decide))⟩
      show s.1 ≤ (tFail 1 s).1 ∧ (tFail 1 s).1 ≤ L
      rw [tFail_1]; omega
theorem qRel_p (h : s.1 ≤ L) : (s.1 ≤ (qRel t L s).2.1 ∧ (qRel t L s).2.1 ≤ L) ∧ ((qRel t L s).2.2 = 0 → s.1 < (qRel t L s).2.1) := by
  have key : ∀ c, tSg t L c s → (s.1 ≤ (tAdv t L s).1 ∧ (tAdv t L s).1 ≤ L) ∧ ((tAdv t L s).2 = 0 → s.1 < (tAdv t L s).1) := fun c k => ⟨tAdv_1 h, fun _ => (tAdv_p h (tSg_0 k) (tSg_k k)).1⟩
  unfold qRel
  by_cases c1 : tSg t L 60 s
  · rw [if_pos c1]; exact key _ c1
  · rw [if_neg c1]
    by_cases c2 : tSg t L 61 s
    · rw [if_pos c2]; exact key _ c2
    · rw [if_neg c2]
      by_cases c3 : tSg t L 62 s
      · rw [if_pos c3]; exact key _ c3
      · rw [if_neg c3]
        refine ⟨?_, fun e => absurd e (tFail_2 (by decide))⟩
        show s.1 ≤ (tFail 1 s).1 ∧ (tFail 1 s).1 ≤ L
        rw [tFail_1]; omega
/-- a reading of truth values -/
def qI (t : Int → Int) (L : Nat) (F : tS → qS) : Prop := ∀ s : tS, s.1 ≤ L → (s.1 ≤ (F s).2.1 ∧ (F s).2.1 ≤ L) ∧ ((F s).2.2 = 0 → s.2 = 0 ∧ s.1 + (F s).1.length ≤ (F s).2.1 ∧ 1 ≤ (F s).1.length ∧ ∀ pv, ∃ v, qW pv (F s).1 v)
theorem qI_cmp : qI t L (qCmp t L) := fun s h => by
  have a := qVal_p (t := t) h
  have b := qRel_p (t := t) a.1.2
  have c := qVal_p (t := t) b.1.2
  refine ⟨⟨by show s.1 ≤ (qVal t L (qRel t L (qVal t L s).2).2).2.1; omega, c.1.2⟩, fun e => ?_⟩
  have e1 := qVal_b (t := t) (L := L) (s := (qRel t L (qVal t L s).2).2) e
  have e2 := qRel_b e1.2.2
  have a2 := a.2 e2.1
  have b2 := b.2 e1.2.2
  have c2 := c.2 e
  refine ⟨(qW_cmp (pv := fun _ => 0) e).1, ?_, ?_, fun pv => ⟨_, (qW_cmp e).2⟩⟩
  · show s.1 + 3 ≤ (qVal t L (qRel t L (qVal t L s).2).2).2.1; omega
  · show 1 ≤ 3; decide
/-- what a loop over further parts keeps -/
def qJ (L : Nat) (x y : qS) : Prop := (x.2.1 ≤ y.2.1 ∧ y.2.1 ≤ L) ∧ (y.2.2 = 0 → x.2.2 = 0 ∧ x.2.1 + y.1.length ≤ x.1.length + y.2.1 ∧ x.1.length ≤ y.1.length ∧ ∀ pv, (∃ v, qW pv x.1 v) → ∃ v, qW pv y.1 v)
theorem qJ_conj {F : tS → qS} (hF : qI t L F) : ∀ k (x : qS), x.2.1 ≤ L → qJ L x (qConjL t L F k x) := fun k => by
  induction k with
  | zero => intro x h; exact ⟨⟨Nat.le_refl _, h⟩, fun e => ⟨e, Nat.le_of_eq (Nat.add_comm _ _), Nat.le_refl _, fun _ q => q⟩⟩
  | succ k ih =>
    intro x h
    unfold qConjL
    by_cases c : tWd t L (zsbi 28) x.2
    · rw [if_pos c]
      have a := tAdv_p h (tWd_0 c) (tWd_k c)
      have b := hF _ a.2
      have q := ih (x.1 ++ (F (tAdv t L x.2)).1 ++ [-24], (F (tAdv t L x.2)).2) b.1.2
      refine ⟨⟨by have := q.1.1; have e : (x.1 ++ (F (tAdv t L x.2)).1 ++ [-24], (F (tAdv t L x.2)).2).2.1 = (F (tAdv t L x.2)).2.1 := rfl; omega, q.1.2⟩, fun e => ?_⟩
      have r := q.2 e
      have r1 := b.2 r.1
      have el : (x.1 ++ (F (tAdv t L x.2)).1 ++ [-24]).length = x.1.length + (F (tAdv t L x.2)).1.length + 1 := by simp [List.length_append]; omega
      have r2 : (F (tAdv t L x.2)).2.1 + (qConjL t L F k (x.1 ++ (F (tAdv t L x.2)).1 ++ [-24], (F (tAdv t L x.2)).2)).1.length ≤ x.1.length + (F (tAdv t L x.2)).1.length + 1 + (qConjL t L F k (x.1 ++ (F (tAdv t L x.2)).1 ++ [-24], (F (tAdv t L x.2)).2)).2.1 := by rw [← el]; exact r.2.1
      have r3 : x.1.length + (F (tAdv t L x.2)).1.length + 1 ≤ (qConjL t L F k (x.1 ++ (F (tAdv t L x.2)).1 ++ [-24], (F (tAdv t L x.2)).2)).1.length := by rw [← el]; exact r.2.2.1
      refine ⟨tWd_0 c, by omega, by omega, fun pv hv => r.2.2.2 pv ?_⟩
      obtain ⟨v, hv⟩ := hv
      obtain ⟨w, hw⟩ := r1.2.2.2 pv
      exact ⟨_, qW_and hv hw⟩
    · rw [if_neg c]
      exact ⟨⟨Nat.le_refl _, h⟩, fun e => ⟨e, Nat.le_of_eq (Nat.add_comm _ _), Nat.le_refl _, fun _ q => q⟩⟩
theorem qI_of {F : tS → qS} {y : tS → qS} (hF : qI t L F) (h : ∀ s, (F s).2.1 ≤ L → qJ L (F s) (y s)) : qI t L y := fun s hs => by
  have a := hF s hs
  have b := h s a.1.2
  refine ⟨⟨Nat.le_trans a.1.1 b.1.1, b.1.2⟩, fun e => ?_⟩
  have c := b.2 e
  have d := a.2 c.1
  exact ⟨d.1, by omega, by omega, fun pv => c.2.2.2 pv (d.2.2.2 pv)⟩
theorem qI_conj {F : tS → qS} (hF : qI t L F) : qI t L (qConj t L F) := qI_of hF fun s h => qJ_conj hF 200 (F s) h
theorem qJ_test {F : tS → qS} (hF : qI t L F) : ∀ k (x : qS), x.2.1 ≤ L → qJ L x (qTestL t L F k x) := fun k => by
  have hC := qI_conj hF
  induction k with
  | zero => intro x h; exact ⟨⟨Nat.le_refl _, h⟩, fun e => ⟨e, Nat.le_of_eq (Nat.add_comm _ _), Nat.le_refl _, fun _ q => q⟩⟩
  | succ k ih =>
    intro x h
    unfold qTestL
    by_cases c : tWd t L (zsbi 29) x.2
    · rw [if_pos c]
      have a := tAdv_p h (tWd_0 c) (tWd_k c)
      have b := hC _ a.2
      generalize qConj t L F (tAdv t L x.2) = y at b ⊢
      have q := ih (x.1 ++ y.1 ++ [-25], y.2) b.1.2
      refine ⟨⟨by have := q.1.1; have e : (x.1 ++ y.1 ++ [-25], y.2).2.1 = y.2.1 := rfl; omega, q.1.2⟩, fun e => ?_⟩
      have r := q.2 e
      have r1 := b.2 r.1
      have el : (x.1 ++ y.1 ++ [-25]).length = x.1.length + y.1.length + 1 := by simp [List.length_append]; omega
      have r2 : y.2.1 + (qTestL t L F k (x.1 ++ y.1 ++ [-25], y.2)).1.length ≤ x.1.length + y.1.length + 1 + (qTestL t L F k (x.1 ++ y.1 ++ [-25], y.2)).2.1 := by rw [← el]; exact r.2.1
      have r3 : x.1.length + y.1.length + 1 ≤ (qTestL t L F k (x.1 ++ y.1 ++ [-25], y.2)).1.length := by rw [← el]; exact r.2.2.1
      refine ⟨tWd_0 c, by omega, by omega, fun pv hv => r.2.2.2 pv ?_⟩
      obtain ⟨v, hv⟩ := hv
      obtain ⟨w, hw⟩ := r1.2.2.2 pv
      exact ⟨_, qW_or hv hw⟩
    · rw [if_neg c]
      exact ⟨⟨Nat.le_refl _, h⟩, fun e => ⟨e, Nat.le_of_eq (Nat.add_comm _ _), Nat.le_refl _, fun _ q => q⟩⟩
theorem qI_test {F : tS → qS} (hF : qI t L F) : qI t L (qTest t L F) := qI_of (qI_conj hF) fun s h => qJ_test hF 200 _ h
theorem qI_fac : ∀ n, qI t L (qFac t L n) := fun n => by
  induction n with
  | zero =>
    intro s h
    unfold qFac
    by_cases c : tWd t L (zsbi 27) s ∨ tSg t L 40 s
    · rw [if_pos c]
      refine ⟨?_, fun e => absurd e (tFail_2 (by decide))⟩
      show s.1 ≤ (tFail 3 s).1 ∧ (tFail 3 s).1 ≤ L
      rw [tFail_1]; omega
    · rw [if_neg c]; exact qI_cmp s h
  | succ n ih =>
    intro s h
    unfold qFac
    by_cases c : tWd t L (zsbi 27) s
    · rw [if_pos c]
      have a := tAdv_p h (tWd_0 c) (tWd_k c)
      have b := ih _ a.2
      refine ⟨⟨by show s.1 ≤ (qFac t L n (tAdv t L s)).2.1; omega, b.1.2⟩, fun e => ?_⟩
      have r := b.2 e
      have el : ((qFac t L n (tAdv t L s)).1 ++ [-23]).length = (qFac t L n (tAdv t L s)).1.length + 1 := by simp
      refine ⟨tWd_0 c, by show s.1 + ((qFac t L n (tAdv t L s)).1 ++ [-23]).length ≤ (qFac t L n (tAdv t L s)).2.1; rw [el]; omega, by show 1 ≤ ((qFac t L n (tAdv t L s)).1 ++ [-23]).length; rw [el]; omega, fun pv => ?_⟩
      obtain ⟨v, hv⟩ := r.2.2.2 pv
      exact ⟨_, qW_not hv⟩
    · rw [if_neg c]
      by_cases k : tSg t L 40 s
      · rw [if_pos k]
        have a := tAdv_p h (tSg_0 k) (tSg_k k)
        have b := qI_test ih _ a.2
        generalize qTest t L (qFac t L n) (tAdv t L s) = y at b ⊢
        have g := tSgS_1 (t := t) (c := 41) b.1.2
        refine ⟨⟨by show s.1 ≤ (tSgS t L 41 y.2).1; omega, g.2⟩, fun e => ?_⟩
        have r := b.2 (tSgS_2 e)
        exact ⟨tSg_0 k, by show s.1 + y.1.length ≤ (tSgS t L 41 y.2).1; omega, r.2.2.1, r.2.2.2⟩
      · rw [if_neg k]; exact qI_cmp s h
end ZQI

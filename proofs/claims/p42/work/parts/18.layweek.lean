/-! the reference: the whole week is laid -/
section ZT
variable {G : zG} {d : Nat} {σ : zMem} {hm : Nat} {A : Nat → Nat}
/-- what a load makes sure of -/
def mW (N : Int → Int) : Prop := ∀ s, 0 ≤ s → s < N 1 → mS N s 0 < N 0 ∧ mS N s 4 < N 2 ∧ mS N s 5 < N 2
theorem mW_sh {N : Int → Int} (h : mW N) {s : Int} (h0 : 0 ≤ s) (h1 : s < N 1) (day : Int) : mSh N s day < N 2 := by
  have := h s h0 h1
  unfold mSh
  split <;> omega
def LW (N : Int → Int) (D H F : Int) (gg : Int → Int) : Prop := ∀ s dd : Int, 0 ≤ s → s < 10 → 0 ≤ dd → dd < 7 → gg (7 * s + dd) = if s < N 1 ∧ (dd < D ∨ (dd = D ∧ (mS N s 0 < H ∨ (mS N s 0 = H ∧ mSh N s dd < F)))) then gv N s dd else 0
def LWs (N : Int → Int) (D H F : Int) (sv : Int → Int) : Prop := (∀ j : Int, 0 ≤ j → j < 10 → sv j = 0 ∨ sv j = 1) ∧ ∀ s : Int, 0 ≤ s → s < N 1 → sv s = 1 → mS N s 0 < H ∨ (mS N s 0 = H ∧ mSh N s D < F)
theorem gv_none {N : Int → Int} {s day : Int} (h : mSh N s day < 0) : gv N s day = 0 := if_neg fun q => by omega
theorem LW_0 {N gg : Int → Int} (h : ∀ j : Int, 0 ≤ j → j < 70 → gg j = 0) (hV : mV N) : LW N 0 0 0 gg := fun s dd a b c e => by
  rw [h _ (by omega) (by omega)]
  split
  · rename_i q
    have := hV.s s a b
    exact (gv_none (by omega)).symm
  · rfl
theorem LW_film {N gg gg' sv sv' : Int → Int} (hV : mV N) {D H F : Int} (f0 : 0 ≤ F) (h : LW N D H F gg) (hd : LDone N H F D sv gg sv' gg') (d0 : 0 ≤ D) (d1 : D < 7) : LW N D H (F + 1) gg' := fun s dd a b c e => by
  have hn := nS_eq hV
  by_cases q : s < N 1 ∧ mS N s 0 = H ∧ dd = D ∧ mSh N s D = F
  · obtain ⟨q1, q2, q3, q4⟩ := q
    obtain ⟨n, rfl⟩ := Int.eq_ofNat_of_zero_le a
    subst q3
    rw [(hd.2.1 n (by omega) q2 q4).2, if_pos ⟨q1, Or.inr ⟨rfl, Or.inr ⟨q2, by omega⟩⟩⟩]
  · rw [hd.2.2.2 _ (fun n h1 h2 h3 h4 => q ?_), h s dd a b c e]
    · by_cases z : s < N 1 ∧ (dd < D ∨ (dd = D ∧ (mS N s 0 < H ∨ (mS N s 0 = H ∧ mSh N s dd < F))))
      · rw [if_pos z, if_pos (by omega)]
      · rw [if_neg z, if_neg]
        intro w
        apply q
        have : dd = D := by omega
        subst this
        omega
    · have e1 : s = n := by omega
      have e2 : dd = D := by omega
      subst e1
      exact ⟨by omega, h2, e2, h3⟩
theorem LWs_film {N gg gg' sv sv' : Int → Int} (hV : mV N) {D H F : Int} (f0 : 0 ≤ F) (h : LWs N D H F sv) (hd : LDone N H F D sv gg sv' gg') : LWs N D H (F + 1) sv' := by
  have hn := nS_eq hV
  refine ⟨hd.1, fun s a b c => ?_⟩
  by_cases q : mS N s 0 = H ∧ mSh N s D = F
  · exact Or.inr ⟨q.1, by omega⟩
  · rw [hd.2.2.1 s (fun n h1 h2 h3 h4 => q ?_)] at c
    · rcases h.2 s a b c with z | z
      · exact Or.inl z
      · exact Or.inr ⟨z.1, by omega⟩
    · rw [h4]
      exact ⟨h2, h3⟩
theorem LW_house {N gg : Int → Int} (hV : mV N) (hW : mW N) {D H F : Int} (hF : N 2 ≤ F) (h : LW N D H F gg) : LW N D (H + 1) 0 gg := fun s dd a b c e => by
  rw [h s dd a b c e]
  by_cases z : s < N 1
  · have q := mW_sh hW a z dd
    have r := (mSh_b hV a b dd).1
    by_cases w : dd < D ∨ (dd = D ∧ mS N s 0 ≤ H)
    · rw [if_pos ⟨z, by omega⟩, if_pos ⟨z, by omega⟩]
    · rw [if_neg (by omega)]
      split
      · rename_i y
        exact (gv_none (by omega)).symm
      · rfl
  · rw [if_neg (fun y => z y.1), if_neg (fun y => z y.1)]
theorem LWs_house {N sv : Int → Int} {D H F : Int} (h : LWs N D H F sv) : LWs N D (H + 1) 0 sv := ⟨h.1, fun s a b c => by
  have := h.2 s a b c
  omega⟩
theorem LW_day {N gg : Int → Int} (hV : mV N) (hW : mW N) {D H : Int} (hH : N 0 ≤ H) (h : LW N D H 0 gg) : LW N (D + 1) 0 0 gg := fun s dd a b c e => by
  rw [h s dd a b c e]
  by_cases z : s < N 1
  · have q := (hW s a z).1
    have r := hV.s s a b
    by_cases w : dd ≤ D
    · rw [if_pos ⟨z, by omega⟩, if_pos ⟨z, by omega⟩]
    · rw [if_neg (by omega)]
      split
      · rename_i y
        exact (gv_none (by omega)).symm
      · rfl
  · rw [if_neg (fun y => z y.1), if_neg (fun y => z y.1)]
theorem LWs_0 {N sv : Int → Int} {D : Int} (h : ∀ j : Int, 0 ≤ j → j < 10 → sv j = 0) (hV : mV N) : LWs N D 0 0 sv := by
  have := hV.n
  exact ⟨fun j a b => Or.inl (h j a b), fun s a b c => absurd c (by rw [h s a (by omega)]; decide)⟩
/-- the visitors of all screens and days -/
def gOK (N gg : Int → Int) : Prop := ∀ s dd : Int, 0 ≤ s → s < 10 → 0 ≤ dd → dd < 7 → gg (7 * s + dd) = gv N s dd
theorem LW_end {N gg : Int → Int} {D : Int} (hD : 7 ≤ D) (h : LW N D 0 0 gg) : gOK N gg := fun s dd a b c e => by
  rw [h s dd a b c e]
  by_cases z : s < N 1
  · rw [if_pos ⟨z, by omega⟩]
  · rw [if_neg (fun y => z y.1)]
    exact (if_neg fun q => z q.2.1).symm
theorem LWs_z {N sv : Int → Int} {D H F : Int} (f0 : 0 ≤ F) (h : LWs N D H F sv) (hV : mV N) : ∀ s : Nat, s < nS N → mS N s 0 = H → mSh N s D = F → sv s = 0 := fun s a b c => by
  have hn := nS_eq hV
  rcases h.1 s (by omega) (by omega) with z | z
  · exact z
  · have := h.2 s (by omega) (by omega) z
    omega
theorem gv_b {N : Int → Int} (hV : mV N) {s : Int} (h0 : 0 ≤ s) (h1 : s < 10) (dd : Int) : 0 ≤ gv N s dd ∧ gv N s dd ≤ 3000 := by
  have := mCap_b hV h0 h1
  unfold gv
  split <;> omega
theorem gOK_V {N gg : Int → Int} (hV : mV N) (h : gOK N gg) : gV gg := fun j a b => by
  have e : j = 7 * (j / 7) + j % 7 := by omega
  rw [e, h (j / 7) (j % 7) (by omega) (by omega) (by omega) (by omega)]
  exact gv_b hV (by omega) (by omega) _
end ZT

/-! StringBuilder: its texts -/
section ZSC
/-- the StringBuilder h holds the text l in a row vv of cap bytes -/
def sbI (σ : zMem) (h vv cap : Nat) (l : List Int) : Prop :=
  zkd σ h = (0, 13) ∧ h < zn σ ∧ zra σ h ((0 : Nat) : Int) = some vv ∧ vv < zn σ ∧ zkd σ vv = (2, cap) ∧ zia σ h ((1 : Nat) : Int) = 0 ∧ zia σ h ((3 : Nat) : Int) = (l.length : Int) ∧ l.length ≤ cap ∧ (cap = 16 ∨ cap = 34) ∧ (∀ j : Nat, j < l.length → zia σ vv j = l.getD j 0) ∧ (∀ j : Int, 0 ≤ j → j < (cap : Int) → -128 ≤ zia σ vv j ∧ zia σ vv j < 128)
theorem sbI.kd {σ : zMem} {h vv cap : Nat} {l : List Int} (k : sbI σ h vv cap l) : zkd σ h = (0, 13) := k.1
theorem sbI.lt {σ : zMem} {h vv cap : Nat} {l : List Int} (k : sbI σ h vv cap l) : h < zn σ := k.2.1
theorem sbI.val {σ : zMem} {h vv cap : Nat} {l : List Int} (k : sbI σ h vv cap l) : zra σ h ((0 : Nat) : Int) = some vv := k.2.2.1
theorem sbI.vkd {σ : zMem} {h vv cap : Nat} {l : List Int} (k : sbI σ h vv cap l) : zkd σ vv = (2, cap) := k.2.2.2.2.1
theorem sbI.cap {σ : zMem} {h vv cap : Nat} {l : List Int} (k : sbI σ h vv cap l) : cap = 16 ∨ cap = 34 := k.2.2.2.2.2.2.2.2.1
theorem sbI.ne {σ : zMem} {h vv cap : Nat} {l : List Int} (k : sbI σ h vv cap l) : h ≠ vv := fun e => by
  have a := k.kd
  rw [e, k.vkd] at a
  cases a
/-- what a StringBuilder's method may change: itself, its row, a new row -/
def sbS (σ σ1 : zMem) (h vv vv1 cap cap1 : Nat) : Prop :=
  (∀ x, (x = vv1 → cap1 = cap) → zkd σ1 x = zkd σ x) ∧ (∀ x j, (x = vv1 → cap1 = cap) → x ≠ h → zra σ1 x j = zra σ x j) ∧ (∀ x j, (x = vv1 → cap1 = cap) → x ≠ h → x ≠ vv → zia σ1 x j = zia σ x j) ∧
  ((zn σ1 = zn σ ∧ zcs σ1 = zcs σ ∧ zss σ1 = zss σ ∧ cap1 = cap ∧ vv1 = vv) ∨ (zn σ1 = zn σ + 1 ∧ zcs σ1 = zcs σ + 1 ∧ zss σ1 = zss σ + 34 ∧ cap = 16 ∧ cap1 = 34 ∧ vv1 = zn σ))
theorem sbS.rf {σ : zMem} {h vv cap : Nat} : sbS σ σ h vv vv cap cap := ⟨fun _ _ => rfl, fun _ _ _ _ => rfl, fun _ _ _ _ _ => rfl, Or.inl ⟨rfl, rfl, rfl, rfl, rfl⟩⟩
theorem sbS.n {σ σ1 : zMem} {h vv vv1 cap cap1 : Nat} (a : sbS σ σ1 h vv vv1 cap cap1) : zn σ ≤ zn σ1 ∧ zn σ1 ≤ zn σ + 1 := by
  rcases a.2.2.2 with c | c <;> omega
theorem sbS.tr {σ σ1 σ2 : zMem} {h vv vv1 vv2 cap cap1 cap2 : Nat} (a : sbS σ σ1 h vv vv1 cap cap1) (b : sbS σ1 σ2 h vv1 vv2 cap1 cap2) : sbS σ σ2 h vv vv2 cap cap2 := by
  obtain ⟨a1, a2, a3, a4⟩ := a
  obtain ⟨b1, b2, b3, b4⟩ := b
  have ea : ∀ x, (x = vv2 → cap2 = cap) → x = vv1 → cap1 = cap := fun x h1 h2 => by
    rcases a4 with c | c
    · exact c.2.2.2.1
    · rcases b4 with e | e
      · have := h1 (by omega); omega
      · omega
  have eb : ∀ x, (x = vv2 → cap2 = cap) → x = vv2 → cap2 = cap1 := fun x h1 h2 => by
    have h3 := h1 h2
    rcases a4 with c | c
    · omega
    · rcases b4 with e | e <;> omega
  refine ⟨fun x hx => (b1 x (eb x hx)).trans (a1 x (ea x hx)), fun x j hx hh => (b2 x j (eb x hx) hh).trans (a2 x j (ea x hx) hh), fun x j hx hh hv => ?_, ?_⟩
  · refine (b3 x j (eb x hx) hh ?_).trans (a3 x j (ea x hx) hh hv)
    intro q
    have h1 := ea x hx q
    rcases a4 with c | c <;> omega
  · rcases a4 with c | c <;> rcases b4 with e | e <;> first | (exfalso; omega) | (refine Or.inl ⟨?_, ?_, ?_, ?_, ?_⟩ <;> omega) | (refine Or.inr ⟨?_, ?_, ?_, ?_, ?_, ?_⟩ <;> omega)
variable {G : zG} {M : zMeth} {d pc : Nat} {ls : List (Nat × zV)} {st : List zV} {σ : zMem} {Q : zRes → zMem → Prop} {h vv cap : Nat} {l : List Int}
end ZSC

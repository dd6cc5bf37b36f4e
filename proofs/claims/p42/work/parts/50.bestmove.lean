/-! the class: the best move -/
section ZC15
variable {G : zG} {d : Nat} {σ : zMem} {B : Nat → Nat} {N : Int → Int}
noncomputable def gC (N : Int → Int) (f p v : Int) : Int := if p = -1 then 0 else bG N p (limD N p f v) - bG N p (lmP N p)
noncomputable def oL (N : Int → Int) (f y : Int) : Int := if y < N 0 + 1 then (if mHs N (y - 1) f (nS N) < mP N f (y - 1) then gC N f (y - 1) (-1) else -1000000000) else -1000000000
noncomputable def oM (N : Int → Int) (f y : Int) : Int := if y < N 0 + 1 then (if mP N f (y - 1) < 9 then gC N f (y - 1) 1 else -1000000000) else -1000000000
def PWX (B : Nat → Nat) (h : Nat) (j : Int) : Prop := (∃ i, h = B i ∧ 400 ≤ i ∧ i ≤ 413 ∧ i ≠ 411) ∧ ¬ (h = B 408 ∧ j = 0)
theorem PWX_1 {i : Nat} {j : Int} (hj : ∀ i j, B i = B j → i = j) (h : 400 ≤ i ∧ i ≤ 413 ∧ i ≠ 411) (n : i ≠ 408) : PWX B (B i) j := ⟨⟨i, rfl, h⟩, fun q => n (hj _ _ q.1)⟩
theorem limD_r (hV : mV N) {h f x : Int} (h0 : 0 ≤ h) (h1 : h < 4) (x0 : -1 ≤ x) (x1 : x ≤ 1) : ∀ g, 0 ≤ g → g < N 2 → zrg (limD N h f x g) := fun g g0 g1 => by
  have hn := hV.n
  have a := hV.p g h g0 (by omega) (by omega) h1
  unfold limD
  by_cases z : g = f
  · rw [if_pos z]; rw [z] at a; constructor <;> omega
  · rw [if_neg z]; constructor <;> omega
theorem mHs_n (hV : mV N) (f : Int) : mHs N (-1) f (nS N) = 0 := by
  have hs := nS_eq hV
  refine (zsum_congr (g := fun _ => 0) fun s hs2 => ?_).trans (zsum_0 _)
  have := hV.s (s : Int) (by omega) (by omega)
  exact (zbF (by omega)).symm
theorem oL_hi {f y : Int} (h : ((nH N + 1 : Nat) : Int) ≤ y) (hh : N 0 = (nH N : Int)) : oL N f y = -1000000000 := if_neg (by omega)
theorem oM_hi {f y : Int} (h : ((nH N + 1 : Nat) : Int) ≤ y) (hh : N 0 = (nH N : Int)) : oM N f y = -1000000000 := if_neg (by omega)
/-- one pair of places -/
theorem bm_step (hV : mV N) {f x : Nat} (hf : f < nF N) (hx : x < 25) {fo mo a b : Int} (j : bmJ N (100 * (f : Int) + 10 * ((x : Int) / 5) + (x : Int) % 5) fo mo) (ea : a = oL N f ((x : Int) / 5)) (eb : b = oM N f ((x : Int) % 5)) (la : a ≤ 60000000) (lb : b ≤ 60000000) :
    bmJ N (100 * (f : Int) + 10 * (((x + 1 : Nat) : Int) / 5) + ((x + 1 : Nat) : Int) % 5) (if (x : Int) / 5 ≠ (x : Int) % 5 ∧ mo < a + b then 100 * (f : Int) + 10 * ((x : Int) / 5) + (x : Int) % 5 else fo) (if (x : Int) / 5 ≠ (x : Int) % 5 ∧ mo < a + b then a + b else mo) := by
  have hn := hV.n
  have hfe := nF_eq hV
  have mo0 := j.1
  obtain ⟨p, hp⟩ : ∃ p : Int, (x : Int) / 5 = p + 1 := ⟨(x : Int) / 5 - 1, by omega⟩
  obtain ⟨q, hq⟩ : ∃ q : Int, (x : Int) % 5 = q + 1 := ⟨(x : Int) % 5 - 1, by omega⟩
  have q0 : -1 ≤ q ∧ q ≤ 3 := by omega
  have p0 : -1 ≤ p ∧ p ≤ 3 := by omega
  have en : ((x + 1 : Nat) : Int) / 5 = p + 1 ∧ ((x + 1 : Nat) : Int) % 5 = q + 2 ∨ ((x + 1 : Nat) : Int) / 5 = p + 2 ∧ ((x + 1 : Nat) : Int) % 5 = 0 ∧ q = 3 := by omega
  rw [hp] at ea
  rw [hq] at eb
  rw [hp, hq] at j ⊢
  have ep : p + 1 - 1 = p := by omega
  have eq1 : q + 1 - 1 = q := by omega
  have ec : 100 * (f : Int) + 10 * (p + 1) + (q + 1) = cdM f p q := by unfold cdM; omega
  unfold oL at ea
  unfold oM at eb
  rw [ep] at ea
  rw [eq1] at eb
  by_cases v : p < N 0 ∧ q < N 0
  · have vt : vT N f p q := ⟨⟨by omega, by omega⟩, ⟨by omega, v.1⟩, ⟨by omega, v.2⟩⟩
    rw [ec] at j ⊢
    have s := bmJ_step (by omega) vt j
    rw [if_pos (by omega)] at ea eb
    have hb := mHs_b N p f (nS N)
    have key : ((p + 1 ≠ q + 1 ∧ mo < a + b) ↔ mo < bmM N f p q) ∧ (mo < bmM N f p q → a + b = bmM N f p q) := by
      by_cases cm : cmP N f p q
      · have em : bmM N f p q = mbV N f p q := if_pos cm
        obtain ⟨c1, c2, c3, c4⟩ := cm
        have la2 : mHs N p f (nS N) < mP N f p := by
          rcases c4 with c4 | c4
          · rw [c4, mHs_n hV]; rw [c4] at c2; exact c2
          · exact c4
        rw [if_pos la2] at ea
        rw [if_pos c3] at eb
        have : a + b = bmM N f p q := by rw [em, ea, eb]; rfl
        rw [this]
        exact ⟨⟨fun z => z.2, fun z => ⟨by omega, z⟩⟩, fun _ => rfl⟩
      · have em : bmM N f p q = 0 := if_neg cm
        rw [em]
        refine ⟨⟨fun z => ?_, fun z => by omega⟩, fun z => by omega⟩
        exfalso
        apply cm
        have zl : mHs N p f (nS N) < mP N f p := Decidable.byContradiction fun w => by rw [if_neg w] at ea; omega
        have zm : mP N f q < 9 := Decidable.byContradiction fun w => by rw [if_neg w] at eb; omega
        exact ⟨by omega, by omega, zm, Or.inr zl⟩
    have e1 : (if p + 1 ≠ q + 1 ∧ mo < a + b then cdM f p q else fo) = if mo < bmM N f p q then cdM f p q else fo := by
      by_cases z : mo < bmM N f p q
      · rw [if_pos (key.1.mpr z), if_pos z]
      · rw [if_neg (fun w => z (key.1.mp w)), if_neg z]
    have e2 : (if p + 1 ≠ q + 1 ∧ mo < a + b then a + b else mo) = max mo (bmM N f p q) := by
      by_cases z : mo < bmM N f p q
      · rw [if_pos (key.1.mpr z), key.2 z]; omega
      · rw [if_neg (fun w => z (key.1.mp w))]; omega
    rw [e1, e2]
    refine bmJ_skip s ?_ fun f2 p2 q2 w l => ?_
    · unfold cdM; rcases en with ⟨e, e'⟩ | ⟨e, e', e3⟩ <;> rw [e, e'] <;> omega
    · obtain ⟨w1, w2, w3⟩ := w
      unfold cdM at l ⊢
      rcases en with ⟨e, e'⟩ | ⟨e, e', e3⟩ <;> rw [e, e'] at l <;> omega
  · have no : ¬ (p + 1 ≠ q + 1 ∧ mo < a + b) := fun z => by
      by_cases c : p < N 0
      · rw [if_neg (by omega)] at eb; omega
      · rw [if_neg (by omega)] at ea; omega
    rw [if_neg no, if_neg no]
    refine bmJ_skip j ?_ fun f2 p2 q2 w l => ?_
    · rcases en with ⟨e, e'⟩ | ⟨e, e', e3⟩ <;> rw [e, e'] <;> omega
    · obtain ⟨w1, w2, w3⟩ := w
      unfold cdM at l ⊢
      rcases en with ⟨e, e'⟩ | ⟨e, e', e3⟩ <;> rw [e, e'] at l <;> omega
theorem zia_N {h h2 : Nat} {i j v : Int} (e : h2 ≠ h) : zia (zsi σ h i v) h2 j = zia σ h2 j := zsi_N e rfl
end ZC15

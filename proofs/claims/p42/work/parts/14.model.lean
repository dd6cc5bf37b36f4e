/-! the reference: its cells, and its small methods -/
section ZM
def zmf : List (Nat × Nat × Nat) := [(0, 1, 312), (1, 1, 312), (2, 1, 312), (3, 1, 3120), (7, 1, 70), (8, 3, 10), (9, 1, 4), (10, 1, 4), (11, 1, 4), (14, 1, 4), (15, 3, 10), (16, 1, 40), (18, 1, 700), (28, 6, 9), (29, 1, 200), (30, 4, 200)]
variable {G : zG} {d : Nat} {σ : zMem} {hm : Nat} {A : Nat → Nat}
theorem zsi_same (σ : zMem) (h : Nat) (j v : Int) : zia (zsi σ h j v) h j = v := by rw [zia_si, if_pos ⟨rfl, rfl⟩]
theorem zsi_F {h : Nat} {j k v x : Int} (hne : k ≠ j) (hF : zia σ h k = x) : zia (zsi σ h j v) h k = x := by rw [zia_si, if_neg (fun q => hne q.2)]; exact hF
theorem zsi_at {h h' : Nat} {j v : Int} {f : Int → Int} (hne : h' ≠ h) (hN : zia σ h' = f) : zia (zsi σ h j v) h' = f := by
  rw [← hN]
  funext i
  rw [zia_si, if_neg (fun q => hne q.1)]
theorem zMo_h1 : ∀ q ∈ zmf, q.2.1 ≠ 0 := by decide
def mH (N : Int → Int) (h f : Int) : Int := N (6 + 2 * h + f)
def mS (N : Int → Int) (s f : Int) : Int := N (14 + 8 * s + f)
def mF (N : Int → Int) (f k : Int) : Int := N (94 + 10 * f + k)
def mP (N : Int → Int) (f p : Int) : Int := N (154 + 5 * f + p + 1)
def mR (N : Int → Int) (h f : Int) : Int := N (184 + 6 * h + f)
def mCap (N : Int → Int) (s : Int) : Int := mS N s 1 * mS N s 2
def mPrice (N : Int → Int) (s : Int) : Int := mH N (mS N s 0) 0
def mSh (N : Int → Int) (s day : Int) : Int := if mS N s 5 ≠ -1 ∧ mS N s 6 ≤ day then mS N s 5 else mS N s 4
theorem mSh_rg {N : Int → Int} (hb : ∀ j, zrg (N j)) (s day : Int) : zrg (mSh N s day) := by
  unfold mSh
  split
  · exact hb _
  · exact hb _
def mShows (N : Int → Int) (s h f day : Int) : Prop := mS N s 0 = h ∧ mSh N s day = f
theorem mShows_dec (N : Int → Int) (s h f day : Int) : mShows N s h f day ↔ (mS N s 0 = h ∧ mSh N s day = f) := Iff.rfl
end ZM

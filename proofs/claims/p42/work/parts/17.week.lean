/-! the reference: a week's visitors -/
section ZV
variable {G : zG} {d : Nat} {σ : zMem} {hm : Nat} {A : Nat → Nat}
theorem zsum_upd {f g : Int → Int} {j : Nat} : ∀ {n : Nat}, j < n → (∀ i : Nat, i < n → i ≠ j → g i = f i) → zsum g n = zsum f n + (g j - f j) := by
  intro n
  induction n with
  | zero => intro h; exact absurd h (Nat.not_lt_zero _)
  | succ n ih =>
    intro h e
    show zsum g n + g n = zsum f n + f n + (g j - f j)
    by_cases q : j = n
    · subst q
      rw [zsum_congr fun i hi => e i (by omega) (by omega)]
      omega
    · rw [ih (by omega) fun i hi => e i (by omega), e n (by omega) (fun z => q z.symm)]
      omega
def sBef (N : Int → Int) (o s : Int) : Prop := mCap N s < mCap N o ∨ (mCap N o = mCap N s ∧ o < s)
def gvS (N : Int → Int) (s day : Int) (n : Nat) : Int := zsum (fun o => if o ≠ s ∧ mS N o 0 = mS N s 0 ∧ (mCap N s < mCap N o ∨ (mCap N o = mCap N s ∧ o < s)) ∧ mSh N o day = mSh N s day then mCap N o else 0) n
def gv (N : Int → Int) (s day : Int) : Int := if 0 ≤ s ∧ s < N 1 ∧ 0 ≤ mSh N s day ∧ mSh N s day < N 2 then max 0 (min (mDem N (mSh N s day) - gvS N s day (nS N)) (mCap N s)) else 0
def mLargN (N sv : Int → Int) (h f day : Int) : Nat → Int
  | 0 => -1
  | n + 1 => if sv n = 0 ∧ mS N n 0 = h ∧ mSh N n day = f ∧ (mLargN N sv h f day n = -1 ∨ mCap N (mLargN N sv h f day n) < mCap N n) then n else mLargN N sv h f day n
theorem mLarg_b {N sv : Int → Int} {h f day : Int} (n : Nat) : -1 ≤ mLargN N sv h f day n ∧ mLargN N sv h f day n < n := by
  induction n with
  | zero => show (-1 : Int) ≤ -1 ∧ (-1 : Int) < ((0 : Nat) : Int); omega
  | succ n ih =>
    unfold mLargN
    split <;> omega
theorem mLarg_p {N sv : Int → Int} {h f day : Int} (n : Nat) :
    (mLargN N sv h f day n = -1 ∧ ∀ o : Nat, o < n → mS N o 0 = h → mSh N o day = f → sv o ≠ 0) ∨
    (0 ≤ mLargN N sv h f day n ∧ sv (mLargN N sv h f day n) = 0 ∧ mS N (mLargN N sv h f day n) 0 = h ∧ mSh N (mLargN N sv h f day n) day = f ∧ ∀ o : Nat, o < n → mS N o 0 = h → mSh N o day = f → sv o = 0 → (o : Int) = mLargN N sv h f day n ∨ sBef N (mLargN N sv h f day n) o) := by
  induction n with
  | zero => exact Or.inl ⟨rfl, fun o ho => absurd ho (Nat.not_lt_zero _)⟩
  | succ n ih =>
    have hb := mLarg_b (N := N) (sv := sv) (h := h) (f := f) (day := day) n
    unfold mLargN
    by_cases c : sv n = 0 ∧ mS N n 0 = h ∧ mSh N n day = f ∧ (mLargN N sv h f day n = -1 ∨ mCap N (mLargN N sv h f day n) < mCap N n)
    · rw [if_pos c]
      refine Or.inr ⟨by omega, c.1, c.2.1, c.2.2.1, fun o ho h1 h2 h3 => ?_⟩
      by_cases q : o = n
      · exact Or.inl (by rw [q])
      · rcases ih with ⟨e, a⟩ | ⟨e, _, _, _, a⟩
        · exact absurd h3 (a o (by omega) h1 h2)
        · rcases c.2.2.2 with c1 | c1
          · omega
          · right
            unfold sBef
            rcases a o (by omega) h1 h2 h3 with z | z
            · rw [z]; omega
            · unfold sBef at z; omega
    · rw [if_neg c]
      rcases ih with ⟨e, a⟩ | ⟨e, a1, a2, a3, a⟩
      · refine Or.inl ⟨e, fun o ho h1 h2 h3 => ?_⟩
        by_cases q : o = n
        · subst q
          exact c ⟨h3, h1, h2, Or.inl e⟩
        · exact a o (by omega) h1 h2 h3
      · refine Or.inr ⟨e, a1, a2, a3, fun o ho h1 h2 h3 => ?_⟩
        by_cases q : o = n
        · subst q
          right
          have : ¬ mCap N (mLargN N sv h f day o) < mCap N o := fun z => c ⟨h3, h1, h2, Or.inr z⟩
          unfold sBef
          omega
        · exact a o (by omega) h1 h2 h3
/-- a day of a film in a house: who has been served -/
def LD (N : Int → Int) (h f day : Int) (sv0 gg0 sv gg : Int → Int) (left : Int) : Prop :=
  (∀ j : Int, 0 ≤ j → j < 10 → sv j = 0 ∨ sv j = 1) ∧
  (∀ s : Nat, s < nS N → mS N s 0 = h → mSh N s day = f → sv s = 1 → gg (7 * s + day) = gv N s day ∧ ∀ o : Nat, o < nS N → mS N o 0 = h → mSh N o day = f → sBef N o s → sv o = 1) ∧
  (∀ j, (∀ s : Nat, s < nS N → mS N s 0 = h → mSh N s day = f → j ≠ (s : Int)) → sv j = sv0 j) ∧
  (∀ j, (∀ s : Nat, s < nS N → mS N s 0 = h → mSh N s day = f → j ≠ 7 * (s : Int) + day) → gg j = gg0 j) ∧
  left = max 0 (mDem N f - zsum (fun o => if mS N o 0 = h ∧ mSh N o day = f ∧ sv o = 1 then mCap N o else 0) (nS N))
theorem LD_step {N : Int → Int} (hV : mV N) {h f day : Int} (f0 : 0 ≤ f) (f1 : f < N 2) {sv0 gg0 sv gg : Int → Int} {left : Int} (H : LD N h f day sv0 gg0 sv gg left) {s : Nat} (hs : s < nS N) (c1 : mS N s 0 = h) (c2 : mSh N s day = f) (c3 : sv s = 0)
    (c4 : ∀ o : Nat, o < nS N → mS N o 0 = h → mSh N o day = f → sv o = 0 → (o : Int) = s ∨ sBef N s o) {sv' gg' : Int → Int} (e1 : ∀ j, sv' j = if j = s then 1 else sv j) (e2 : ∀ j, gg' j = if j = 7 * s + day then min left (mCap N s) else gg j) (d0 : 0 ≤ day) (d1 : day < 7) :
    LD N h f day sv0 gg0 sv' gg' (left - min left (mCap N s)) := by
  obtain ⟨h1, h2, h3, h4, h5⟩ := H
  have hn := nS_eq hV
  have hcap := mCap_b hV (s := s) (by omega) (by omega)
  have hsum : zsum (fun o => if mS N o 0 = h ∧ mSh N o day = f ∧ sv o = 1 then mCap N o else 0) (nS N) = gvS N s day (nS N) := by
    refine zsum_congr fun o ho => ?_
    by_cases q : mS N o 0 = h ∧ mSh N o day = f
    · obtain ⟨q1, q2⟩ := q
      rcases h1 o (by omega) (by omega) with z | z
      · rw [if_neg (by omega)]
        rcases c4 o ho q1 q2 z with y | y
        · rw [if_neg (by omega)]
        · rw [if_neg]
          unfold sBef at y
          intro w
          omega
      · rw [if_pos ⟨q1, q2, z⟩, if_pos]
        refine ⟨fun w => ?_, by omega, ?_, by omega⟩
        · rw [w] at z; omega
        · rcases Decidable.em (mCap N s < mCap N o ∨ (mCap N o = mCap N s ∧ (o : Int) < s)) with y | y
          · exact y
          · exfalso
            have hne : (o : Int) ≠ s := fun w => by rw [w] at z; omega
            have hb : sBef N s o := by unfold sBef; omega
            have := (h2 o ho q1 q2 z).2 s hs c1 c2 hb
            omega
    · rw [if_neg (fun w => q ⟨w.1, w.2.1⟩), if_neg (fun w => q ⟨by omega, by omega⟩)]
  have hgv : min left (mCap N s) = gv N s day := by
    unfold gv
    rw [if_pos ⟨by omega, by omega, by omega, by omega⟩, c2, ← hsum, h5]
    omega
  refine ⟨fun j j0 j1 => ?_, fun s2 b1 b2 b3 b4 => ?_, fun j b => ?_, fun j b => ?_, ?_⟩
  · rw [e1]; split
    · exact Or.inr rfl
    · exact h1 j j0 j1
  · by_cases q : s2 = s
    · subst q
      refine ⟨by rw [e2, if_pos rfl, hgv], fun o g1 g2 g3 g4 => ?_⟩
      rw [e1]
      split
      · rfl
      · rcases h1 o (by omega) (by omega) with z | z
        · exfalso
          rcases c4 o g1 g2 g3 z with y | y
          · omega
          · unfold sBef at y g4; omega
        · exact z
    · rw [e1, if_neg (by omega)] at b4
      obtain ⟨a1, a2⟩ := h2 s2 b1 b2 b3 b4
      refine ⟨by rw [e2, if_neg (by omega), a1], fun o g1 g2 g3 g4 => ?_⟩
      rw [e1]
      split
      · rfl
      · exact a2 o g1 g2 g3 g4
  · rw [e1, if_neg (b s hs c1 c2), h3 j b]
  · rw [e2, if_neg (b s hs c1 c2), h4 j b]
  · have hu := zsum_upd (f := fun o => if mS N o 0 = h ∧ mSh N o day = f ∧ sv o = 1 then mCap N o else 0) (g := fun o => if mS N o 0 = h ∧ mSh N o day = f ∧ sv' o = 1 then mCap N o else 0) hs (fun i hi hne => by
      have : sv' i = sv i := by rw [e1, if_neg (by omega)]
      show (if mS N i 0 = h ∧ mSh N i day = f ∧ sv' i = 1 then mCap N i else 0) = if mS N i 0 = h ∧ mSh N i day = f ∧ sv i = 1 then mCap N i else 0
      rw [this])
    have a : sv' s = 1 := by rw [e1, if_pos rfl]
    have b1 : (if mS N s 0 = h ∧ mSh N s day = f ∧ sv' s = 1 then mCap N s else 0) = mCap N s := if_pos ⟨c1, c2, a⟩
    have b2 : (if mS N s 0 = h ∧ mSh N s day = f ∧ sv s = 1 then mCap N s else 0) = 0 := if_neg (by omega)
    rw [hu, b1, b2, h5]
    omega
theorem LD_stepI {N : Int → Int} (hV : mV N) {h f day : Int} (f0 : 0 ≤ f) (f1 : f < N 2) {sv0 gg0 sv gg : Int → Int} {left : Int} (H : LD N h f day sv0 gg0 sv gg left) {s : Int} (es : s = mLargN N sv h f day (nS N)) (s0 : ¬ s = -1) {sv' gg' : Int → Int} (e1 : ∀ j, sv' j = if j = s then 1 else sv j) (e2 : ∀ j, gg' j = if j = 7 * s + day then min left (mCap N s) else gg j) (d0 : 0 ≤ day) (d1 : day < 7) :
    LD N h f day sv0 gg0 sv' gg' (left - min left (mCap N s)) := by
  have hb := mLarg_b (N := N) (sv := sv) (h := h) (f := f) (day := day) (nS N)
  rcases mLarg_p (N := N) (sv := sv) (h := h) (f := f) (day := day) (nS N) with ⟨p, _⟩ | ⟨p0, p1, p2, p3, p4⟩
  · omega
  · rw [← es] at hb p0 p1 p2 p3 p4
    obtain ⟨n, rfl⟩ := Int.eq_ofNat_of_zero_le p0
    exact LD_step hV f0 f1 H (by omega) p2 p3 p1 p4 e1 e2 d0 d1
def uC (sv : Int → Int) (n : Nat) : Nat := (zsum (fun o => if sv o = 0 then 1 else 0) n).toNat
theorem uC_step {N sv sv' : Int → Int} {h f day s : Int} (es : s = mLargN N sv h f day (nS N)) (s0 : ¬ s = -1) (e1 : ∀ j, sv' j = if j = s then 1 else sv j) : uC sv' (nS N) < uC sv (nS N) := by
  have hb := mLarg_b (N := N) (sv := sv) (h := h) (f := f) (day := day) (nS N)
  rcases mLarg_p (N := N) (sv := sv) (h := h) (f := f) (day := day) (nS N) with ⟨p, _⟩ | ⟨p0, p1, p2, p3, p4⟩
  · omega
  · rw [← es] at hb p0 p1
    obtain ⟨n, rfl⟩ := Int.eq_ofNat_of_zero_le p0
    have hu := zsum_upd (f := fun o => if sv o = 0 then 1 else 0) (g := fun o => if sv' o = 0 then 1 else 0) (n := nS N) (j := n) (by omega) (fun i hi hne => by
      have : sv' i = sv i := by rw [e1, if_neg (by omega)]
      show (if sv' (i : Int) = 0 then (1 : Int) else 0) = if sv (i : Int) = 0 then 1 else 0
      rw [this])
    have a1 : sv' (n : Int) = 1 := by rw [e1, if_pos rfl]
    have a : (if sv' (n : Int) = 0 then (1 : Int) else 0) = 0 := by rw [a1]; rfl
    have b : (if sv (n : Int) = 0 then (1 : Int) else 0) = 1 := if_pos p1
    have c := zsum_ge (f := fun o => if sv' o = 0 then 1 else 0) (n := nS N) (a := 0) fun i _ => by split <;> omega
    unfold uC
    rw [hu]
    rw [hu] at c
    simp only [a, b] at c ⊢
    omega
def LDone (N : Int → Int) (h f day : Int) (sv0 gg0 sv gg : Int → Int) : Prop :=
  (∀ j : Int, 0 ≤ j → j < 10 → sv j = 0 ∨ sv j = 1) ∧ (∀ s : Nat, s < nS N → mS N s 0 = h → mSh N s day = f → sv s = 1 ∧ gg (7 * s + day) = gv N s day) ∧
  (∀ j, (∀ s : Nat, s < nS N → mS N s 0 = h → mSh N s day = f → j ≠ (s : Int)) → sv j = sv0 j) ∧
  (∀ j, (∀ s : Nat, s < nS N → mS N s 0 = h → mSh N s day = f → j ≠ 7 * (s : Int) + day) → gg j = gg0 j)
theorem LD_done {N : Int → Int} (hV : mV N) {h f day : Int} {sv0 gg0 sv gg : Int → Int} {left s : Int} (H : LD N h f day sv0 gg0 sv gg left) (es : s = mLargN N sv h f day (nS N)) (s0 : s = -1) : LDone N h f day sv0 gg0 sv gg := by
  obtain ⟨h1, h2, h3, h4, h5⟩ := H
  refine ⟨h1, fun s2 a b c => ?_, h3, h4⟩
  rcases mLarg_p (N := N) (sv := sv) (h := h) (f := f) (day := day) (nS N) with ⟨_, p⟩ | ⟨p0, _⟩
  · have hn := nS_eq hV
    have := (h1 s2 (by omega) (by omega)).resolve_left (p s2 a b c)
    exact ⟨this, (h2 s2 a b c this).1⟩
  · omega
theorem LD_start {N : Int → Int} (hV : mV N) {h f day : Int} {sv0 gg0 : Int → Int} (f0 : 0 ≤ f) (f1 : f < N 2) (hsv : ∀ j : Int, 0 ≤ j → j < 10 → sv0 j = 0 ∨ sv0 j = 1) (hz : ∀ s : Nat, s < nS N → mS N s 0 = h → mSh N s day = f → sv0 s = 0) : LD N h f day sv0 gg0 sv0 gg0 (mDem N f) := by
  have hn := hV.n
  have hd := mDem_b hV f0 (by omega) (mAge N f).toNat
  refine ⟨hsv, fun s a b c e => absurd e (by rw [hz s a b c]; decide), fun _ _ => rfl, fun _ _ => rfl, ?_⟩
  have : zsum (fun o => if mS N o 0 = h ∧ mSh N o day = f ∧ sv0 o = 1 then mCap N o else 0) (nS N) = zsum (fun _ => 0) (nS N) := zsum_congr fun o ho => if_neg fun q => by
    have := hz o ho q.1 q.2.1
    omega
  have z : ∀ n, zsum (fun _ => 0) n = 0 := by
    intro n
    induction n with
    | zero => rfl
    | succ n ih => show zsum (fun _ => 0) n + 0 = 0; rw [ih]; rfl
  rw [this, z]
  unfold mDem
  omega
theorem LD_left {N : Int → Int} (hV : mV N) {h f day : Int} {sv0 gg0 sv gg : Int → Int} {left : Int} (H : LD N h f day sv0 gg0 sv gg left) (f0 : 0 ≤ f) (f1 : f < 6) : 0 ≤ left ∧ left ≤ 9999 := by
  have hn := nS_eq hV
  have hd := mDem_b hV f0 f1 (mAge N f).toNat
  have a := zsum_ge (f := fun o => if mS N o 0 = h ∧ mSh N o day = f ∧ sv o = 1 then mCap N o else 0) (n := nS N) (a := 0) fun i hi => by have := mCap_b hV (s := i) (by omega) (by omega); split <;> omega
  have := H.2.2.2.2
  unfold mDem at this
  omega
end ZV

/-! the reference: a week's visitors -/
section ZV
variable {G : zG} {d : Nat} {σ : zMem} {hm : Nat} {A : Nat → Nat}
theorem zsum_upd {f g : Int → Int} {j : Nat} : ∀ {n : Nat}, j < n → (∀ i : Nat, i < n → i ≠ j → g i = f i) → zsum g n = zsum f n + (g j - f j) := by
  intro n
  induction n with
  | zero => intro h; exact absurd h (Nat.not_lt_zero _)
  | succ n ih =>
    intro h e
    show zsum g n + g n = zsum f n + f n + (g j - f j)
    by_cases q : j = n
    · subst q
      rw [zsum_congr fun i hi => e i (by omega) (by omega)]
      omega
    · rw [ih (by omega) fun i hi => e i (by omega), e n (by omega) (fun z => q z.symm)]
      omega
def sBef (N : Int → Int) (o s : Int) : Prop := mCap N s < mCap N o ∨ (mCap N o = mCap N s ∧ o < s)
def gvS (N : Int → Int) (s day : Int) (n : Nat) : Int := zsum (fun o => if o ≠ s ∧ mS N o 0 = mS N s 0 ∧ (mCap N s < mCap N o ∨ (mCap N o = mCap N s ∧ o < s)) ∧ mSh N o day = mSh N s day then mCap N o else 0) n
def gv (N : Int → Int) (s day : Int) : Int := if 0 ≤ s ∧ s < N 1 ∧ 0 ≤ mSh N s day ∧ mSh N s day < N 2 then max 0 (min (mDem N (mSh N s day) - gvS N s day (nS N)) (mCap N s)) else 0
def mLargN (N sv : Int → Int) (h f day : Int) : Nat → Int
  | 0 => -1
  | n + 1 => if sv n = 0 ∧ mS N n 0 = h ∧ mSh N n day = f ∧ (mLargN N sv h f day n = -1 ∨ mCap N (mLargN N sv h f day n) < mCap N n) then n else mLargN N sv h f day n
theorem mLarg_b {N sv : Int → Int} {h f day : Int} (n : Nat) : -1 ≤ mLargN N sv h f day n ∧ mLargN N sv h f day n < n := by
  induction n with
  | zero => show (-1 : Int) ≤ -1 ∧ (-1 : Int) < ((0 : Nat) : Int); omega
  | succ n ih =>
    unfold mLargN
    split <;> omega
theorem mLarg_p {N sv : Int → Int} {h f day : Int} (n : Nat) :
    (mLargN N sv h f day n = -1 ∧ ∀ o : Nat, o < n → mS N o 0 = h → mSh N o day = f → sv o ≠ 0) ∨
    (0 ≤ mLargN N sv h f day n ∧ sv (mLargN N sv h f day n) = 0 ∧ mS N (mLargN N sv h f day n) 0 = h ∧ mSh N (mLargN N sv h f day n) day = f ∧ ∀ o : Nat, o < n → mS N o 0 = h → mSh N o day = f → sv o = 0 → (o : Int) = mLargN N sv h f day n ∨ sBef N (mLargN N sv h f day n) o) := by
  induction n with
  | zero => exact Or.inl ⟨rfl, fun o ho => absurd ho (Nat.not_lt_zero _)⟩
  | succ n ih =>
    have hb := mLarg_b (N := N) (sv := sv) (h := h) (f := f) (day := day) n
    unfold mLargN
    by_cases c : sv n = 0 ∧ mS N n 0 = h ∧ mSh N n day = f ∧ (mLargN N sv h f day n = -1 ∨ mCap N (mLargN N sv h f day n) < mCap N n)
    · rw [if_pos c]
      refine Or.inr ⟨by omega, c.1, c.2.1, c.2.2.1, fun o ho h1 h2 h3 => ?_⟩
      by_cases q : o = n
      · exact Or.inl (by rw [q])
      · rcases ih with ⟨e, a⟩ | ⟨e, _, _, _, a⟩
        · exact absurd h3 (a o (by omega) h1 h2)
        · rcases c.2.2.2 with c1 | c1
          · omega
          · right
            unfold sBef
            rcases a o (by omega) h1 h2 h3 with z | z
            · rw [z]; omega
            · unfold sBef at z; omega
    · rw [if_neg c]
      rcases ih with ⟨e, a⟩ | ⟨e, a1, a2, a3, a⟩
      · refine Or.inl ⟨e, fun o ho h1 h2 h3 => ?_⟩
        by_cases q : o = n
        · subst q
          exact c ⟨h3, h1, h2, Or.inl e⟩
        · exact a o (by omega) h1 h2 h3
      · refine Or.inr ⟨e, a1, a2, a3, fun o ho h1 h2 h3 => ?_⟩
        by_cases q : o = n
        · subst q
          right
          have : ¬ mCap N (mLargN N sv h f day o) < mCap N o := fun z => c ⟨h3, h1, h2, Or.inr z⟩
          unfold sBef
          omega
        · exact a o (by omega) h1 h2 h3
/-- a day of a film in a house: who has been served -/
def LD (N : Int → Int) (h f day : Int) (sv0 gg0 sv gg : Int → Int) (left : Int) : Prop :=
  (∀ j : Int, 0 ≤ j → j < 10 → sv j = 0 ∨ sv j = 1) ∧
  (∀ s : Nat, s < nS N → mS N s 0 = h → mSh N s day = f → sv s = 1 → gg (7 * s + day) = gv N s day ∧ ∀ o : Nat, o < nS N → mS N o 0 = h → mSh N o day = f → sBef N o s → sv o = 1) ∧
  (∀ j, (∀ s : Nat, s < nS N → mS N s 0 = h → mSh N s day = f → j ≠ (s : Int)) → sv j = sv0 j) ∧
  (∀ j, (∀ s : Nat, s < nS N → mS N s 0 = h → mSh N s day = f → j ≠ 7 * (s : Int) + day) → gg j = gg0 j) ∧
  left = max 0 (mDem N f - zsum (fun o => if mS N o 0 = h ∧ mSh N o day = f ∧ sv o = 1 then mCap N o else 0) (nS N))
theorem LD_step {N : Int → Int} (hV : mV N) {h f day : Int} (f0 : 0 ≤ f) (f1 : f < N 2) {sv0 gg0 sv gg : Int → Int} {left : Int} (H : LD N h f day sv0 gg0 sv gg left) {s : Nat} (hs : s < nS N) (c1 : mS N s 0 = h) (c2 : mSh N s day = f) (c3 : sv s = 0)
    (c4 : ∀ o : Nat, o < nS N → mS N o 0 = h → mSh N o day = f → sv o = 0 → (o : Int) = s ∨ sBef N s o) {sv' gg' : Int → Int} (e1 : ∀ j, sv' j = if j = s then 1 else sv j) (e2 : ∀ j, gg' j = if j = 7 * s + day then min left (mCap N s) else gg j) (d0 : 0 ≤ day) (d1 : day < 7) :
    LD N h f day sv0 gg0 sv' gg' (left - min left (mCap N s)) := by
  obtain ⟨h1, h2, h3, h4, h5⟩ := H
  have hn := nS_eq hV
  have hcap := mCap_b hV (s := s) (by omega) (by omega)
  have hsum : zsum (fun o => if mS N o 0 = h ∧ mSh N o day = f ∧ sv o = 1 then mCap N o else 0) (nS N) = gvS N s day (nS N) := by
    refine zsum_congr fun o ho => ?_
    by_cases q : mS N o 0 = h ∧ mSh N o day = f
    · obtain ⟨q1, q2⟩ := q
      rcases h1 o (by omega) (by omega) with z | z
      · rw [if_neg (by omega)]
        rcases c4 o ho q1 q2 z with y | y
        · rw [if_neg (by omega)]
        · rw [if_neg]
          unfold sBef at y
          intro w
          omega
      · rw [if_pos ⟨q1, q2, z⟩, if_pos]
        refine ⟨fun w => ?_, by omega, ?_, by omega⟩
        · rw [w] at z; omega
        · rcases Decidable.em (mCap N s < mCap N o ∨ (mCap N o = mCap N s ∧ (o : Int) < s)) with y | y
          · exact y
          · exfalso
            have hne : (o : Int) ≠ s := fun w => by rw [w] at z; omega
            have hb : sBef N s o := by unfold sBef; omega
            have := (h2 o ho q1 q2 z).2 s hs c1 c2 hb
            omega
    · rw [if_neg (fun w => q ⟨w.1, w.2.1⟩), if_neg (fun w => q ⟨by omega, by omega⟩)]
  have hgv : min left (mCap N s) = gv N s day := by
    unfold gv
    rw [if_pos ⟨by omega, by omega, by omega, by omega⟩, c2, ← hsum, h5]
    omega
  refine ⟨fun j j0 j1 => ?_, fun s2 b1 b2 b3 b4 => ?_, fun j b => ?_, fun j b => ?_, ?_⟩
  · rw [e1]; split
    · exact Or.inr rfl
    · exact h1 j j0 j1
  · by_cases q : s2 = s
    · subst q
      refine ⟨by rw [e2, if_pos rfl, hgv], fun o g1 g2 g3 g4 => ?_⟩
      rw [e1]
      split
      · rfl
      · rcases h1 o (by omega) (by omega) with z | z
        · exfalso
          rcases c4 o g1 g2 g3 z with y | y
          · omega
          · unfold sBef at y g4; omega
        · exact z
    · rw [e1, if_neg (by omega)] at b4
      obtain ⟨a1, a2⟩ := h2 s2 b1 b2 b3 b4
      refine ⟨by rw [e2, if_neg (by omega), a1], fun o g1 g2 g3 g4 => ?_⟩
      rw [e1]
      split
      · rfl
      · exact a2 o g1 g2 g3 g4
  · rw [e1, if_neg (b s hs c1 c2), h3 j b]
  · rw [e2, if_neg (b s hs c1 c2), h4 j b]
  · have hu := zsum_upd (f := fun o => if mS N o 0 = h ∧ mSh N o day = f ∧ sv o = 1 then mCap N o else 0) (g := fun o => if mS N o 0 = h ∧ mSh N o day = f ∧ sv' o = 1 then mCap N o else 0) hs (fun i hi hne => by
      have : sv' i = sv i := by rw [e1, if_neg (by omega)]
      show (if mS N i 0 = h ∧ mSh N i day = f ∧ sv' i = 1 then mCap N i else 0) = if mS N i 0 = h ∧ mSh N i day = f ∧ sv i = 1 then mCap N i else 0
      rw [this])
    have a : sv' s = 1 := by rw [e1, if_pos rfl]
    have b1 : (if mS N s 0 = h ∧ mSh N s day = f ∧ sv' s = 1 then mCap N s else 0) = mCap N s := if_pos ⟨c1, c2, a⟩
    have b2 : (if mS N s 0 = h ∧ mSh N s day = f ∧ sv s = 1 then mCap N s else 0) = 0 := if_neg (by omega)
    rw [hu, b1, b2, h5]
    omega
theorem LD_stepI {N : Int → Int} (hV : mV N) {h f day : Int} (f0 : 0 ≤ f) (f1 : f < N 2) {sv0 gg0 sv gg : Int → Int} {left : Int} (H : LD N h f day sv0 gg0 sv gg left) {s : Int} (es : s = mLargN N sv h f day (nS N)) (s0 : ¬ s = -1) {sv' gg' : Int → Int} (e1 : ∀ j, sv' j = if j = s then 1 else sv j) (e2 : ∀ j, gg' j = if j = 7 * s + day then min left (mCap N s) else gg j) (d0 : 0 ≤ day) (d1 : day < 7) :
    LD N h f day sv0 gg0 sv' gg' (left - min left (mCap N s)) := by
  have hb := mLarg_b (N := N) (sv := sv) (h := h) (f := f) (day := day) (nS N)
  rcases mLarg_p (N := N) (sv := sv) (h := h) (f := f) (day := day) (nS N) with ⟨p, _⟩ | ⟨p0, p1, p2, p3, p4⟩
  · omega
  · rw [← es] at hb p0 p1 p2 p3 p4
    obtain ⟨n, rfl⟩ := Int.eq_ofNat_of_zero_le p0
    exact LD_step hV f0 f1 H (by omega) p2 p3 p1 p4 e1 e2 d0 d1
def uC (sv : Int → Int) (n : Nat) : Nat := (zsum (fun o => if sv o = 0 then 1 else 0) n).toNat
theorem uC_step {N sv sv' : Int → Int} {h f day s : Int} (es : s = mLargN N sv h f day (nS N)) (s0 : ¬ s = -1) (e1 : ∀ j, sv' j = if j = s then 1 else sv j) : uC sv' (nS N) < uC sv (nS N) := by
  have hb := mLarg_b (N := N) (sv := sv) (h := h) (f := f) (day := day) (nS N)
  rcases mLarg_p (N := N) (sv := sv) (h := h) (f := f) (day := day) (nS N) with ⟨p, _⟩ | ⟨p0, p1, p2, p3, p4⟩
  · omega
  · rw [← es] at hb p0 p1
    obtain ⟨n, rfl⟩ := Int.eq_ofNat_of_zero_le p0
    have hu := zsum_upd (f := fun o => if sv o = 0 then 1 else 0) (g := fun o => if sv' o = 0 then 1 else 0) (n := nS N) (j := n) (by omega) (fun i hi hne => by
      have : sv' i = sv i := by rw [e1, if_neg (by omega)]
      show (if sv' (i : Int) = 0 then (1 : Int) else 0) = if sv (i : Int) = 0 then 1 else 0
      rw [this])
    have a1 : sv' (n : Int) = 1 := by rw [e1, if_pos rfl]
    have a : (if sv' (n : Int) = 0 then (1 : Int) else 0) = 0 := by rw [a1]; rfl
    have b : (if sv (n : Int) = 0 then (1 : Int) else 0) = 1 := if_pos p1
    have c := zsum_ge (f := fun o => if sv' o = 0 then 1 else 0) (n := nS N) (a := 0) fun i _ => by split <;> omega
    unfold uC
    rw [hu]
    rw [hu] at c
    simp only [a, b] at c ⊢
    omega
def LDone (N : Int → Int) (h f day : Int) (sv0 gg0 sv gg : Int → Int) : Prop :=
  (∀ j : Int, 0 ≤ j → j < 10 → sv j = 0 ∨ sv j = 1) ∧ (∀ s : Nat, s < nS N → mS N s 0 = h → mSh N s day = f → sv s = 1 ∧ gg (7 * s + day) = gv N s day) ∧
  (∀ j, (∀ s : Nat, s < nS N → mS N s 0 = h → mSh N s day = f → j ≠ (s : Int)) → sv j = sv0 j) ∧
  (∀ j, (∀ s : Nat, s < nS N → mS N s 0 = h → mSh N s day = f → j ≠ 7 * (s : Int) + day) → gg j = gg0 j)
theorem LD_done {N : Int → Int} (hV : mV N) {h f day : Int} {sv0 gg0 sv gg : Int → Int} {left s : Int} (H : LD N h f day sv0 gg0 sv gg left) (es : s = mLargN N sv h f day (nS N)) (s0 : s = -1) : LDone N h f day sv0 gg0 sv gg := by
  obtain ⟨h1, h2, h3, h4, h5⟩ := H
  refine ⟨h1, fun s2 a b c => ?_, h3, h4⟩
  rcases mLarg_p (N := N) (sv := sv) (h := h) (f := f) (day := day) (nS N) with ⟨_, p⟩ | ⟨p0, _⟩
  · have hn := nS_eq hV
    have := (h1 s2 (by omega) (by omega)).resolve_left (p s2 a b c)
    exact ⟨this, (h2 s2 a b c this).1⟩
  · omega
theorem LD_start {N : Int → Int} (hV : mV N) {h f day : Int} {sv0 gg0 : Int → Int} (f0 : 0 ≤ f) (f1 : f < N 2) (hsv : ∀ j : Int, 0 ≤ j → j < 10 → sv0 j = 0 ∨ sv0 j = 1) (hz : ∀ s : Nat, s < nS N → mS N s 0 = h → mSh N s day = f → sv0 s = 0) : LD N h f day sv0 gg0 sv0 gg0 (mDem N f) := by
  have hn := hV.n
  have hd := mDem_b hV f0 (by omega) (mAge N f).toNat
  refine ⟨hsv, fun s a b c e => absurd e (by rw [hz s a b c]; decide), fun _ _ => rfl, fun _ _ => rfl, ?_⟩
  have : zsum (fun o => if mS N o 0 = h ∧ mSh N o day = f ∧ sv0 o = 1 then mCap N o else 0) (nS N) = zsum (fun _ => 0) (nS N) := zsum_congr fun o ho => if_neg fun q => by
    have := hz o ho q.1 q.2.1
    omega
  have z : ∀ n, zsum (fun _ => 0) n = 0 := by
    intro n
    induction n with
    | zero => rfl
    | succ n ih => show zsum (fun _ => 0) n + 0 = 0; rw [ih]; rfl
  rw [this, z]
  unfold mDem
  omega
theorem LD_left {N : Int → Int} (hV : mV N) {h f day : Int} {sv0 gg0 sv gg : Int → Int} {left : Int} (H : LD N h f day sv0 gg0 sv gg left) (f0 : 0 ≤ f) (f1 : f < 6) : 0 ≤ left ∧ left ≤ 9999 := by
  have hn := nS_eq hV
  have hd := mDem_b hV f0 f1 (mAge N f).toNat
  have a := zsum_ge (f := fun o => if mS N o 0 = h ∧ mSh N o day = f ∧ sv o = 1 then mCap N o else 0) (n := nS N) (a := 0) fun i hi => by have := mCap_b hV (s := i) (by omega) (by omega); split <;> omega
  have := H.2.2.2.2
  unfold mDem at this
  omega
theorem zt_X12_largest {N : Int → Int} {h f b : Int} (hM : zMo σ hm A) (hN : zia σ (A 0) = N) (hV : mV N) (hsv : ∀ j : Int, 0 ≤ j → j < 10 → zia σ (A 8) j = 0 ∨ zia σ (A 8) j = 1) (h2 : zrg h) (h3 : zrg f) (h4 : zrg b) : zP1 G mX12_largest (d + 5) [zR hm, zI h, zI f, zI b] σ (mLargN N (zia σ (A 8)) h f b (nS N)) := by
  refine zE_of rfl (by simp [zcat]) (Nat.le_of_ble_eq_true rfl) ?_
  show zF G mX12_largest (d + 5) 0 [(0, zR hm), (1, zI h), (2, zI f), (3, zI b)] [] σ _
  have hb := hV.b
  have hn := nS_eq hV
  refine zF_iconst 1 dX12_largest_0 rfl ?_
  refine zF_istore 3 (ls' := [(4, zI (-1)), (0, zR hm), (1, zI h), (2, zI f), (3, zI b)]) dX12_largest_1 rfl (by decide) rfl ?_
  refine zF_iconst 4 dX12_largest_3 rfl ?_
  refine zF_istore 6 (ls' := [(5, zI 0), (4, zI (-1)), (0, zR hm), (1, zI h), (2, zI f), (3, zI b)]) dX12_largest_4 rfl (by decide) rfl ?_
  refine zF_locs (ls' := (fun (i : Nat) => [(5, zI (i : Int)), (4, zI (mLargN N (zia σ (A 8)) h f b i)), (0, zR hm), (1, zI h), (2, zI f), (3, zI b)]) 0) ⟨zlI rfl (by first | rfl | omega | (push_cast; omega) | exact congrArg (_ + ·) (zbT (by assumption)) | exact congrArg (_ + ·) (zbF (by assumption)) | exact congrArg (_ + ·) (zbT (by omega)) | exact congrArg (_ + ·) (zbF (by omega)) | exact congrArg (_ + ·) (if_pos (by omega)).symm | exact congrArg (_ + ·) (if_neg (by omega)).symm | exact (if_pos (by omega)).symm | exact (if_neg (by omega)).symm), zlI rfl (by first | rfl | omega | (push_cast; omega) | exact congrArg (_ + ·) (zbT (by assumption)) | exact congrArg (_ + ·) (zbF (by assumption)) | exact congrArg (_ + ·) (zbT (by omega)) | exact congrArg (_ + ·) (zbF (by omega)) | exact congrArg (_ + ·) (if_pos (by omega)).symm | exact congrArg (_ + ·) (if_neg (by omega)).symm | exact (if_pos (by omega)).symm | exact (if_neg (by omega)).symm), rfl, rfl, rfl, rfl, trivial⟩ ?_
  refine zF_loop (n := (nS N)) (fun (i : Nat) => [(5, zI (i : Int)), (4, zI (mLargN N (zia σ (A 8)) h f b i)), (0, zR hm), (1, zI h), (2, zI f), (3, zI b)]) (fun _ => σ) (fun i hi ih6 => ?_) ?_
  · show zF G mX12_largest (d + 5) 6 [(5, zI (i : Int)), (4, zI (mLargN N (zia σ (A 8)) h f b i)), (0, zR hm), (1, zI h), (2, zI f), (3, zI b)] [] σ _
    have q1 := mLarg_b (N := N) (sv := zia σ (A 8)) (h := h) (f := f) (day := b) i
    have q2 := hsv i (by omega) (by omega)
    have q3 := mCap_b hV (s := (i : Int)) (by omega) (by omega)
    have q4 : mLargN N (zia σ (A 8)) h f b i = -1 ∨ (0 ≤ mCap N (mLargN N (zia σ (A 8)) h f b i) ∧ mCap N (mLargN N (zia σ (A 8)) h f b i) ≤ 3000) := by
      rcases Decidable.em (mLargN N (zia σ (A 8)) h f b i = -1) with e | e
      · exact Or.inl e
      · exact Or.inr (mCap_b hV (by omega) (by omega))
    refine zF_iload 8 dX12_largest_6 rfl rfl ?_
    refine zF_aload_n 9 dX12_largest_8 rfl rfl ?_
    refine zF_callVi 12 (d2 := (d + 4)) (as := []) dX12_largest_9 rfl kX12_113 iX12_screens (ci := 12) rfl eX12_screens (Nat.le_refl _) hM.1 hM.2.1 rfl rfl (Nat.le_of_ble_eq_true rfl) (zn_X12_screens hM hN) ?_
    refine zF_icmp_ge 85 15 dX12_largest_12 rfl rfl (by first | decide | exact hb _ | exact mSh_rg hb _ _ | assumption | exact zb_rg _ | (constructor <;> omega)) (by first | decide | exact hb _ | exact mSh_rg hb _ _ | assumption | exact zb_rg _ | (constructor <;> omega)) (fun c1 => ?_) (fun c1 => ?_)
    · exact absurd c1 (by omega)
    · refine zF_aload_n 16 dX12_largest_15 rfl rfl ?_
      refine zF_getR 19 dX12_largest_16 rfl gX12_25 hM.1 hM.2.1 (zM_8 hM).1 ?_
      refine zF_iload 21 dX12_largest_19 rfl rfl ?_
      refine zF_zaload 22 dX12_largest_21 rfl (zM_8 hM).2.2 (zM_8 hM).2.1 (by omega) (by omega) rfl ?_
      refine zF_if_ne 41 25 dX12_largest_22 rfl rfl (by first | decide | exact hb _ | exact mSh_rg hb _ _ | assumption | exact zb_rg _ | (constructor <;> omega)) (fun c2 => ?_) (fun c2 => ?_)
      · refine zF_iconst 42 dX12_largest_41 rfl ?_
        refine zF_istore 44 (ls' := [(6, zI 0), (5, zI (i : Int)), (4, zI (mLargN N (zia σ (A 8)) h f b i)), (0, zR hm), (1, zI h), (2, zI f), (3, zI b)]) dX12_largest_42 rfl (by decide) rfl ?_
        refine zF_iload 46 dX12_largest_44 rfl rfl ?_
        refine zF_if_eq 75 49 dX12_largest_46 rfl rfl (by first | decide | exact hb _ | exact mSh_rg hb _ _ | assumption | exact zb_rg _ | (constructor <;> omega)) (fun c3 => ?_) (fun c3 => ?_)
        · refine zF_iload 77 dX12_largest_75 rfl rfl ?_
          refine zF_istore 79 (ls' := [(4, zI (mLargN N (zia σ (A 8)) h f b i)), (6, zI 0), (5, zI (i : Int)), (0, zR hm), (1, zI h), (2, zI f), (3, zI b)]) dX12_largest_77 rfl (by decide) rfl ?_
          refine zF_iinc 82 (ls' := [(5, zI ((i : Int) + 1)), (4, zI (mLargN N (zia σ (A 8)) h f b i)), (6, zI 0), (0, zR hm), (1, zI h), (2, zI f), (3, zI b)]) dX12_largest_79 rfl rfl rfl (by decide) rfl ?_
          refine zF_goto 6 dX12_largest_82 rfl ?_
          exact zF_locs (ls' := [(5, zI ((i + 1 : Nat) : Int)), (4, zI (mLargN N (zia σ (A 8)) h f b (i + 1))), (0, zR hm), (1, zI h), (2, zI f), (3, zI b)]) ⟨zlI rfl (by first | rfl | omega | (push_cast; omega) | exact congrArg (_ + ·) (zbT (by assumption)) | exact congrArg (_ + ·) (zbF (by assumption)) | exact congrArg (_ + ·) (zbT (by omega)) | exact congrArg (_ + ·) (zbF (by omega)) | exact congrArg (_ + ·) (if_pos (by omega)).symm | exact congrArg (_ + ·) (if_neg (by omega)).symm | exact (if_pos (by omega)).symm | exact (if_neg (by omega)).symm), zlI rfl (by first | rfl | omega | (push_cast; omega) | exact congrArg (_ + ·) (zbT (by assumption)) | exact congrArg (_ + ·) (zbF (by assumption)) | exact congrArg (_ + ·) (zbT (by omega)) | exact congrArg (_ + ·) (zbF (by omega)) | exact congrArg (_ + ·) (if_pos (by omega)).symm | exact congrArg (_ + ·) (if_neg (by omega)).symm | exact (if_pos (by omega)).symm | exact (if_neg (by omega)).symm), rfl, rfl, rfl, rfl, trivial⟩ ih6
        · exact absurd c3 (by decide)
      · refine zF_aload_n 26 dX12_largest_25 rfl rfl ?_
        refine zF_iload 28 dX12_largest_26 rfl rfl ?_
        refine zF_iload_n 29 dX12_largest_28 rfl rfl ?_
        refine zF_iload_n 30 dX12_largest_29 rfl rfl ?_
        refine zF_iload_n 31 dX12_largest_30 rfl rfl ?_
        refine zF_callVi 34 (d2 := (d + 4)) (as := [zI (i : Int), zI h, zI f, zI b]) dX12_largest_31 rfl kX12_132 iX12_shows (ci := 12) rfl eX12_shows (Nat.le_refl _) hM.1 hM.2.1 rfl rfl (Nat.le_of_ble_eq_true rfl) (zn_X12_shows hM hN hb (by omega) (by omega) (by first | decide | exact hb _ | exact mSh_rg hb _ _ | assumption | exact zb_rg _ | (constructor <;> omega)) (by first | decide | exact hb _ | exact mSh_rg hb _ _ | assumption | exact zb_rg _ | (constructor <;> omega)) (by first | decide | exact hb _ | exact mSh_rg hb _ _ | assumption | exact zb_rg _ | (constructor <;> omega))) ?_
        refine zF_ifb_eq 41 37 dX12_largest_34 rfl rfl (fun c4 => ?_) (fun c4 => ?_)
        · refine zF_iconst 42 dX12_largest_41 rfl ?_
          refine zF_istore 44 (ls' := [(6, zI 0), (5, zI (i : Int)), (4, zI (mLargN N (zia σ (A 8)) h f b i)), (0, zR hm), (1, zI h), (2, zI f), (3, zI b)]) dX12_largest_42 rfl (by decide) rfl ?_
          refine zF_iload 46 dX12_largest_44 rfl rfl ?_
          refine zF_if_eq 75 49 dX12_largest_46 rfl rfl (by first | decide | exact hb _ | exact mSh_rg hb _ _ | assumption | exact zb_rg _ | (constructor <;> omega)) (fun c5 => ?_) (fun c5 => ?_)
          · refine zF_iload 77 dX12_largest_75 rfl rfl ?_
            refine zF_istore 79 (ls' := [(4, zI (mLargN N (zia σ (A 8)) h f b i)), (6, zI 0), (5, zI (i : Int)), (0, zR hm), (1, zI h), (2, zI f), (3, zI b)]) dX12_largest_77 rfl (by decide) rfl ?_
            refine zF_iinc 82 (ls' := [(5, zI ((i : Int) + 1)), (4, zI (mLargN N (zia σ (A 8)) h f b i)), (6, zI 0), (0, zR hm), (1, zI h), (2, zI f), (3, zI b)]) dX12_largest_79 rfl rfl rfl (by decide) rfl ?_
            refine zF_goto 6 dX12_largest_82 rfl ?_
            exact zF_locs (ls' := [(5, zI ((i + 1 : Nat) : Int)), (4, zI (mLargN N (zia σ (A 8)) h f b (i + 1))), (0, zR hm), (1, zI h), (2, zI f), (3, zI b)]) ⟨zlI rfl (by first | rfl | omega | (push_cast; omega) | exact congrArg (_ + ·) (zbT (by assumption)) | exact congrArg (_ + ·) (zbF (by assumption)) | exact congrArg (_ + ·) (zbT (by omega)) | exact congrArg (_ + ·) (zbF (by omega)) | exact congrArg (_ + ·) (if_pos (by omega)).symm | exact congrArg (_ + ·) (if_neg (by omega)).symm | exact (if_pos (by omega)).symm | exact (if_neg (by omega)).symm), zlI rfl (by first | rfl | omega | (push_cast; omega) | exact congrArg (_ + ·) (zbT (by assumption)) | exact congrArg (_ + ·) (zbF (by assumption)) | exact congrArg (_ + ·) (zbT (by omega)) | exact congrArg (_ + ·) (zbF (by omega)) | exact congrArg (_ + ·) (if_pos (by omega)).symm | exact congrArg (_ + ·) (if_neg (by omega)).symm | exact (if_pos (by omega)).symm | exact (if_neg (by omega)).symm), rfl, rfl, rfl, rfl, trivial⟩ ih6
          · exact absurd c5 (by decide)
        · refine zF_iconst 38 dX12_largest_37 rfl ?_
          refine zF_goto 42 dX12_largest_38 rfl ?_
          refine zF_istore 44 (ls' := [(6, zI 1), (5, zI (i : Int)), (4, zI (mLargN N (zia σ (A 8)) h f b i)), (0, zR hm), (1, zI h), (2, zI f), (3, zI b)]) dX12_largest_42 rfl (by decide) rfl ?_
          refine zF_iload 46 dX12_largest_44 rfl rfl ?_
          refine zF_if_eq 75 49 dX12_largest_46 rfl rfl (by first | decide | exact hb _ | exact mSh_rg hb _ _ | assumption | exact zb_rg _ | (constructor <;> omega)) (fun c6 => ?_) (fun c6 => ?_)
          · exact absurd c6 (by decide)
          · refine zF_iload 51 dX12_largest_49 rfl rfl ?_
            refine zF_iconst 52 dX12_largest_51 rfl ?_
            refine zF_icmp_eq 70 55 dX12_largest_52 rfl rfl (by first | decide | exact hb _ | exact mSh_rg hb _ _ | assumption | exact zb_rg _ | (constructor <;> omega)) (by first | decide | exact hb _ | exact mSh_rg hb _ _ | assumption | exact zb_rg _ | (constructor <;> omega)) (fun c7 => ?_) (fun c7 => ?_)
            · refine zF_iload 72 dX12_largest_70 rfl rfl ?_
              refine zF_goto 77 dX12_largest_72 rfl ?_
              refine zF_istore 79 (ls' := [(4, zI (i : Int)), (6, zI 1), (5, zI (i : Int)), (0, zR hm), (1, zI h), (2, zI f), (3, zI b)]) dX12_largest_77 rfl (by decide) rfl ?_
              refine zF_iinc 82 (ls' := [(5, zI ((i : Int) + 1)), (4, zI (i : Int)), (6, zI 1), (0, zR hm), (1, zI h), (2, zI f), (3, zI b)]) dX12_largest_79 rfl rfl rfl (by decide) rfl ?_
              refine zF_goto 6 dX12_largest_82 rfl ?_
              exact zF_locs (ls' := [(5, zI ((i + 1 : Nat) : Int)), (4, zI (mLargN N (zia σ (A 8)) h f b (i + 1))), (0, zR hm), (1, zI h), (2, zI f), (3, zI b)]) ⟨zlI rfl (by first | rfl | omega | (push_cast; omega) | exact congrArg (_ + ·) (zbT (by assumption)) | exact congrArg (_ + ·) (zbF (by assumption)) | exact congrArg (_ + ·) (zbT (by omega)) | exact congrArg (_ + ·) (zbF (by omega)) | exact congrArg (_ + ·) (if_pos (by omega)).symm | exact congrArg (_ + ·) (if_neg (by omega)).symm | exact (if_pos (by omega)).symm | exact (if_neg (by omega)).symm), zlI rfl (by first | rfl | omega | (push_cast; omega) | exact congrArg (_ + ·) (zbT (by assumption)) | exact congrArg (_ + ·) (zbF (by assumption)) | exact congrArg (_ + ·) (zbT (by omega)) | exact congrArg (_ + ·) (zbF (by omega)) | exact congrArg (_ + ·) (if_pos (by omega)).symm | exact congrArg (_ + ·) (if_neg (by omega)).symm | exact (if_pos (by omega)).symm | exact (if_neg (by omega)).symm), rfl, rfl, rfl, rfl, trivial⟩ ih6
            · refine zF_aload_n 56 dX12_largest_55 rfl rfl ?_
              refine zF_iload 58 dX12_largest_56 rfl rfl ?_
              refine zF_callVi 61 (d2 := (d + 4)) (as := [zI (i : Int)]) dX12_largest_58 rfl kX12_155 iX12_capacityOf (ci := 12) rfl eX12_capacityOf (Nat.le_refl _) hM.1 hM.2.1 rfl rfl (Nat.le_of_ble_eq_true rfl) (zn_X12_capacityOf hM hN (by omega) (by omega)) ?_
              refine zF_aload_n 62 dX12_largest_61 rfl rfl ?_
              refine zF_iload 64 dX12_largest_62 rfl rfl ?_
              refine zF_callVi 67 (d2 := (d + 4)) (as := [zI (mLargN N (zia σ (A 8)) h f b i)]) dX12_largest_64 rfl kX12_155 iX12_capacityOf (ci := 12) rfl eX12_capacityOf (Nat.le_refl _) hM.1 hM.2.1 rfl rfl (Nat.le_of_ble_eq_true rfl) (zn_X12_capacityOf hM hN (by omega) (by omega)) ?_
              refine zF_icmp_le 75 70 dX12_largest_67 rfl rfl (by first | decide | exact hb _ | exact mSh_rg hb _ _ | assumption | exact zb_rg _ | (constructor <;> omega)) (by first | decide | exact hb _ | exact mSh_rg hb _ _ | assumption | exact zb_rg _ | (constructor <;> omega)) (fun c8 => ?_) (fun c8 => ?_)
              · refine zF_iload 77 dX12_largest_75 rfl rfl ?_
                refine zF_istore 79 (ls' := [(4, zI (mLargN N (zia σ (A 8)) h f b i)), (6, zI 1), (5, zI (i : Int)), (0, zR hm), (1, zI h), (2, zI f), (3, zI b)]) dX12_largest_77 rfl (by decide) rfl ?_
                refine zF_iinc 82 (ls' := [(5, zI ((i : Int) + 1)), (4, zI (mLargN N (zia σ (A 8)) h f b i)), (6, zI 1), (0, zR hm), (1, zI h), (2, zI f), (3, zI b)]) dX12_largest_79 rfl rfl rfl (by decide) rfl ?_
                refine zF_goto 6 dX12_largest_82 rfl ?_
                exact zF_locs (ls' := [(5, zI ((i + 1 : Nat) : Int)), (4, zI (mLargN N (zia σ (A 8)) h f b (i + 1))), (0, zR hm), (1, zI h), (2, zI f), (3, zI b)]) ⟨zlI rfl (by first | rfl | omega | (push_cast; omega) | exact congrArg (_ + ·) (zbT (by assumption)) | exact congrArg (_ + ·) (zbF (by assumption)) | exact congrArg (_ + ·) (zbT (by omega)) | exact congrArg (_ + ·) (zbF (by omega)) | exact congrArg (_ + ·) (if_pos (by omega)).symm | exact congrArg (_ + ·) (if_neg (by omega)).symm | exact (if_pos (by omega)).symm | exact (if_neg (by omega)).symm), zlI rfl (by first | rfl | omega | (push_cast; omega) | exact congrArg (_ + ·) (zbT (by assumption)) | exact congrArg (_ + ·) (zbF (by assumption)) | exact congrArg (_ + ·) (zbT (by omega)) | exact congrArg (_ + ·) (zbF (by omega)) | exact congrArg (_ + ·) (if_pos (by omega)).symm | exact congrArg (_ + ·) (if_neg (by omega)).symm | exact (if_pos (by omega)).symm | exact (if_neg (by omega)).symm), rfl, rfl, rfl, rfl, trivial⟩ ih6
              · refine zF_iload 72 dX12_largest_70 rfl rfl ?_
                refine zF_goto 77 dX12_largest_72 rfl ?_
                refine zF_istore 79 (ls' := [(4, zI (i : Int)), (6, zI 1), (5, zI (i : Int)), (0, zR hm), (1, zI h), (2, zI f), (3, zI b)]) dX12_largest_77 rfl (by decide) rfl ?_
                refine zF_iinc 82 (ls' := [(5, zI ((i : Int) + 1)), (4, zI (i : Int)), (6, zI 1), (0, zR hm), (1, zI h), (2, zI f), (3, zI b)]) dX12_largest_79 rfl rfl rfl (by decide) rfl ?_
                refine zF_goto 6 dX12_largest_82 rfl ?_
                exact zF_locs (ls' := [(5, zI ((i + 1 : Nat) : Int)), (4, zI (mLargN N (zia σ (A 8)) h f b (i + 1))), (0, zR hm), (1, zI h), (2, zI f), (3, zI b)]) ⟨zlI rfl (by first | rfl | omega | (push_cast; omega) | exact congrArg (_ + ·) (zbT (by assumption)) | exact congrArg (_ + ·) (zbF (by assumption)) | exact congrArg (_ + ·) (zbT (by omega)) | exact congrArg (_ + ·) (zbF (by omega)) | exact congrArg (_ + ·) (if_pos (by omega)).symm | exact congrArg (_ + ·) (if_neg (by omega)).symm | exact (if_pos (by omega)).symm | exact (if_neg (by omega)).symm), zlI rfl (by first | rfl | omega | (push_cast; omega) | exact congrArg (_ + ·) (zbT (by assumption)) | exact congrArg (_ + ·) (zbF (by assumption)) | exact congrArg (_ + ·) (zbT (by omega)) | exact congrArg (_ + ·) (zbF (by omega)) | exact congrArg (_ + ·) (if_pos (by omega)).symm | exact congrArg (_ + ·) (if_neg (by omega)).symm | exact (if_pos (by omega)).symm | exact (if_neg (by omega)).symm), rfl, rfl, rfl, rfl, trivial⟩ ih6
  · show zF G mX12_largest (d + 5) 6 [(5, zI (((nS N) : Nat) : Int)), (4, zI (mLargN N (zia σ (A 8)) h f b (nS N))), (0, zR hm), (1, zI h), (2, zI f), (3, zI b)] [] σ _
    refine zF_iload 8 dX12_largest_6 rfl rfl ?_
    refine zF_aload_n 9 dX12_largest_8 rfl rfl ?_
    refine zF_callVi 12 (d2 := (d + 4)) (as := []) dX12_largest_9 rfl kX12_113 iX12_screens (ci := 12) rfl eX12_screens (Nat.le_refl _) hM.1 hM.2.1 rfl rfl (Nat.le_of_ble_eq_true rfl) (zn_X12_screens hM hN) ?_
    refine zF_icmp_ge 85 15 dX12_largest_12 rfl rfl (by first | decide | exact hb _ | exact mSh_rg hb _ _ | assumption | exact zb_rg _ | (constructor <;> omega)) (by first | decide | exact hb _ | exact mSh_rg hb _ _ | assumption | exact zb_rg _ | (constructor <;> omega)) (fun c9 => ?_) (fun c9 => ?_)
    · refine zF_iload 87 dX12_largest_85 rfl rfl ?_
      exact zF_iretP dX12_largest_87 rfl (rfl)
    · exact absurd c9 (by omega)
theorem zt_X12_layDay {N : Int → Int} {h f b : Int} (hM : zMo σ hm A) (hN : zia σ (A 0) = N) (hV : mV N) (hsv : ∀ j : Int, 0 ≤ j → j < 10 → zia σ (A 8) j = 0 ∨ zia σ (A 8) j = 1) (hz : ∀ s : Nat, s < nS N → mS N s 0 = h → mSh N s b = f → zia σ (A 8) s = 0) (a0 : zrg h) (f0 : 0 ≤ f) (f1 : f < N 2) (d0 : 0 ≤ b) (d1 : b < 7) : zE G mX12_layDay (d + 6) [zR hm, zI h, zI f, zI b] σ (fun ro σ1 => ro = .inl none ∧ zFr (fun x _ => x = A 7 ∨ x = A 8) σ σ1 ∧ LDone N h f b (zia σ (A 8)) (zia σ (A 7)) (zia σ1 (A 8)) (zia σ1 (A 7))) := by
  refine zE_of rfl (by simp [zcat]) (Nat.le_of_ble_eq_true rfl) ?_
  show zF G mX12_layDay (d + 6) 0 [(0, zR hm), (1, zI h), (2, zI f), (3, zI b)] [] σ _
  have hb := hV.b
  have hn := hV.n
  have hs := nS_eq hV
  have h87 : A 8 ≠ A 7 := zMo_ne hM (by decide) (by decide) (by decide)
  refine zF_aload_n 1 dX12_layDay_0 rfl rfl ?_
  refine zF_iload_n 2 dX12_layDay_1 rfl rfl ?_
  refine zF_callVi 5 (d2 := (d + 5)) (as := [zI f]) dX12_layDay_2 rfl kX12_158 iX12_demandOf (ci := 12) rfl eX12_demandOf (Nat.le_refl _) hM.1 hM.2.1 rfl rfl (Nat.le_of_ble_eq_true rfl) (zn_X12_demandOf hM hN hV (by omega) (by omega)) ?_
  refine zF_istore 7 (ls' := [(4, zI (mDem N f)), (0, zR hm), (1, zI h), (2, zI f), (3, zI b)]) dX12_layDay_5 rfl (by decide) rfl ?_
  refine zF_aload_n 8 dX12_layDay_7 rfl rfl ?_
  refine zF_iload_n 9 dX12_layDay_8 rfl rfl ?_
  refine zF_iload_n 10 dX12_layDay_9 rfl rfl ?_
  refine zF_iload_n 11 dX12_layDay_10 rfl rfl ?_
  refine zF_callVi 14 (d2 := (d + 5)) (as := [zI h, zI f, zI b]) dX12_layDay_11 rfl kX12_161 iX12_largest (ci := 12) rfl eX12_largest (Nat.le_refl _) hM.1 hM.2.1 rfl rfl (Nat.le_of_ble_eq_true rfl) (zt_X12_largest hM hN hV hsv (by first | decide | exact hb _ | exact mSh_rg hb _ _ | assumption | exact zb_rg _ | (constructor <;> omega)) (by first | decide | exact hb _ | exact mSh_rg hb _ _ | assumption | exact zb_rg _ | (constructor <;> omega)) (by first | decide | exact hb _ | exact mSh_rg hb _ _ | assumption | exact zb_rg _ | (constructor <;> omega))) ?_
  refine zF_istore 16 (ls' := [(5, zI (mLargN N (zia σ (A 8)) h f b (nS N))), (4, zI (mDem N f)), (0, zR hm), (1, zI h), (2, zI f), (3, zI b)]) dX12_layDay_14 rfl (by decide) rfl ?_
  refine zF_locs (ls' := [(5, zI (mLargN N (zia σ (A 8)) h f b (nS N))), (4, zI (mDem N f)), (0, zR hm), (1, zI h), (2, zI f), (3, zI b)]) ⟨rfl, rfl, rfl, rfl, rfl, rfl, trivial⟩ ?_
  refine zF_while (X := Nat × Int × Int) (fun x => x.1) (fun x σ2 => x.1 = uC (zia σ2 (A 8)) (nS N) ∧ zFr (fun y _ => y = A 7 ∨ y = A 8) σ σ2 ∧ LD N h f b (zia σ (A 8)) (zia σ (A 7)) (zia σ2 (A 8)) (zia σ2 (A 7)) x.2.1 ∧ x.2.2 = mLargN N (zia σ2 (A 8)) h f b (nS N)) (fun x => [(5, zI x.2.2), (4, zI x.2.1), (0, zR hm), (1, zI h), (2, zI f), (3, zI b)]) ?_ (uC (zia σ (A 8)) (nS N), mDem N f, mLargN N (zia σ (A 8)) h f b (nS N)) σ (⟨rfl, zFr.rf, LD_start hV f0 f1 hsv hz, rfl⟩)
  intro ⟨k, left, s⟩ σ2 hI16 ih16
  show zF G mX12_layDay (d + 6) 16 [(5, zI s), (4, zI left), (0, zR hm), (1, zI h), (2, zI f), (3, zI b)] [] σ2 _
  obtain ⟨ek, fr2, hL, es⟩ := hI16
  dsimp only at ek hL es
  have hM2 := zMo_fr hM fr2
  have hN2 : zia σ2 (A 0) = N := (fr2.at fun j q => by rcases q with q | q; exact zMo_ne hM (j := 0) (k := 7) (by decide) (by decide) (by decide) q; exact zMo_ne hM (j := 0) (k := 8) (by decide) (by decide) (by decide) q).trans hN
  have hlb := mLarg_b (N := N) (sv := (zia σ2 (A 8))) (h := h) (f := f) (day := b) (nS N)
  rw [← es] at hlb
  have hle := LD_left hV hL f0 (by omega)
  refine zF_iload 18 dX12_layDay_16 rfl rfl ?_
  refine zF_iconst 19 dX12_layDay_18 rfl ?_
  refine zF_icmp_eq 82 22 dX12_layDay_19 rfl rfl (by first | decide | exact hb _ | exact mSh_rg hb _ _ | assumption | exact zb_rg _ | (constructor <;> omega)) (by first | decide | exact hb _ | exact mSh_rg hb _ _ | assumption | exact zb_rg _ | (constructor <;> omega)) (fun c1 => ?_) (fun c1 => ?_)
  · exact zF_return dX12_layDay_82 rfl (⟨rfl, fr2, LD_done hV hL es c1⟩)
  · have hcs := mCap_b hV (s := s) (by omega) (by omega)
    refine zF_aload_n 23 dX12_layDay_22 rfl rfl ?_
    refine zF_getR 26 dX12_layDay_23 rfl gX12_25 hM2.1 hM2.2.1 (zM_8 hM2).1 ?_
    refine zF_iload 28 dX12_layDay_26 rfl rfl ?_
    refine zF_iconst 29 dX12_layDay_28 rfl ?_
    refine zF_zastore 30 dX12_layDay_29 rfl (zM_8 hM2).2.2 (zM_8 hM2).2.1 (by omega) (by omega) (by omega) ?_
    refine zF_aload_n 31 dX12_layDay_30 rfl rfl ?_
    refine zF_getR 34 dX12_layDay_31 rfl gX12_22 hM2.1 hM2.2.1 (zM_7 hM2).1 ?_
    refine zF_bipush 36 dX12_layDay_34 rfl (by decide) ?_
    refine zF_iload 38 dX12_layDay_36 rfl rfl ?_
    refine zF_imul 39 dX12_layDay_38 rfl ?_
    refine zF_iload_n 40 dX12_layDay_39 rfl rfl ?_
    refine zF_iadd 41 dX12_layDay_40 rfl ?_
    refine zF_iload 43 dX12_layDay_41 rfl rfl ?_
    refine zF_aload_n 44 dX12_layDay_43 rfl rfl ?_
    refine zF_iload 46 dX12_layDay_44 rfl rfl ?_
    refine zF_callVi 49 (d2 := (d + 5)) (as := [zI s]) dX12_layDay_46 rfl kX12_155 iX12_capacityOf (ci := 12) rfl eX12_capacityOf (Nat.le_refl _) hM2.1 hM2.2.1 rfl rfl (Nat.le_of_ble_eq_true rfl) (zn_X12_capacityOf hM2 (zMo_AN (j := 8) (k := 0) hN2 hM2 (by decide) (by decide) (by decide)) (by omega) (by omega)) ?_
    refine zF_min 52 dX12_layDay_49 rfl kX12_164 (Nat.le_refl _) (by first | decide | exact hb _ | exact mSh_rg hb _ _ | assumption | exact zb_rg _ | (constructor <;> omega)) (by first | decide | exact hb _ | exact mSh_rg hb _ _ | assumption | exact zb_rg _ | (constructor <;> omega)) (Nat.le_of_ble_eq_true rfl) ?_
    refine zF_iastore 53 dX12_layDay_52 rfl (zM_7 hM2).2.2 (zM_7 hM2).2.1 (by omega) (by omega) ?_
    refine zF_iload 55 dX12_layDay_53 rfl rfl ?_
    refine zF_aload_n 56 dX12_layDay_55 rfl rfl ?_
    refine zF_getR 59 dX12_layDay_56 rfl gX12_22 hM2.1 hM2.2.1 (zM_7 hM2).1 ?_
    refine zF_bipush 61 dX12_layDay_59 rfl (by decide) ?_
    refine zF_iload 63 dX12_layDay_61 rfl rfl ?_
    refine zF_imul 64 dX12_layDay_63 rfl ?_
    refine zF_iload_n 65 dX12_layDay_64 rfl rfl ?_
    refine zF_iadd 66 dX12_layDay_65 rfl ?_
    refine zF_iaload 67 dX12_layDay_66 rfl (zM_7 hM2).2.2 (zM_7 hM2).2.1 (by omega) (by omega) (zsi_same _ _ _ _) ?_
    refine zF_isub 68 dX12_layDay_67 rfl ?_
    refine zF_istore 70 (ls' := [(4, zI (left - (min left (mCap N s)))), (5, zI s), (0, zR hm), (1, zI h), (2, zI f), (3, zI b)]) dX12_layDay_68 rfl (by decide) rfl ?_
    have e1 : ∀ j, zia (zsi (zsi σ2 (A 8) s 1) (A 7) ((7 * s) + b) (min left (mCap N s))) (A 8) j = if j = s then 1 else zia σ2 (A 8) j := fun j => by
      rw [zia_si, if_neg (fun q => h87 q.1), zia_si]
      by_cases q : j = s
      · rw [if_pos ⟨rfl, q⟩, if_pos q]
      · rw [if_neg (fun z => q z.2), if_neg q]
    have e2 : ∀ j, zia (zsi (zsi σ2 (A 8) s 1) (A 7) ((7 * s) + b) (min left (mCap N s))) (A 7) j = if j = 7 * s + b then min left (mCap N s) else zia σ2 (A 7) j := fun j => by
      rw [zia_si]
      by_cases q : j = 7 * s + b
      · rw [if_pos ⟨rfl, q⟩, if_pos q]
      · rw [if_neg (fun z => q z.2), if_neg q, zia_si, if_neg (fun z => h87 z.1.symm)]
    have hL3 := LD_stepI hV f0 f1 hL es c1 e1 e2 d0 d1
    have hsv3 := hL3.1
    refine zF_aload_n 71 dX12_layDay_70 rfl rfl ?_
    refine zF_iload_n 72 dX12_layDay_71 rfl rfl ?_
    refine zF_iload_n 73 dX12_layDay_72 rfl rfl ?_
    refine zF_iload_n 74 dX12_layDay_73 rfl rfl ?_
    refine zF_callVi 77 (d2 := (d + 5)) (as := [zI h, zI f, zI b]) dX12_layDay_74 rfl kX12_161 iX12_largest (ci := 12) rfl eX12_largest (Nat.le_refl _) hM2.1 hM2.2.1 rfl rfl (Nat.le_of_ble_eq_true rfl) (zt_X12_largest hM2 (zMo_AN (j := 7) (k := 0) (zMo_AN (j := 8) (k := 0) hN2 hM2 (by decide) (by decide) (by decide)) hM2 (by decide) (by decide) (by decide)) hV hsv3 (by first | decide | exact hb _ | exact mSh_rg hb _ _ | assumption | exact zb_rg _ | (constructor <;> omega)) (by first | decide | exact hb _ | exact mSh_rg hb _ _ | assumption | exact zb_rg _ | (constructor <;> omega)) (by first | decide | exact hb _ | exact mSh_rg hb _ _ | assumption | exact zb_rg _ | (constructor <;> omega))) ?_
    refine zF_istore 79 (ls' := [(5, zI (mLargN N (zia (zsi (zsi σ2 (A 8) s 1) (A 7) ((7 * s) + b) (min left (mCap N s))) (A 8)) h f b (nS N))), (4, zI (left - (min left (mCap N s)))), (0, zR hm), (1, zI h), (2, zI f), (3, zI b)]) dX12_layDay_77 rfl (by decide) rfl ?_
    refine zF_goto 16 dX12_layDay_79 rfl ?_
    exact zF_locs (ls' := [(5, zI (mLargN N (zia (zsi (zsi σ2 (A 8) s 1) (A 7) ((7 * s) + b) (min left (mCap N s))) (A 8)) h f b (nS N))), (4, zI (left - (min left (mCap N s)))), (0, zR hm), (1, zI h), (2, zI f), (3, zI b)]) ⟨rfl, rfl, rfl, rfl, rfl, rfl, trivial⟩ (ih16 (uC (zia (zsi (zsi σ2 (A 8) s 1) (A 7) ((7 * s) + b) (min left (mCap N s))) (A 8)) (nS N), (left - (min left (mCap N s))), (mLargN N (zia (zsi (zsi σ2 (A 8) s 1) (A 7) ((7 * s) + b) (min left (mCap N s))) (A 8)) h f b (nS N))) _ (by rw [ek]; exact uC_step es c1 e1) (⟨rfl, zFr_si (Or.inl rfl) (zFr_si (Or.inr rfl) fr2), hL3, rfl⟩))
end ZV

/-! a reading's begin and end -/
section ZLG
variable {t : Int → Int} {L : Nat} {D : Int → Int}
/-- the draft cleared -/
def zcz (f : Int → Int) : Int → Int := fun j => if 0 ≤ j ∧ j < 312 then 0 else f j
theorem ldV_0 {f : Int → Int} (hb : ∀ j, zrg (f j)) : ldV (zcz f) := by
  have z : ∀ j, 0 ≤ j → j < 312 → zcz f j = 0 := fun j a b => if_pos ⟨a, b⟩
  have nse : nS (zcz f) = 0 := by unfold nS; rw [z 1 (by decide) (by decide)]; rfl
  refine ⟨?_, ?_, ?_, ?_, ?_, ?_, ?_, ?_⟩
  · rw [z 0 (by decide) (by decide), z 1 (by decide) (by decide), z 2 (by decide) (by decide), z 3 (by decide) (by decide), z 4 (by decide) (by decide), z 5 (by decide) (by decide)]; decide
  · intro j
    unfold zcz
    split
    · decide
    · exact hb j
  · intro h h0 h1; unfold mH; rw [z _ (by omega) (by omega), z _ (by omega) (by omega)]; decide
  · intro s s0 s1
    refine ⟨fun w => ?_, fun _ k k0 k1 => by unfold mS; exact z _ (by omega) (by omega)⟩
    rw [z 1 (by decide) (by decide)] at w; omega
  · intro f0 h0 h1
    unfold mF
    rw [z 2 (by decide) (by decide), z (94 + 10 * f0 + 0) (by omega) (by omega), z (94 + 10 * f0 + 1) (by omega) (by omega), z (94 + 10 * f0 + 2) (by omega) (by omega), z (94 + 10 * f0 + 3) (by omega) (by omega), z (94 + 10 * f0 + 8) (by omega) (by omega), z (94 + 10 * f0 + 9) (by omega) (by omega)]
    exact ⟨fun w => by omega, fun _ => ⟨rfl, rfl, rfl, rfl, rfl⟩, rfl, fun k k0 k1 => by rw [z _ (by omega) (by omega)]; decide⟩
  · intro j j0 j1; rw [z j (by omega) (by omega)]; decide
  · intro j j0 j1; exact z j (by omega) (by omega)
  · intro h; rw [nse]; show (0 : Int) ≤ 4; decide
theorem ldI_p {x : ldS} (h : x.1.1 ≤ L) : ∀ n, (ldI t L x n).1.1 ≤ L ∨ (ldI t L x n).1.2 ≠ 0 := fun n => by
  induction n with
  | zero => exact Or.inl h
  | succ n ih =>
    by_cases e : (ldI t L x (n + 1)).1.2 = 0
    · left
      have e' : (tSgS t L 59 (ldB t L (ldI t L x n)).1).2 = 0 := e
      have e0 : (ldI t L x n).1.2 = 0 := by
        by_cases z : (ldI t L x n).1.2 = 0
        · exact z
        · exfalso
          have q := tSgS_2 e'
          have w0 : ∀ w : List Int, ¬ tWd t L w (ldI t L x n).1 := fun w y => z (tWd_0 y)
          have eb : ldB t L (ldI t L x n) = ldFee t L (ldI t L x n) := by
            unfold ldB
            rw [if_neg (w0 _), if_neg (w0 _), if_neg (w0 _), if_neg (w0 _)]
          rw [eb] at q
          have q2 : (tNumS t L 0 999 (tWdS t L (zsbi 6) (ldI t L x n).1)).2 = 0 := q
          rw [tWdS_e z, tNumS_e z] at q2
          exact z q2
      have hp := ih.resolve_right (fun y => y e0)
      exact (ldC_p (D := (ldI t L x n).2) hp e0 e).2
    · exact Or.inr e
/-- the reading ends after k clauses -/
def ldT (t : Int → Int) (L : Nat) (x : ldS) (k : Nat) : Prop := tKd t L (ldI t L x k).1 = 0 ∧ ∀ m, m < k → tKd t L (ldI t L x m).1 ≠ 0
/-- the numbers of a chain that was read -/
def ldN (D : Int → Int) : Int → Int := fun j => if 0 ≤ j ∧ j < 312 then D j else 0
theorem ldV_N (h : ldV D) : ldV (ldN D) := by
  have hn := h.n
  have z : ∀ j, 0 ≤ j → j < 312 → ldN D j = D j := fun j a b => if_pos ⟨a, b⟩
  have hb : ∀ j, zrg (ldN D j) := fun j => by
    unfold ldN
    split
    · exact h.b j
    · decide
  have nse : nS (ldN D) = nS D := by unfold nS; rw [z 1 (by decide) (by decide)]
  have hnS := nS_D h
  refine ⟨?_, hb, ?_, ?_, ?_, ?_, ?_, ?_⟩
  · rw [z 0 (by decide) (by decide), z 1 (by decide) (by decide), z 2 (by decide) (by decide), z 3 (by decide) (by decide), z 4 (by decide) (by decide), z 5 (by decide) (by decide)]; exact hn
  · intro x h0 h1
    have q := h.h x h0 h1
    unfold mH at q ⊢
    rw [z _ (by omega) (by omega), z _ (by omega) (by omega)]; exact q
  · intro s s0 s1
    have q := h.sc s s0 s1
    unfold mS at q ⊢
    rw [z 1 (by decide) (by decide), z 0 (by decide) (by decide), z (14 + 8 * s + 0) (by omega) (by omega), z (14 + 8 * s + 1) (by omega) (by omega), z (14 + 8 * s + 2) (by omega) (by omega), z (14 + 8 * s + 3) (by omega) (by omega), z (14 + 8 * s + 4) (by omega) (by omega), z (14 + 8 * s + 5) (by omega) (by omega), z (14 + 8 * s + 6) (by omega) (by omega), z (14 + 8 * s + 7) (by omega) (by omega)]
    exact ⟨q.1, fun w k q0 q1 => by rw [z _ (by omega) (by omega)]; exact q.2 w k q0 q1⟩
  · intro f f0 f1
    have q := h.f f f0 f1
    unfold mF at q ⊢
    rw [z 2 (by decide) (by decide), z (94 + 10 * f + 0) (by omega) (by omega), z (94 + 10 * f + 1) (by omega) (by omega), z (94 + 10 * f + 2) (by omega) (by omega), z (94 + 10 * f + 3) (by omega) (by omega), z (94 + 10 * f + 8) (by omega) (by omega), z (94 + 10 * f + 9) (by omega) (by omega)]
    exact ⟨q.1, q.2.1, q.2.2.1, fun k k0 k1 => by rw [z _ (by omega) (by omega)]; exact q.2.2.2 k k0 k1⟩
  · intro j j0 j1; rw [z j (by omega) (by omega)]; exact h.p j j0 j1
  · intro j j0 j1; rw [z j (by omega) (by omega)]; exact h.r j j0 j1
  · intro x; rw [nse, mCn_cg (D' := ldN D) (D := D) fun k hk => z (14 + 8 * (k : Int) + 0) (by omega) (by omega)]; exact h.c x
theorem ldV_gN (h : ldV D) : gN 0 (ldN D) ∧ fe (ldN D) ∧ mCp (ldN D) := by
  have g := ldV_N h
  have ho : ∀ j, j < 0 ∨ 312 ≤ j → ldN D j = 0 := fun j hj => if_neg (by omega)
  generalize ldN D = E at g ho ⊢
  have hn := g.n
  have hs := g.sc
  have hf := g.f
  have hr := g.r
  have hp := g.p
  have e48 : ∀ s, 0 ≤ s → s < E 1 → mS E s 4 = -1 ∧ mS E s 5 = -1 ∧ mS E s 6 = 0 ∧ mS E s 7 = 0 := fun s s0 s1 => by
    have q := (hs s s0 (by omega)).1 s1
    omega
  refine ⟨⟨⟨by omega, g.b, ?_, ?_, ?_, g.h, ?_, ?_⟩, ?_, ?_, ⟨g.c, ?_, ?_, ?_, ?_, ?_, ho⟩, by omega, by omega⟩, ⟨by omega, by omega⟩, ?_⟩
  · intro s s0 s1
    by_cases c : s < E 1
    · have q := (hs s s0 s1).1 c
      omega
    · have q := (hs s s0 s1).2 c
      rw [q 0 (by decide) (by decide), q 1 (by decide) (by decide), q 2 (by decide) (by decide), q 3 (by decide) (by decide), q 4 (by decide) (by decide), q 5 (by decide) (by decide), q 6 (by decide) (by decide), q 7 (by decide) (by decide)]
      decide
  · intro f f0 f1
    have q := hf f f0 f1
    by_cases c : f < E 2
    · have q1 := q.1 c
      omega
    · have q1 := q.2.1 c
      omega
  · intro f k f0 f1 k0 k1; exact (hf f f0 f1).2.2.2 k k0 k1
  · intro x f h0 h1 f0 f1
    have q := hr (184 + 6 * x + f) (by omega) (by omega)
    unfold mR; omega
  · intro f p f0 f1 p0 p1
    exact hp (154 + 5 * f + p + 1) (by omega) (by omega)
  · intro s s0 s1
    have q := e48 s s0 s1
    have q2 := (hs s s0 (by omega)).1 s1
    omega
  · intro s s0 s1
    have q := e48 s s0 s1
    refine ⟨⟨fun _ => q.2.2.1, fun _ => q.2.1⟩, fun _ => q.2.1⟩
  · intro f f0 f1
    have q := (hf f f0 f1).2.2.1
    omega
  · intro s s0 s1
    have q := e48 s s0 s1
    refine ⟨fun z => absurd q.2.1 z, fun z => by omega⟩
  · intro x f h0 h1 f0 f1
    have a := hp (154 + 5 * f + x + 1) (by omega) (by omega)
    refine (mNeed_le (h := x) (f := f) (by unfold mP; omega)).mpr fun i hi => ?_
    have c : mCnt E x f i ≤ (nS E : Int) * 0 := zsum_le fun k hk => by
      have q := e48 k (by omega) (by have := nS_D g; omega)
      have e : mSh E k i = -1 := by unfold mSh; rw [if_neg (fun z => z.1 q.2.1)]; exact q.1
      have z : zb (mS E k 0 = x ∧ mSh E k i = f) = 0 := if_neg (fun w => by omega)
      omega
    unfold mP; omega
  · intro x f h0 h1 f0 f1
    have q := hr (184 + 6 * x + f) (by omega) (by omega)
    unfold mR; omega
  · intro k k0 k1
    have q := hr (208 + k) (by omega) (by omega)
    omega
  · intro s s0 s1
    have q := (hs s s0 (by omega)).1 s1
    unfold mCap
    have : 1 * 1 ≤ mS E s 1 * mS E s 2 := Int.mul_le_mul q.2.2.1 q.2.2.2.2.1 (by decide) (by omega)
    omega
end ZLG

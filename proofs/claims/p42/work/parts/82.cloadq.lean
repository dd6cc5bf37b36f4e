/-! the class: load -/
section ZCV
variable {G : zG} {d : Nat} {σ σ0 σ1 : zMem} {B : Nat → Nat} {N : Int → Int} {t : Int → Int} {L : Nat} {s : tS} {D f : Int → Int} {c : Nat → Int → Int}
theorem cD_R (hv : ldV D) (hd : cDm D σ B) : cRc (ldN D) σ B 2100 ∧ cRs (ldN D) σ B 2200 := by
  have hn := hv.n
  have hnS := nS_D hv
  have z : ∀ j, 0 ≤ j → j < 312 → ldN D j = D j := fun j a b => if_pos ⟨a, b⟩
  generalize ldN D = E at z ⊢
  have e0 := z 0 (by decide) (by decide)
  have e1 := z 1 (by decide) (by decide)
  have e2 := z 2 (by decide) (by decide)
  have nse : nS E = nS D := by unfold nS; rw [e1]
  have cn : ∀ x, zsum (fun s => zb (mS E s 0 = x)) (nS E) = mCn D x (nS D) := fun x => by
    rw [nse]; exact mCn_cg (D' := E) fun i hi => z (14 + 8 * (i : Int) + 0) (by omega) (by omega)
  obtain ⟨h1, h2, h3, h5, h6, h7, h8, h9, h10, h11⟩ := hd
  refine ⟨⟨⟨by rw [e0]; exact h1.1, by rw [e1]; exact h1.2.1, by rw [e2]; exact h1.2.2⟩, fun x x0 x1 => ?_, fun s s0 s1 => ?_, fun f f0 f1 => ?_⟩, ⟨?_, ?_, ?_⟩, fun x x0 x1 => ⟨?_, fun f f0 f1 => ?_⟩, fun s s0 s1 => ?_, fun f f0 f1 => ?_, fun k k0 k1 => ?_, fun back what b0 b1 => ?_⟩
  · rw [e0] at x1
    have a := h2 x x0 x1
    rw [cn]
    unfold mH at a ⊢
    rw [z _ (by omega) (by omega)]
    exact ⟨a.1, a.2.1⟩
  · rw [e1] at s1
    have a := h3 s s0 s1
    unfold mS at a ⊢
    rw [z (14 + 8 * s + 0) (by omega) (by omega), z (14 + 8 * s + 1) (by omega) (by omega), z (14 + 8 * s + 2) (by omega) (by omega)]
    exact ⟨a.1, a.2.1, a.2.2.1⟩
  · rw [e2] at f1
    have a := h5 f f0 f1
    have b := (hv.f f f0 (by omega)).1 f1
    unfold mF at a b ⊢
    rw [z (94 + 10 * f + 0) (by omega) (by omega), z (94 + 10 * f + 1) (by omega) (by omega), z (94 + 10 * f + 2) (by omega) (by omega), z (94 + 10 * f + 3) (by omega) (by omega)]
    exact ⟨a.1, a.2.1, a.2.2.1, a.2.2.2.1, fun k k0 k1 => by rw [z _ (by omega) (by omega)]; exact a.2.2.2.2.2 k k0 k1⟩
  · rw [z 3 (by decide) (by decide), hn.2.2.2.2.2.2.1]; exact h6.1
  · rw [z 5 (by decide) (by decide), hn.2.2.2.2.2.2.2.2.2]; exact h6.2.1
  · rw [z 4 (by decide) (by decide)]; exact h6.2.2
  · rw [e0] at x1
    have a := (h2 x x0 x1).2.2
    unfold mH at a ⊢
    rw [z _ (by omega) (by omega)]; exact a
  · rw [e0] at x1; rw [e2] at f1
    unfold mR
    rw [z _ (by omega) (by omega), hv.r _ (by omega) (by omega)]
    exact h10 _ (by omega) (by omega)
  · rw [e1] at s1
    have a := (h3 s s0 s1).2.2.2
    have b := (hv.sc s s0 (by omega)).1 s1
    have q := h8 s s0 (by omega)
    unfold mS at a b ⊢
    rw [z (14 + 8 * s + 3) (by omega) (by omega), z (14 + 8 * s + 4) (by omega) (by omega), z (14 + 8 * s + 5) (by omega) (by omega), z (14 + 8 * s + 6) (by omega) (by omega), z (14 + 8 * s + 7) (by omega) (by omega), b.2.2.2.2.2.2.2.2.1, b.2.2.2.2.2.2.2.2.2.1, b.2.2.2.2.2.2.2.2.2.2.1, b.2.2.2.2.2.2.2.2.2.2.2]
    exact ⟨a, q.1, q.2.1, q.2.2.1, q.2.2.2⟩
  · rw [e2] at f1
    have a := h5 f f0 f1
    have b := hv.f f f0 (by omega)
    have q := h9 f f0 (by omega)
    have e8 : mF E f 8 = -1 := (z _ (by omega) (by omega)).trans (b.1 f1).2.2.2.2.2.2.2.2
    have ed : mDem E f = mF D f 0 := by
      unfold mDem mAge
      rw [if_pos e8]
      exact z _ (by omega) (by omega)
    rw [ed, e8]
    refine ⟨q.1, a.2.2.2.2.1, ?_, fun p p0 p1 => ?_⟩
    · have e9 : mF E f 9 = mF D f 9 := z _ (by omega) (by omega)
      rw [e9, b.2.2.1]; exact q.2
    · rw [e0] at p1
      have r := h7 (f * 5 + p + 1) (by omega) (by omega)
      unfold mP
      rw [z _ (by omega) (by omega), show 154 + 5 * f + p + 1 = 154 + (f * 5 + p + 1) by omega]
      exact r
  · rw [z _ (by omega) (by omega), hv.r _ (by omega) (by omega)]; exact h11 k k0 k1
  · rw [z 3 (by decide) (by decide), hn.2.2.2.2.2.2.1] at b1
    exact absurd b1 (by omega)
theorem cRc_cp {b b' : Nat} (hV : mV N) (q : zCpA [(12, 24), (11, 6), (10, 6), (9, 6), (8, 6), (6, 10), (5, 10), (4, 10), (2, 4), (1, 4)] [7, 3, 0] σ B b b' σ1) (h : cRc N σ B b') : cRc N σ1 B b := by
  have hn := hV.n
  obtain ⟨-, qi, qr⟩ := q
  obtain ⟨h1, h2, h3, h4⟩ := h
  refine ⟨⟨(qi 0 (by decide)).trans h1.1, (qi 3 (by decide)).trans h1.2.1, (qi 7 (by decide)).trans h1.2.2⟩, fun x x0 x1 => ?_, fun s s0 s1 => ?_, fun f f0 f1 => ?_⟩
  · have a := h2 x x0 x1
    exact ⟨(qr 1 4 (by decide) x x0 (by omega)).trans a.1, (qr 2 4 (by decide) x x0 (by omega)).trans a.2⟩
  · have a := h3 s s0 s1
    exact ⟨(qr 4 10 (by decide) s s0 (by omega)).trans a.1, (qr 5 10 (by decide) s s0 (by omega)).trans a.2.1, (qr 6 10 (by decide) s s0 (by omega)).trans a.2.2⟩
  · have a := h4 f f0 f1
    have b := hV.f f f0 (by omega)
    exact ⟨(qr 8 6 (by decide) f f0 (by omega)).trans a.1, (qr 9 6 (by decide) f f0 (by omega)).trans a.2.1, (qr 10 6 (by decide) f f0 (by omega)).trans a.2.2.1, (qr 11 6 (by decide) f f0 (by omega)).trans a.2.2.2.1, fun k k0 k1 => (qr 12 24 (by decide) _ (by omega) (by omega)).trans (a.2.2.2.2 k k0 k1)⟩
end ZCV

/-! the reference: program -/
section ZQ8
variable {G : zG} {d : Nat} {σ : zMem} {hm : Nat} {A : Nat → Nat} {N : Int → Int}
theorem prN_now (hV : mV N) {h : Int} {b : Int → Int} {x : Nat} (hx : x < nn N h) {k : Int} (k0 : 0 ≤ k) (k1 : k < 8) : mS (prN N h b x) (rk N h x) k = mS N (rk N h x) k := by
  have hn := hV.n
  have r := rk_b hV (h := h) (k := (x : Int)) (by omega) (by omega)
  rcases prN_at hV (h := h) (b := b) (n := x) (by omega) (rk N h x) k r.1 (by omega) k0 k1 with z | ⟨i, i1, i2, _⟩
  · exact z.2
  · exact absurd i2 (rk_ne N h (by omega) hx (by omega))
theorem prN_held (hV : mV N) {h : Int} {b : Int → Int} {x : Nat} (hx : x < nn N h) : zb (mS (prN N h b x) (rk N h x) 7 = 1) = mS N (rk N h x) 7 := by
  have hn := hV.n
  have r := rk_b hV (h := h) (k := (x : Int)) (by omega) (by omega)
  have q := hV.s (rk N h x) r.1 (by omega)
  have e := prN_now hV (b := b) hx (k := 7) (by omega) (by omega)
  by_cases c : mS N (rk N h x) 7 = 1
  · rw [← zbT (by omega), c]
  · rw [← zbF (by omega)]; omega
theorem prC_b (N : Int → Int) (h : Int) (b : Int → Int) (n : Nat) : 0 ≤ prC N h b n ∧ prC N h b n ≤ n := by
  have x := zsum_ge (f := fun k => zb (mS N (rk N h k) 4 ≠ b k ∨ mS N (rk N h k) 5 ≠ -1)) (n := n) (a := 0) fun i _ => zb_ge _
  have y := zsum_le (f := fun k => zb (mS N (rk N h k) 4 ≠ b k ∨ mS N (rk N h k) 5 ≠ -1)) (n := n) (a := 1) fun i _ => zb_le _
  unfold prC
  omega
theorem bF_b (hV : mV N) (hW : mW N) {h : Int} {b : Int → Int} (v : pVc (N 2) (ch0 N h) (nn N h) b) : ∀ k : Nat, k < nn N h → -1 ≤ b k ∧ b k < N 2 := fun k hk => by
  have q := v k hk
  have r := rk_b hV (h := h) (k := (k : Int)) (by omega) (by omega)
  rcases ch0_b hV (h := h) (k := (k : Int)) (by omega) (by omega) with ⟨a, e, e1, e2⟩ | ⟨a, e⟩
  · have := q.2 (by omega)
    have := hW (rk N h k) r.1 r.2.1
    omega
  · exact q.1 e
/-- the best program can be had -/
theorem gS_pr {T : Int} {S : zS} (g : gS T S) {h : Int} (h0 : 0 ≤ h) (h1 : h < S.1 0) (x : ∃ c, pLx S.1 h (lmP S.1 h) (ch0 S.1 h) c) (hb : 0 ≤ bG S.1 h (lmP S.1 h)) (hm : pMax S.1 h (lmP S.1 h) (ch0 S.1 h) (bG S.1 h (lmP S.1 h))) : gS T (oPrS S h) := by
  obtain ⟨c, x⟩ := x
  have hn := g.n.v.n
  have l := bF_sp x
  have gp : 0 ≤ pG S.1 h (lmP S.1 h) (bF S.1 h (lmP S.1 h)) := by
    obtain ⟨⟨t, t1, t2⟩, _⟩ := hm
    have := l.2.1 t t1
    omega
  obtain ⟨a, b⟩ := prN_gN g.n h0 h1 l.1 (pG_prints g.n.v g.n.q.c h0 (by omega) gp)
  exact gS_rec g a b
end ZQ8

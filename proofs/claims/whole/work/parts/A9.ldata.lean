/-! what the changes leave of the numbers -/
section ZLI
variable {G : zG} {d : Nat} {σ σ1 : zMem} {S : zS} {Sn N' : Int → Int} {sf T T' : Int}
theorem lD.gs (h : lD T S Sn sf) : gS T S := h.1
theorem lD.gn (h : lD T S Sn sf) : gN T S.1 := h.1.n
theorem lD.up (h : lD T S Sn sf) (k : T ≤ T') : lD T' S Sn sf := ⟨h.1.up k, h.2.1, h.2.2.1, h.2.2.2.1, h.2.2.2.2.1, fun z => ⟨(h.2.2.2.2.2 z).1.up k, (h.2.2.2.2.2 z).2⟩⟩
theorem lD_rec (h : lD T S Sn sf) (hN : gN T N') (e : cE S.1 N') (f : fe N') : lD T (sRec S N') Sn sf := by
  obtain ⟨h1, h2, h3, h4, h5, h6⟩ := h
  refine ⟨gS_rec h1 hN e, f, mCp_cE h3 h1.n.v e, fun k k0 k1 => ?_, h5, fun z => ⟨(h6 z).1, e.sy.tr (h6 z).2.1, (h6 z).2.2⟩⟩
  have k1' : k < min (S.2.2 + 1) 10 := k1
  have hu := h1.2.1
  show fe (hsR S.2.1 S.2.2 S.1 k)
  by_cases q : k = min (S.2.2 + 1) 10 - 1
  · rw [hRec_n q]; exact h2
  · rw [hRec_o q]
    exact h4 (k + if S.2.2 = 10 then 1 else 0) (by split <;> omega) (by split <;> omega)
theorem fe_4 {N : Int → Int} (h : fe N) (e : N' 4 = N 4) : fe N' := by unfold fe at h ⊢; rw [e]; exact h
theorem lD_bk (h : lD T S Sn sf) {s a b c : Int} (hk : bkOK S.1 s a b c) (a0 : 0 ≤ a) : lD T (oBkS S s a b c) Sn sf := by
  have g := gS_bk h.1 hk a0
  unfold oBkS at g ⊢
  split
  · rename_i q
    rw [if_pos q] at g
    have s0 := hk.1.1
    exact lD_rec h g.n (mBook_cE hk.1.1 (by have := hk.1.2; have := h.1.n.v.n; omega)) (fe_4 h.2.1 (by unfold mBook; rw [if_neg (by omega), if_neg (by omega), if_neg (by omega), if_neg (by omega)]))
  · exact h
theorem lD_em (h : lD T S Sn sf) {s : Int} (s0 : 0 ≤ s) (s1 : s < S.1 1) : lD T (oEmS S s) Sn sf := by
  have g := gS_em h.1 s0 s1
  have hn := h.1.n.v.n
  unfold oEmS at g ⊢
  split
  · rename_i q
    rw [if_pos q] at g
    exact lD_rec h g.n (mBook_cE s0 (by omega)) (fe_4 h.2.1 (by unfold mBook; rw [if_neg (by omega), if_neg (by omega), if_neg (by omega), if_neg (by omega)]))
  · exact h
theorem lD_mv (h : lD T S Sn sf) (hT : T < 1000000) {f p q : Int} (f0 : 0 ≤ f) (f1 : f < S.1 2) (p0 : -1 ≤ p) (p1 : p < S.1 0) (q0 : -1 ≤ q) (q1 : q < S.1 0) (pq : p ≠ q) : lD (T + 1) (oMvS S f p q) Sn sf := by
  have g := gS_mv h.1 hT f0 f1 p0 p1 q0 q1 pq
  have hn := h.1.n.v.n
  unfold oMvS at g ⊢
  split
  · exact h.up (by omega)
  · rename_i z
    rw [if_neg z] at g
    refine lD_rec (h.up (by omega)) g.n (mMv_o f0 (by omega) p0 (by omega) q0 (by omega)).c (fe_4 h.2.1 ?_)
    unfold mMv
    rw [mSet_o (by omega), mSet_o (by omega), mSet_o (by omega)]
theorem cE_set {N : Int → Int} {j v : Int} (h : j = 4 ∨ (∃ x, 0 ≤ x ∧ x < 4 ∧ j = 6 + 2 * x + 1) ∨ ∃ s, 0 ≤ s ∧ s < 10 ∧ j = 14 + 8 * s + 3) : cE N (mSet N j v) := by
  have q : ∀ i, (i < 4 ∨ (∃ x, 0 ≤ x ∧ x < 4 ∧ i = 6 + 2 * x) ∨ (∃ s k, 0 ≤ s ∧ s < 10 ∧ 0 ≤ k ∧ k < 3 ∧ i = 14 + 8 * s + k) ∨ 94 ≤ i) → mSet N j v i = N i := fun i hi => mSet_o (by
    rcases h with h | ⟨x, h0, h1, h⟩ | ⟨x, h0, h1, h⟩ <;> rcases hi with hi | ⟨y, hi⟩ | ⟨y, k, hi⟩ | hi <;> omega)
  refine ⟨⟨q _ (Or.inl (by decide)), q _ (Or.inl (by decide)), q _ (Or.inl (by decide))⟩, fun h h0 h1 => ?_, fun s s0 s1 => ⟨?_, ?_, ?_⟩, fun f k f0 f1 k0 k1 => ?_⟩
  · unfold mH; exact q _ (Or.inr (Or.inl ⟨h, h0, h1, by omega⟩))
  · unfold mS; exact q _ (Or.inr (Or.inr (Or.inl ⟨s, 0, s0, s1, by decide, by decide, rfl⟩)))
  · unfold mS; exact q _ (Or.inr (Or.inr (Or.inl ⟨s, 1, s0, s1, by decide, by decide, rfl⟩)))
  · unfold mS; exact q _ (Or.inr (Or.inr (Or.inl ⟨s, 2, s0, s1, by decide, by decide, rfl⟩)))
  · unfold mF; exact q _ (Or.inr (Or.inr (Or.inr (by omega))))
theorem lD_ho (h : lD T S Sn sf) (hT : T < 1000000) {x v : Int} (x0 : 0 ≤ x) (x1 : x < S.1 0) (v0 : 1 ≤ v) (v1 : v ≤ 100) : lD T (sRec S (mSet S.1 (6 + 2 * x + 1) v)) Sn sf := by
  have hn := h.1.n.v.n
  exact lD_rec h (mSet_N h.gn hT (Or.inr (Or.inl ⟨x, x0, by omega, rfl, by omega, v1⟩))) (cE_set (Or.inr (Or.inl ⟨x, x0, by omega, rfl⟩))) (fe_4 h.2.1 (mSet_o (by omega)))
theorem lD_rn (h : lD T S Sn sf) (hT : T < 1000000) {s v : Int} (x0 : 0 ≤ s) (x1 : s < S.1 1) (v0 : 0 ≤ v) (v1 : v ≤ 9999) : lD T (sRec S (mSet S.1 (14 + 8 * s + 3) v)) Sn sf := by
  have hn := h.1.n.v.n
  exact lD_rec h (mSet_N h.gn hT (Or.inr (Or.inr ⟨s, x0, by omega, rfl, v0, v1⟩))) (cE_set (Or.inr (Or.inr ⟨s, x0, by omega, rfl⟩))) (fe_4 h.2.1 (mSet_o (by omega)))
theorem lD_fee (h : lD T S Sn sf) (hT : T < 1000000) {v : Int} (v0 : 0 ≤ v) (v1 : v ≤ 999) : lD T (sRec S (mSet S.1 4 v)) Sn sf :=
  lD_rec h (mSet_N h.gn hT (Or.inl ⟨rfl, v0, v1⟩)) (cE_set (Or.inl rfl)) (by unfold fe; rw [mSet_at]; exact ⟨v0, v1⟩)
theorem lD_cl (h : lD T S Sn sf) (hT : T ≤ 20000) : lD T (oClS S) Sn sf := by
  have hn := h.1.n.v.n
  have h3 := h.1.n.v.2
  unfold oClS
  split
  · exact h
  · exact lD_rec h (gN_cl h.gn h.2.1 (by omega) hT) clN_cE (fe_4 h.2.1 (clN_lo (by decide) (by decide) (by decide)))
theorem lD_un (h : lD T S Sn sf) : lD T (oUnS S) Sn sf := by
  have g := gS_un h.1
  unfold oUnS at g ⊢
  split
  · exact h
  · rename_i q
    rw [if_neg q] at g
    have hu := h.1.2.1
    obtain ⟨g1, g2⟩ := h.1.2.2 (S.2.2 - 1) (by omega) (by omega)
    have gv := h.1.n.v
    obtain ⟨h1, h2, h3, h4, h5, h6⟩ := h
    exact ⟨g, h4 _ (by omega) (by omega), mCp_cE h3 gv g2, fun k k0 k1 => h4 k k0 (by have k2 : k < S.2.2 - 1 := k1; omega), h5, fun z => ⟨(h6 z).1, g2.sy.tr (h6 z).2.1, (h6 z).2.2⟩⟩
theorem lD_rs (h : lD T S Sn sf) : lD T (if sf = 0 then S else (Sn, S.2.1, 0)) Sn sf := by
  split
  · exact h
  · rename_i z
    obtain ⟨h1, h2, h3, h4, h5, h6⟩ := h
    obtain ⟨a, b, c⟩ := h6 z
    refine ⟨⟨a, ⟨by show (0 : Int) ≤ 0; decide, by show (0 : Int) ≤ 10; decide⟩, fun k k0 k1 => absurd k1 (by show ¬ k < 0; omega)⟩, c, mCp_cE h3 h1.n.v b, fun k k0 k1 => absurd k1 (by show ¬ k < 0; omega), h5, fun _ => ⟨a, cE.rf, c⟩⟩
theorem lD_sv (h : lD T S Sn sf) : lD T S S.1 1 := ⟨h.1, h.2.1, h.2.2.1, h.2.2.2.1, Or.inr rfl, fun _ => ⟨h.1.n, cE.rf, h.2.1⟩⟩
theorem lD_ld {D : Int → Int} {H : Int → Int → Int} (v : ldV D) (hT : 0 ≤ T) : lD T (ldN D, H, 0) Sn 0 := by
  obtain ⟨a, b, c⟩ := ldV_gN v
  exact ⟨⟨a.up hT, ⟨by show (0 : Int) ≤ 0; decide, by show (0 : Int) ≤ 10; decide⟩, fun k k0 k1 => absurd k1 (by show ¬ k < 0; omega)⟩, b, c, fun k k0 k1 => absurd k1 (by show ¬ k < 0; omega), Or.inl rfl, fun z => absurd rfl z⟩
/-- the best programme exists -/
theorem pr_ex (G : zG) (hM : zMo σ 228 A0) (hN : zia σ (A0 0) = S.1) (g : gN T S.1) {h : Int} (h0 : 0 ≤ h) (h1 : h < S.1 0) : 0 ≤ bG S.1 h (lmP S.1 h) ∧ pMax S.1 h (lmP S.1 h) (ch0 S.1 h) (bG S.1 h (lmP S.1 h)) ∧ pLx S.1 h (lmP S.1 h) (ch0 S.1 h) (bF S.1 h (lmP S.1 h)) := by
  obtain ⟨r, σ', ⟨-, -, -, -, -, a, b⟩, -⟩ := zt_X12_layBest (G := G) (d := 0) hM hN g.v g.q.c h0 h1
  have hok := bG_ok g.v g.x g.q h0 h1 ⟨_, a⟩
  exact ⟨hok, a, b hok⟩
theorem lD_pr (G : zG) (hM : zMo σ 228 A0) (hN : zia σ (A0 0) = S.1) (h : lD T S Sn sf) {x : Int} (h0 : 0 ≤ x) (h1 : x < S.1 0) : lD T (oPrS S x) Sn sf := by
  obtain ⟨a, b, c⟩ := pr_ex G hM hN h.gn h0 h1
  have hn := h.1.n.v.n
  have gp : 0 ≤ pG S.1 x (lmP S.1 x) (bF S.1 x (lmP S.1 x)) := by
    obtain ⟨⟨t, t1, t2⟩, _⟩ := b
    have := c.2.1 t t1
    omega
  obtain ⟨p, q⟩ := prN_gN h.gn h0 h1 c.1 (pG_prints h.gn.v h.gn.q.c h0 (by omega) gp)
  refine lD_rec h p q (fe_4 h.2.1 ?_)
  generalize bF S.1 x (lmP S.1 x) = bb
  have e : ∀ k : Nat, k ≤ nn S.1 x → prN S.1 x bb k 4 = S.1 4 := fun k => by
    induction k with
    | zero => exact fun _ => rfl
    | succ k ih =>
      intro hk
      have rb := rk_b h.gn.v (h := x) (k := (k : Int)) (by omega) (by omega)
      show mBook (prN S.1 x bb k) (rk S.1 x k) (bb k) (-1) 0 (mS S.1 (rk S.1 x k) 7) 4 = S.1 4
      unfold mBook
      rw [if_neg (by omega), if_neg (by omega), if_neg (by omega), if_neg (by omega)]
      exact ih (by omega)
  exact e _ (Nat.le_refl _)
end ZLI

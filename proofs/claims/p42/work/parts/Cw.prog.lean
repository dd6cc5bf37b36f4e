/-! a best program taken: what stays the same -/
section ZQ9
variable {σ : zMem} {N N' : Int → Int} {h T : Int}
/-- the same but for what is booked -/
def pS (N N' : Int → Int) (h : Int) : Prop := (∀ j, j < 14 ∨ 94 ≤ j → N' j = N j) ∧ (∀ s k, 0 ≤ s → s < 10 → k = 0 ∨ k = 1 ∨ k = 2 ∨ k = 3 ∨ k = 7 → mS N' s k = mS N s k) ∧ ∀ k : Nat, k < nn N h → ch0 N' h k = ch0 N h k
theorem pS.eS (p : pS N N' h) : nS N' = nS N := by unfold nS; rw [p.1 1 (by omega)]
theorem pS.eF (p : pS N N' h) : nF N' = nF N := by unfold nF; rw [p.1 2 (by omega)]
theorem pS.cn (p : pS N N' h) (x : Int) {n : Nat} (hn : n ≤ 10) : mCn N' x n = mCn N x n := zsum_congr fun s hs => by rw [p.2.1 s 0 (by omega) (by omega) (Or.inl rfl)]
theorem pS.en (p : pS N N' h) (hV : mV N) : nn N' h = nn N h := by
  have hs := nS_eq hV
  unfold nn
  rw [p.eS, p.cn h hs.2]
theorem pS.rk (p : pS N N' h) (hV : mV N) (x k : Int) : rk N' x k = rk N x k := by
  have hs := nS_eq hV
  unfold _root_.Jvm.Pilot.CCinemaChainLaw_law_r8246_3d1113.rk
  rw [p.eS]
  have key : ∀ n : Nat, n ≤ 10 → rkN N' x n k = rkN N x n k := by
    intro n
    induction n with
    | zero => intro _; rfl
    | succ n ih =>
      intro hn2
      unfold rkN
      rw [p.2.1 n 0 (by omega) (by omega) (Or.inl rfl), p.cn x (by omega), ih (by omega)]
  exact key _ hs.2
theorem pS.dem (p : pS N N' h) (f : Int) (f0 : 0 ≤ f) : mDem N' f = mDem N f := mDem_congr (p.1 _ (by omega)) (p.1 _ (by omega)) (p.1 _ (by omega)) (p.1 _ (by omega))
theorem pS.share (p : pS N N' h) (hV : mV N) (h0 : 0 ≤ h) (f t : Int) (f0 : 0 ≤ f) (f1 : f < N 2) (h1 : h < 4) : mShare N' h f t = mShare N h f t := by
  have ix : mIdx N' h f = mIdx N h f := by
    unfold mIdx mR mF
    rw [p.1 _ (by omega), p.1 _ (by omega)]
  have b := mIdx_b hV h0 h1 f0 f1
  unfold mShare
  rw [ix]
  unfold mF
  rw [p.1 _ (by omega), p.1 _ (by omega)]
theorem pS.room (p : pS N N' h) (hV : mV N) (t : Int → Int) (f : Int) (m : Nat) (hm : m ≤ nn N h) : pRoom N' h t f m = pRoom N h t f m := zsum_congr fun k hk => by
  have r := rk_b hV (h := h) (k := (k : Int)) (by omega) (by omega)
  have hn := hV.n
  rw [p.rk hV]
  have c : mCap N' (_root_.Jvm.Pilot.CCinemaChainLaw_law_r8246_3d1113.rk N h k) = mCap N (_root_.Jvm.Pilot.CCinemaChainLaw_law_r8246_3d1113.rk N h k) := by
    unfold mCap
    rw [p.2.1 _ 1 (by omega) (by omega) (by omega), p.2.1 _ 2 (by omega) (by omega) (by omega)]
  rw [c]
theorem pS.gg (p : pS N N' h) (hV : mV N) (h0 : 0 ≤ h) (h1 : h < 4) (lim t : Int → Int) : pG N' h lim t = pG N h lim t := by
  have hn := hV.n
  have hf := nF_eq hV
  unfold pG
  rw [p.eF]
  have key : ∀ n : Nat, n ≤ nF N → pGN N' h lim t n = pGN N h lim t n := by
    intro n
    induction n with
    | zero => intro _; rfl
    | succ n ih =>
      intro hn2
      have e : pG1 N' h lim t (n : Int) = pG1 N h lim t (n : Int) := by
        have tk : pTk N' h t (n : Int) = pTk N h t (n : Int) := by
          unfold pTk
          rw [p.dem _ (by omega), p.en hV, p.room hV t _ _ (Nat.le_refl _)]
          unfold mH
          rw [p.1 _ (by omega)]
        unfold pG1
        rw [p.en hV, tk, p.share hV h0 _ _ (by omega) (by omega) h1]
      unfold pGN
      rw [ih (by omega), e]
  exact key _ (Nat.le_refl _)
theorem pS.vc (p : pS N N' h) (hV : mV N) (t : Int → Int) : pVc (N' 2) (ch0 N' h) (nn N' h) t ↔ pVc (N 2) (ch0 N h) (nn N h) t := by
  rw [p.en hV, p.1 2 (by omega)]
  unfold pVc
  constructor
  · intro q k hk
    have := q k hk
    rw [p.2.2 k hk] at this
    exact this
  · intro q k hk
    rw [p.2.2 k hk]
    exact q k hk
theorem pS.rr (p : pS N N' h) (hV : mV N) (t : Int → Int) : rR (N' 2) (ch0 N' h) t (nn N' h) = rR (N 2) (ch0 N h) t (nn N h) := by
  rw [p.en hV, p.1 2 (by omega)]
  have key : ∀ n : Nat, n ≤ nn N h → rR (N 2) (ch0 N' h) t n = rR (N 2) (ch0 N h) t n := by
    intro n
    induction n with
    | zero => intro _; rfl
    | succ n ih =>
      intro hn2
      unfold rR
      rw [p.2.2 n (by omega), ih (by omega)]
  exact key _ (Nat.le_refl _)
theorem pS.lim (p : pS N N' h) (h0 : 0 ≤ h) (f : Int) (f0 : 0 ≤ f) : lmP N' h f = lmP N h f := p.1 _ (by omega)
theorem pS.max (p : pS N N' h) (hV : mV N) (h0 : 0 ≤ h) (h1 : h < 4) {lim : Int → Int} {b : Int} (x : pMax N h lim (ch0 N h) b) : pMax N' h lim (ch0 N' h) b := by
  obtain ⟨⟨t, t1, t2⟩, l⟩ := x
  refine ⟨⟨t, (p.vc hV t).mpr t1, (p.gg hV h0 h1 lim t).trans t2⟩, fun u hu => ?_⟩
  rw [p.gg hV h0 h1]
  exact l u ((p.vc hV u).mp hu)
theorem pS.lx (p : pS N N' h) (hV : mV N) (h0 : 0 ≤ h) (h1 : h < 4) {lim b : Int → Int} (x : pLx N h lim (ch0 N h) b) : pLx N' h lim (ch0 N' h) b := by
  obtain ⟨a, l, r⟩ := x
  refine ⟨(p.vc hV b).mpr a, fun u hu => ?_, fun u hu e => ?_⟩
  · rw [p.gg hV h0 h1, p.gg hV h0 h1]
    exact l u ((p.vc hV u).mp hu)
  · rw [p.gg hV h0 h1, p.gg hV h0 h1] at e
    rw [p.rr hV, p.rr hV]
    exact r u ((p.vc hV u).mp hu) e
theorem pLx_lim {lim lim' b : Int → Int} (hV : mV N) (e : ∀ f, 0 ≤ f → f < N 2 → lim f = lim' f) (x : pLx N h lim (ch0 N h) b) : pLx N h lim' (ch0 N h) b := by
  obtain ⟨a, l, r⟩ := x
  refine ⟨a, fun u hu => ?_, fun u hu q => ?_⟩
  · rw [← pG_lim hV e, ← pG_lim hV e]; exact l u hu
  · rw [← pG_lim hV e, ← pG_lim hV e] at q; exact r u hu q
/-- the program taken is such a change -/
theorem prN_pS (hV : mV N) {b : Int → Int} (v : pVc (N 2) (ch0 N h) (nn N h) b) : pS N (prN N h b (nn N h)) h ∧ (∀ k : Nat, k < nn N h → mS (prN N h b (nn N h)) (rk N h k) 4 = b k ∧ mS (prN N h b (nn N h)) (rk N h k) 5 = -1) := by
  have hn := hV.n
  have at0 : ∀ k : Nat, k < nn N h → mS (prN N h b (nn N h)) (rk N h k) 4 = b k ∧ mS (prN N h b (nn N h)) (rk N h k) 5 = -1 := fun k hk => by
    have r := rk_b hV (h := h) (k := (k : Int)) (by omega) (by omega)
    rcases prN_at hV (b := b) (Nat.le_refl (nn N h)) (rk N h k) 4 (by omega) (by omega) (by omega) (by omega) with q | ⟨i, hi, e, q⟩
    · exact absurd rfl (q.1 k hk)
    · rcases prN_at hV (b := b) (Nat.le_refl (nn N h)) (rk N h k) 5 (by omega) (by omega) (by omega) (by omega) with q5 | ⟨i5, hi5, e5, q5⟩
      · exact absurd rfl (q5.1 k hk)
      · have : i = k := rk_eq hi hk e rfl
        subst this
        rw [if_pos rfl] at q
        rw [if_neg (by decide), if_pos rfl] at q5
        exact ⟨q, q5⟩
  have sk : ∀ s k, 0 ≤ s → s < 10 → k = 0 ∨ k = 1 ∨ k = 2 ∨ k = 3 ∨ k = 7 → mS (prN N h b (nn N h)) s k = mS N s k := fun s k s0 s1 hk => by
    rcases prN_at hV (b := b) (Nat.le_refl (nn N h)) s k s0 s1 (by omega) (by omega) with q | ⟨i, hi, e, q⟩
    · exact q.2
    · rw [if_neg (by omega), if_neg (by omega), if_neg (by omega)] at q
      exact q
  have hrk : ∀ x k, rk (prN N h b (nn N h)) x k = rk N x k := fun x k => by
    have p0 : pS N (prN N h b (nn N h)) h ∨ True := Or.inr trivial
    have hs := nS_eq hV
    have es : nS (prN N h b (nn N h)) = nS N := by unfold nS; rw [prN_o hV (Nat.le_refl _) (by omega)]
    unfold rk
    rw [es]
    have key : ∀ n : Nat, n ≤ 10 → rkN (prN N h b (nn N h)) x n k = rkN N x n k := by
      intro n
      induction n with
      | zero => intro _; rfl
      | succ n ih =>
        intro hn2
        have cn : mCn (prN N h b (nn N h)) x n = mCn N x n := zsum_congr fun s hs => by rw [sk s 0 (by omega) (by omega) (Or.inl rfl)]
        unfold rkN
        rw [sk n 0 (by omega) (by omega) (Or.inl rfl), cn, ih (by omega)]
    exact key _ hs.2
  refine ⟨⟨fun j hj => prN_o hV (Nat.le_refl _) hj, sk, fun k hk => ?_⟩, at0⟩
  have r := rk_b hV (h := h) (k := (k : Int)) (by omega) (by omega)
  unfold ch0
  rw [hrk, sk _ 7 (by omega) (by omega) (by omega), (at0 k hk).1]
  by_cases c : mS N (rk N h k) 7 = 1
  · rw [if_pos c, if_pos c]
    have vk := (v k hk).2
    have e : ch0 N h k = mS N (rk N h k) 4 := if_pos c
    have q := hV.s (rk N h k) (by omega) (by omega)
    rw [e] at vk
    exact vk (by omega)
  · rw [if_neg c, if_neg c]
theorem ex_max (G : zG) (k : cK T N σ) (h0 : 0 ≤ h) (h1 : h < N 0) : (∃ g, pMax N h (lmP N h) (ch0 N h) g) ∧ ∃ c, pLx N h (lmP N h) (ch0 N h) c := by
  obtain ⟨r, σ', q, -⟩ := zt_X5_findBest (G := G) (d := 0) k.1.cM k.1.cPr k.2.1 k.V k.mq.c h0 h1 k.2.2.2
  obtain ⟨-, -, c, -, l, m, -⟩ := q
  exact ⟨m, c, l⟩
end ZQ9

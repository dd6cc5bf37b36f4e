/-! the class with what it can take back, between the calls of the law -/
section ZQ5
variable {G : zG} {M : zMeth} {d : Nat} {σ σ1 σ2 : zMem} {N : Int → Int} {H : Int → Int → Int} {u T : Int} {S : zS} {n : Nat}
/-- memory grown: nothing that was there is changed -/
def zGx (n : Nat) (σ σ1 : zMem) : Prop := zn σ ≤ zn σ1 ∧ ∀ x, (x < n ∨ zbg ≤ x) → zkd σ1 x = zkd σ x ∧ ∀ j, zra σ1 x j = zra σ x j ∧ zia σ1 x j = zia σ x j
theorem zGx.rf : zGx n σ σ := ⟨Nat.le_refl _, fun x _ => ⟨rfl, fun j => ⟨rfl, rfl⟩⟩⟩
theorem zGx.tr (h : zGx n σ σ1) (k : zGx n σ1 σ2) : zGx n σ σ2 := ⟨Nat.le_trans h.1 k.1, fun x hx => ⟨(k.2 x hx).1.trans (h.2 x hx).1, fun j => ⟨((k.2 x hx).2 j).1.trans ((h.2 x hx).2 j).1, ((k.2 x hx).2 j).2.trans ((h.2 x hx).2 j).2⟩⟩⟩
theorem zGx.nw {k c sz : Nat} (h : zGx n σ σ1) (hn : n ≤ zn σ1) (hz : zn σ1 < zbg) : zGx n σ (znw σ1 k c sz) := h.tr ⟨by rw [zn_nw]; omega, fun x hx => ⟨by rw [zkd_nw, if_neg (by omega)], fun j => ⟨by rw [zra_nw, if_neg (by omega)], by rw [zia_nw, if_neg (by omega)]⟩⟩⟩
theorem zGx.si {a : Nat} {j v : Int} (h : zGx n σ σ1) (hn : n ≤ a) (hz : a < zbg) : zGx n σ (zsi σ1 a j v) := h.tr ⟨Nat.le_refl _, fun x hx => ⟨rfl, fun k => ⟨rfl, by rw [zia_si, if_neg (by omega)]⟩⟩⟩
/-- the same, and the class's own cells as an operation may leave them -/
def zMu (n : Nat) (σ σ1 : zMem) : Prop := zn σ ≤ zn σ1 ∧ ∀ x, (x < n ∨ zbg ≤ x) → zkd σ1 x = zkd σ x ∧ ∀ j, zra σ1 x j = zra σ x j ∧ (¬ cMu B0 x j → zia σ1 x j = zia σ x j)
theorem zMu.rf : zMu n σ σ := ⟨Nat.le_refl _, fun x _ => ⟨rfl, fun j => ⟨rfl, fun _ => rfl⟩⟩⟩
theorem zMu.tr (h : zMu n σ σ1) (k : zMu n σ1 σ2) : zMu n σ σ2 := ⟨Nat.le_trans h.1 k.1, fun x hx => ⟨(k.2 x hx).1.trans (h.2 x hx).1, fun j => ⟨((k.2 x hx).2 j).1.trans ((h.2 x hx).2 j).1, fun q => (((k.2 x hx).2 j).2 q).trans (((h.2 x hx).2 j).2 q)⟩⟩⟩
theorem zGx.mu (h : zGx n σ σ1) : zMu n σ σ1 := ⟨h.1, fun x hx => ⟨(h.2 x hx).1, fun j => ⟨((h.2 x hx).2 j).1, fun _ => ((h.2 x hx).2 j).2⟩⟩⟩
theorem zMu_fr (f : zFr (cMu B0) σ σ1) : zMu n σ σ1 := ⟨by rw [f.1]; exact Nat.le_refl _, fun x _ => ⟨by rw [f.2.1], fun j => ⟨by rw [f.2.2.1], fun q => f.2.2.2.2.2 x j q⟩⟩⟩
theorem zMu.wk {m : Nat} (h : zMu n σ σ1) (hm : m ≤ n) : zMu m σ σ1 := ⟨h.1, fun x hx => h.2 x (by omega)⟩
theorem cMu_B {x : Nat} {j : Int} (h : cMu B0 x j) : ∃ k, x = B0 k := by
  rcases h with ⟨⟨i, _, _, e⟩, _⟩ | h | ⟨i, _, _, e⟩
  · exact ⟨i, e⟩
  · exact ⟨_, h.1⟩
  · exact ⟨i, e⟩
theorem cMu_no {x : Nat} {j : Int} (h0 : 228 ≤ x) (h1 : x < zbg) : ¬ cMu B0 x j := fun z => by
  obtain ⟨k, e⟩ := cMu_B z
  have e1 : zbg = 1000000 := rfl
  have := B0_lt k
  omega
theorem pSh.mu (s : pSh σ) (h : zMu n σ σ1) (hn : 228 ≤ n) : pSh σ1 := ⟨Nat.le_trans s.1 h.1, fun x hx => (h.2 x (by omega)).1.trans (s.2.1 x hx), fun x j hx => ((h.2 x (by omega)).2 j).1.trans (s.2.2 x j hx)⟩
theorem cST_ia (h : ∀ k j, zia σ1 (B0 k) j = zia σ (B0 k) j) (c : cST S σ B0) : cST S σ1 B0 := by
  unfold cST cR cHr cRs cRc at c ⊢
  simp only [h]
  exact c
def cL (T : Int) (S : zS) (σ : zMem) : Prop := pSh σ ∧ cST S σ B0 ∧ gS T S ∧ zia σ (B0 408) 0 = 0 ∧ fe S.1 ∧ ∀ k, 0 ≤ k → k < S.2.2 → fe (S.2.1 k)
theorem cL.K (h : cL T S σ) : cK T S.1 σ := ⟨h.1, h.2.1.1, h.2.2.1.1, h.2.2.2.1⟩
theorem cL.gx (h : cL T S σ) (g : zGx n σ σ1) (hn : 228 ≤ n) : cL T S σ1 := by
  have ia : ∀ k j, zia σ1 (B0 k) j = zia σ (B0 k) j := fun k j => ((g.2 (B0 k) (by have e1 : zbg = 1000000 := rfl; have := B0_lt k; omega)).2 j).2
  exact ⟨h.1.mu g.mu hn, cST_ia ia h.2.1, h.2.2.1, (ia _ _).trans h.2.2.2.1, h.2.2.2.2⟩
theorem cL.sc (h : cL T S σ) (f : zFr (cSc B0) σ σ1) : cL T S σ1 := by
  obtain ⟨a, ⟨b, nx, c⟩, e⟩ := h
  have k := cK_sc (⟨a, b, e.1.1, e.2.1⟩ : cK T S.1 σ) f
  have ia : ∀ i, 500 ≤ i → ∀ j, zia σ1 (B0 i) j = zia σ (B0 i) j := fun i hi j => f.2.2.2.2.2 _ _ (fun z => by
    obtain ⟨⟨q, e1, e2⟩, _⟩ := z
    have := B0_inj _ _ e1
    omega)
  refine ⟨k.1, ⟨k.2.1, nx, ?_⟩, e.1, k.2.2.2, e.2.2⟩
  have hf : zFr (zRg 300 500 B0) σ σ1 := f.wk fun x j q => by
    obtain ⟨⟨i, e1, e2⟩, _⟩ := q
    exact ⟨i, by omega, by omega, e1⟩
  exact cHr_rg B0_inj hf (Or.inl (by omega)) c
theorem cL.op {S' : zS} {T' : Int} (h : cL T S σ) (f : zFr (cMu B0) σ σ1) (c : cST S' σ1 B0) (g : gS T' S') (e : fe S'.1 ∧ ∀ k, 0 ≤ k → k < S'.2.2 → fe (S'.2.1 k)) : cL T' S' σ1 := ⟨h.1.fr f, c, g, cMu_0 B0_inj f h.2.2.2.1, e⟩
theorem fe_rec {N' : Int → Int} (h : fe S.1 ∧ ∀ k, 0 ≤ k → k < S.2.2 → fe (S.2.1 k)) (g : gS T S) (f : fe N') : fe (sRec S N').1 ∧ ∀ k, 0 ≤ k → k < (sRec S N').2.2 → fe ((sRec S N').2.1 k) := by
  refine ⟨f, fun k k0 k1 => ?_⟩
  have k1' : k < min (S.2.2 + 1) 10 := k1
  have u := g.2.1
  show fe (hsR S.2.1 S.2.2 S.1 k)
  by_cases c : k = min (S.2.2 + 1) 10 - 1
  · rw [hRec_n c]; exact h.1
  · rw [hRec_o c]
    refine h.2 _ ?_ ?_
    · split <;> omega
    · split <;> omega
theorem copM_0 {k v : Int} {S' : zS} {as : List zV} (h : zE G M d as σ (copM k v S' B0 σ)) (hk : k = 0) : zE G M d as σ (fun ro σ1 => ro = .inl (some (zI v)) ∧ zFr (cMu B0) σ σ1 ∧ cST S' σ1 B0) := h.mono fun ro σ1 z => by
  rcases z with ⟨_, e1, e2, e3⟩ | ⟨c, _⟩ | ⟨c, _⟩
  · exact ⟨e1, e2, e3⟩
  · omega
  · omega
theorem pL_close (hG : zGd G) (h : cL T (N, H, u) σ) (hT : T ≤ 20000) (h3 : N 3 ≠ 60) : zE G mX11_close (d + 9) [zR (B0 0)] σ (fun ro σ1 => ro = .inl (some (zI (clA N 0))) ∧ zFr (cMu B0) σ σ1 ∧ cL T (sRec (N, H, u) (clN N)) σ1) := by
  have g : gN T N := h.2.2.1.1
  have hn := g.v.n
  have hf : fe N := h.2.2.2.2.1
  refine (copM_0 (zt_X11_close hG h.1.cO h.1.cHs h.2.1 h.2.2.1 h.1.cCl hf hT) rfl).mono fun ro σ1 z => ?_
  obtain ⟨e1, e2, e3⟩ := z
  rw [show oClV N = clA N 0 from if_neg h3] at e1
  rw [show oClS (N, H, u) = sRec (N, H, u) (clN N) from if_neg h3] at e3
  have f4 : fe (clN N) := by
    have : clN N 4 = N 4 := clN_lo (by omega) (by omega) (by omega)
    unfold fe at hf ⊢
    rw [this]
    exact hf
  exact ⟨e1, e2, h.op e2 e3 (gS_rec h.2.2.1 (gN_cl g hf (by omega) hT) clN_cE) (fe_rec h.2.2.2.2 h.2.2.1 f4)⟩
theorem pL_close60 (hG : zGd G) (h : cL T (N, H, u) σ) (hT : T ≤ 20000) (h3 : N 3 = 60) : zE G mX11_close (d + 9) [zR (B0 0)] σ (fun ro σ1 => ro = .inl (some (zI (-2))) ∧ zFr (cMu B0) σ σ1 ∧ cL T (N, H, u) σ1) := by
  refine (copM_0 (zt_X11_close hG h.1.cO h.1.cHs h.2.1 h.2.2.1 h.1.cCl h.2.2.2.2.1 hT) rfl).mono fun ro σ1 z => ?_
  obtain ⟨e1, e2, e3⟩ := z
  rw [show oClV N = -2 from if_pos h3] at e1
  rw [show oClS (N, H, u) = (N, H, u) from if_pos h3] at e3
  exact ⟨e1, e2, h.op e2 e3 h.2.2.1 h.2.2.2.2⟩
theorem pL_undo (hG : zGd G) (h : cL T S σ) : zE G mX11_undo (d + 7) [zR (B0 0)] σ (fun ro σ1 => ro = .inl (some (zI (oUnV S))) ∧ zFr (cMu B0) σ σ1 ∧ cL T (oUnS S) σ1) := by
  obtain ⟨N, H, u⟩ := S
  refine (copM_0 (zt_X11_undo hG h.1.cO h.1.cHs h.2.1 h.2.2.1) rfl).mono fun ro σ1 z => ?_
  obtain ⟨e1, e2, e3⟩ := z
  refine ⟨e1, e2, h.op e2 e3 (gS_un h.2.2.1) ?_⟩
  have u0 : 0 ≤ u ∧ u ≤ 10 := h.2.2.1.2.1
  have hh := h.2.2.2.2
  show fe (oUnS (N, H, u)).1 ∧ _
  unfold oUnS
  by_cases c : u = 0
  · rw [if_pos c]; exact hh
  · rw [if_neg c]
    exact ⟨hh.2 (u - 1) (by show 0 ≤ u - 1; omega) (by show u - 1 < u; omega), fun k k0 k1 => hh.2 k k0 (by show k < u; have : k < u - 1 := k1; omega)⟩
theorem oUn_rec {N' : Int → Int} (h0 : 0 ≤ u) (hu : u < 10) : oUnS (sRec (N, H, u) N') = (N, hsR H u N, u) ∧ oUnV (sRec (N, H, u) N') = u ∧ ∀ k, 0 ≤ k → k < u → hsR H u N k = H k := by
  have e1 : min (u + 1) 10 = u + 1 := by omega
  have e2 : sRec (N, H, u) N' = (N', hsR H u N, u + 1) := by
    show (N', hsR H u N, min (u + 1) 10) = _
    rw [e1]
  rw [e2]
  refine ⟨?_, ?_, fun k k0 k1 => ?_⟩
  · show (if u + 1 = 0 then (N', hsR H u N, u + 1) else (hsR H u N (u + 1 - 1), hsR H u N, u + 1 - 1)) = _
    rw [if_neg (by omega), show u + 1 - 1 = u by omega, hRec_n (by omega)]
  · show (if u + 1 = 0 then -1 else u + 1 - 1) = u
    rw [if_neg (by omega)]; omega
  · rw [hRec_o (by omega), if_neg (by omega)]
    congr 1
    omega
theorem mRent_sum : zsum (fun s => mS N s 3) (nS N) = clA N 2 := by
  show _ = (if (2 : Int) = 0 then _ else if (2 : Int) = 1 then _ else if (2 : Int) = 2 then mRent N (-1) else _)
  rw [if_neg (by decide), if_neg (by decide), if_pos rfl]
  exact zsum_congr fun i _ => (if_pos (Or.inl rfl)).symm
theorem clN_tot {k : Int} (k0 : 0 ≤ k) (k1 : k < 4) : clN N (208 + k) = N (208 + k) + clA N k := by
  rw [clN_hi (by omega) (by omega)]
  unfold kwN
  rw [if_pos (by omega), show 208 + k - 208 = k by omega]
theorem clN_st {s : Nat} (hs : s < nS N) (h10 : s < 10) : mS (clN N) s 4 = hFl N s ∧ mS (clN N) s 5 = -1 ∧ mS (clN N) s 7 = zb (mHold N s) := by
  refine ⟨?_, ?_, ?_⟩
  · rw [clN_S (by omega) (by omega) (by omega) (by omega)]
    show (if _ then _ else _) = _
    rw [if_pos ⟨by omega, by omega⟩, if_pos rfl]
  · rw [clN_S (by omega) (by omega) (by omega) (by omega)]
    show (if _ then _ else _) = _
    rw [if_pos ⟨by omega, by omega⟩, if_neg (by decide), if_pos rfl]
  · rw [clN_S (by omega) (by omega) (by omega) (by omega)]
    show (if _ then _ else _) = _
    rw [if_pos ⟨by omega, by omega⟩, if_neg (by decide), if_neg (by decide), if_neg (by decide)]
theorem clN_wk : clN N (212 + 5 * 0 + 0) = clA N 0 ∧ clN N (212 + 5 * 0 + 4) = zsum (fun s => zb (mHold N s)) (nS N) := by
  refine ⟨?_, clN_216⟩
  rw [clN_hi (by decide) (by decide)]
  unfold kwN
  rw [if_neg (by decide), if_pos (by decide)]
  rfl
theorem clN_hd (hV : mV N) : cHdN (clN N) (nS (clN N)) = zsum (fun s => zb (mHold N s)) (nS N) := by
  have e1 : nS (clN N) = nS N := congrArg Int.toNat (clN_lo (by omega) (by omega) (by omega))
  have hs := nS_eq hV
  rw [e1]
  exact zsum_congr fun i hi => (clN_st hi (by omega)).2.2
end ZQ5

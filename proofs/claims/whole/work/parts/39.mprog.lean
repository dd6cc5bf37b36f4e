/-! the reference: programs -/
section ZQ4
variable {G : zG} {d : Nat} {σ : zMem} {hm : Nat} {A : Nat → Nat} {N : Int → Int}
def mRo (N : Int → Int) (h : Int) (σ : zMem) (hm : Nat) (A : Nat → Nat) : Prop := zia σ hm ((12 : Nat) : Int) = (nn N h : Int) ∧ ∀ k : Int, 0 ≤ k → k < (nn N h : Int) → zia σ (A 9) k = rk N h k
theorem rk_b (hV : mV N) {h k : Int} (k0 : 0 ≤ k) (k1 : k < (nn N h : Int)) : 0 ≤ rk N h k ∧ rk N h k < N 1 ∧ mS N (rk N h k) 0 = h := by
  have hs := nS_eq hV
  obtain ⟨s, e1, e2, e3, -⟩ := rk_p N h (k := k) k0 (by unfold nn at k1; have := mCn_b N h (nS N); omega)
  rw [e1]
  exact ⟨by omega, by omega, e3⟩
theorem ch0_b (hV : mV N) {h k : Int} (k0 : 0 ≤ k) (k1 : k < (nn N h : Int)) : (mS N (rk N h k) 7 = 1 ∧ ch0 N h k = mS N (rk N h k) 4 ∧ -1 ≤ ch0 N h k ∧ ch0 N h k < 6) ∨ (mS N (rk N h k) 7 ≠ 1 ∧ ch0 N h k = -2) := by
  have hn := hV.n
  have b := rk_b hV k0 k1
  have q := hV.s (rk N h k) b.1 (by omega)
  unfold ch0
  by_cases c : mS N (rk N h k) 7 = 1
  · rw [if_pos c]; exact Or.inl ⟨c, rfl, by omega, by omega⟩
  · rw [if_neg c]; exact Or.inr ⟨c, rfl⟩
theorem tv_b (hV : mV N) {h : Int} {t : Int → Int} (v : pVc (N 2) (ch0 N h) (nn N h) t) {k : Int} (k0 : 0 ≤ k) (k1 : k < (nn N h : Int)) : -1 ≤ t k ∧ t k < 6 := by
  have hn := hV.n
  obtain ⟨n, rfl⟩ := Int.eq_ofNat_of_zero_le k0
  have q := v n (by omega)
  rcases ch0_b hV k0 k1 with ⟨_, b, c, e⟩ | ⟨_, b⟩
  · have := q.2 (by omega); omega
  · have := q.1 b; omega
def mLb (hm : Nat) (A : Nat → Nat) (h : Nat) (j : Int) : Prop := (h = hm ∧ (j = 12 ∨ j = 13)) ∨ h = A 9 ∨ h = A 10 ∨ h = A 11
theorem mLb_no (hM : zMo σ hm A) {k : Nat} {j : Int} (hk : k ∈ zmf.map (·.1)) (h9 : k ≠ 9) (h10 : k ≠ 10) (h11 : k ≠ 11) : ¬ mLb hm A (A k) j := fun q => by
  rcases q with ⟨q, _⟩ | q | q | q
  · exact zMo_hm1 hM hk zMo_h1 q
  · exact zMo_ne hM hk (by decide) h9 q
  · exact zMo_ne hM hk (by decide) h10 q
  · exact zMo_ne hM hk (by decide) h11 q
theorem mLb_hm (hM : zMo σ hm A) {j : Int} (h : j ≠ 12 ∧ j ≠ 13) : ¬ mLb hm A hm j := fun q => by
  rcases q with ⟨_, q⟩ | q | q | q
  · omega
  · exact zMo_hm1 hM (k := 9) (by decide) zMo_h1 q.symm
  · exact zMo_hm1 hM (k := 10) (by decide) zMo_h1 q.symm
  · exact zMo_hm1 hM (k := 11) (by decide) zMo_h1 q.symm
theorem mLb_sc {σ1 : zMem} (f : zFr (mLb hm A) σ σ1) : zFr (mSc hm A) σ σ1 := f.wk fun _ _ q => by
  rcases q with ⟨a, b⟩ | q | q | q
  · exact Or.inl ⟨a, Or.inr b⟩
  · exact Or.inr (Or.inr (Or.inr (Or.inl q)))
  · exact Or.inr (Or.inr (Or.inr (Or.inr (Or.inl q))))
  · exact Or.inr (Or.inr (Or.inr (Or.inr (Or.inr (Or.inl q)))))
theorem mLb_mi {σ1 : zMem} (f : zFr (mLb hm A) σ σ1) : zFr (mMi hm A) σ σ1 := f.wk fun _ _ q => by
  rcases q with ⟨a, b⟩ | q | q | q
  · exact Or.inl ⟨a, Or.inr b⟩
  · exact Or.inr ⟨9, by decide, q⟩
  · exact Or.inr ⟨10, by decide, q⟩
  · exact Or.inr ⟨11, by decide, q⟩
theorem mRo_10 {h : Int} {j v : Int} (hM : zMo σ hm A) (r : mRo N h σ hm A) : mRo N h (zsi σ (A 10) j v) hm A :=
  ⟨zsi_N (fun e => zMo_hm1 hM (k := 10) (by decide) zMo_h1 e.symm) r.1, fun k a b => zsi_N (zMo_ne hM (j := 9) (k := 10) (by decide) (by decide) (by decide)) (r.2 k a b)⟩
theorem mRo_11 {h : Int} {j v : Int} (hM : zMo σ hm A) (r : mRo N h σ hm A) : mRo N h (zsi σ (A 11) j v) hm A :=
  ⟨zsi_N (fun e => zMo_hm1 hM (k := 11) (by decide) zMo_h1 e.symm) r.1, fun k a b => zsi_N (zMo_ne hM (j := 9) (k := 11) (by decide) (by decide) (by decide)) (r.2 k a b)⟩
theorem mRo_13 {h : Int} {v : Int} (hM : zMo σ hm A) (r : mRo N h σ hm A) : mRo N h (zsi σ hm ((13 : Nat) : Int) v) hm A :=
  ⟨zsi_F (by decide) r.1, fun k a b => zsi_N (zMo_hm1 hM (k := 9) (by decide) zMo_h1) (r.2 k a b)⟩
/-- the next program -/
def pNx (N : Int → Int) (h : Int) (t t' : Int → Int) (b : Int) : Prop := (b = 1 ∧ pVc (N 2) (ch0 N h) (nn N h) t' ∧ rR (N 2) (ch0 N h) t' (nn N h) = rR (N 2) (ch0 N h) t (nn N h) + 1) ∨ (b = 0 ∧ rR (N 2) (ch0 N h) t (nn N h) + 1 = rW (N 2) (ch0 N h) (nn N h))
def pDn (N : Int → Int) (h : Int) (t t2 : Int → Int) (x : Nat) : Prop := (∀ j : Nat, j < x → t2 j = t j) ∧ ∀ j : Nat, x ≤ j → j < nn N h → (ch0 N h j = -2 → t j = N 2 - 1 ∧ t2 j = -1) ∧ (ch0 N h j ≠ -2 → t2 j = t j)
theorem pDn_end {h : Int} {t t2 : Int → Int} (p : pDn N h t t2 0) : rR (N 2) (ch0 N h) t (nn N h) + 1 = rW (N 2) (ch0 N h) (nn N h) := rR_max fun k hk c => ((p.2 k (by omega) hk).1 c).1
theorem pDn_held {h : Int} {t t2 : Int → Int} {x : Nat} (p : pDn N h t t2 (x + 1)) (c : ch0 N h x ≠ -2) : pDn N h t t2 x := ⟨fun j hj => p.1 j (by omega), fun j h1 h2 => by
  by_cases e : j = x
  · subst e; exact ⟨fun z => absurd z c, fun _ => p.1 j (by omega)⟩
  · exact p.2 j (by omega) h2⟩
theorem pDn_full {h : Int} {t : Int → Int} {x : Nat} (p : pDn N h t (zia σ (A 10)) (x + 1)) (c : zia σ (A 10) x = N 2 - 1) (c2 : ch0 N h x = -2) : pDn N h t (zia (zsi σ (A 10) (x : Int) (-1)) (A 10)) x := ⟨fun j hj => by rw [zia_si, if_neg (fun q => by have := q.2; omega)]; exact p.1 j (by omega), fun j h1 h2 => by
  by_cases e : j = x
  · subst e
    refine ⟨fun _ => ⟨by rw [← p.1 j (by omega)]; exact c, by rw [zia_si, if_pos ⟨rfl, rfl⟩]⟩, fun z => absurd c2 z⟩
  · rw [zia_si, if_neg (fun q => e (by have := q.2; omega))]
    exact p.2 j (by omega) h2⟩
theorem pDn_step {h : Int} {t : Int → Int} {x : Nat} (hx : x < nn N h) (v : pVc (N 2) (ch0 N h) (nn N h) t) (p : pDn N h t (zia σ (A 10)) (x + 1)) (c2 : ch0 N h x = -2) (c : zia σ (A 10) x + 1 < N 2) : pNx N h t (zia (zsi σ (A 10) (x : Int) (zia σ (A 10) x + 1)) (A 10)) 1 := by
  have e0 := p.1 x (by omega)
  have at_x : zia (zsi σ (A 10) (x : Int) (zia σ (A 10) x + 1)) (A 10) x = t x + 1 := by rw [zia_si, if_pos ⟨rfl, rfl⟩, e0]
  have lo : ∀ j : Nat, j < x → zia (zsi σ (A 10) (x : Int) (zia σ (A 10) x + 1)) (A 10) j = t j := fun j hj => by rw [zia_si, if_neg (fun q => by have := q.2; omega)]; exact p.1 j (by omega)
  have hi : ∀ j : Nat, x < j → zia (zsi σ (A 10) (x : Int) (zia σ (A 10) x + 1)) (A 10) j = zia σ (A 10) j := fun j hj => by rw [zia_si, if_neg (fun q => by have := q.2; omega)]
  refine Or.inl ⟨rfl, fun k hk => ?_, rR_next c2 lo at_x hx fun j h1 h2 z => ?_⟩
  · rcases Nat.lt_trichotomy k x with q | q | q
    · rw [lo k q]; exact v k hk
    · subst q
      rw [at_x]
      have := (v k hk).1 c2
      exact ⟨fun _ => by omega, fun z => absurd c2 z⟩
    · rw [hi k q]
      have r := p.2 k (by omega) hk
      refine ⟨fun z => ?_, fun z => by rw [r.2 z]; exact (v k hk).2 z⟩
      have := r.1 z
      have := (v k hk).1 z
      omega
  · rw [hi j h1]; exact (p.2 j (by omega) h2).1 z
theorem pGN_s {h : Int} {lim t : Int → Int} {x : Nat} (h1 : pGN N h lim t x ≠ -1) (h2 : pG1 N h lim t x ≠ -1) : pGN N h lim t x + pG1 N h lim t x = pGN N h lim t (x + 1) := by
  show _ = if _ then _ else _
  rw [if_neg (fun q => q.elim h1 h2)]
theorem mLb_R {σ1 : zMem} (f : zFr (fun y j => (y = hm ∧ j = 12) ∨ y = A 9) σ σ1) : zFr (mLb hm A) σ σ1 := f.wk fun _ _ q => q.elim (fun q => Or.inl ⟨q.1, Or.inl q.2⟩) (fun q => Or.inr (Or.inl q))
theorem mLb_10 {σ1 : zMem} {j v : Int} (f : zFr (mLb hm A) σ σ1) : zFr (mLb hm A) σ (zsi σ1 (A 10) j v) := zFr_si (Or.inr (Or.inr (Or.inl rfl))) f
theorem mLb_11 {σ1 : zMem} {j v : Int} (f : zFr (mLb hm A) σ σ1) : zFr (mLb hm A) σ (zsi σ1 (A 11) j v) := zFr_si (Or.inr (Or.inr (Or.inr rfl))) f
theorem mLb_13 {σ1 : zMem} {v : Int} (f : zFr (mLb hm A) σ σ1) : zFr (mLb hm A) σ (zsi σ1 hm ((13 : Nat) : Int) v) := zFr_si (Or.inl ⟨rfl, Or.inr rfl⟩) f
theorem mLb_N {σ1 : zMem} (hM : zMo σ hm A) (hN : zia σ (A 0) = N) (f : zFr (mLb hm A) σ σ1) : zia σ1 (A 0) = N := (f.at fun _ => mLb_no hM (by decide) (by decide) (by decide) (by decide)).trans hN
theorem mRo_fr {P : Nat → Int → Prop} {h : Int} {σ1 : zMem} (r : mRo N h σ hm A) (f : zFr P σ σ1) (h1 : ¬ P hm 12) (h2 : ∀ j, ¬ P (A 9) j) : mRo N h σ1 hm A :=
  ⟨(f.2.2.2.2.2 hm _ h1).trans r.1, fun k a b => (f.2.2.2.2.2 (A 9) k (h2 k)).trans (r.2 k a b)⟩
/-- the loop over all programs, in memory -/
def lbI (N : Int → Int) (h : Int) (σ : zMem) (hm : Nat) (A : Nat → Nat) (b : Int) (m : Nat) : Prop :=
  (b = 1 ∧ m = (rW (N 2) (ch0 N h) (nn N h) - rR (N 2) (ch0 N h) (zia σ (A 10)) (nn N h)).toNat ∧ pInv N h (fun f => mP N f h) (ch0 N h) (zia σ (A 10)) (zia σ (A 11)) (zia σ hm ((13 : Nat) : Int))) ∨
  (b = 0 ∧ m = 0 ∧ pMax N h (fun f => mP N f h) (ch0 N h) (zia σ hm ((13 : Nat) : Int)) ∧ (0 ≤ zia σ hm ((13 : Nat) : Int) → pLx N h (fun f => mP N f h) (ch0 N h) (zia σ (A 11))))
theorem lbI_1 {h b : Int} {m : Nat} (i : lbI N h σ hm A b m) (hb : ¬ b = 0) : m = (rW (N 2) (ch0 N h) (nn N h) - rR (N 2) (ch0 N h) (zia σ (A 10)) (nn N h)).toNat ∧ pInv N h (fun f => mP N f h) (ch0 N h) (zia σ (A 10)) (zia σ (A 11)) (zia σ hm ((13 : Nat) : Int)) := by
  rcases i with i | i
  · exact i.2
  · exact absurd i.1 hb
theorem lbI_0 {h b : Int} {m : Nat} (i : lbI N h σ hm A b m) (hb : b = 0) : pMax N h (fun f => mP N f h) (ch0 N h) (zia σ hm ((13 : Nat) : Int)) ∧ (0 ≤ zia σ hm ((13 : Nat) : Int) → pLx N h (fun f => mP N f h) (ch0 N h) (zia σ (A 11))) := by
  rcases i with i | i
  · omega
  · exact i.2.2
theorem lbI_b {h b : Int} {m : Nat} (i : lbI N h σ hm A b m) : b = 0 ∨ b = 1 := i.elim (fun i => Or.inr i.1) (fun i => Or.inl i.1)
/-- one more program weighed -/
theorem lbI_next (hV : mV N) (hQ : mC4 N) {h : Int} (h0 : 0 ≤ h) (h1 : h < 4) {σ1 : zMem} {t best : Int → Int} {bg b : Int} (w : pInw N h (fun f => mP N f h) (ch0 N h) t best bg) (e13 : zia σ1 hm ((13 : Nat) : Int) = bg) (e11 : ∀ k : Nat, k < nn N h → zia σ1 (A 11) k = best k) (x : pNx N h t (zia σ1 (A 10)) b) : ∃ m, m < (rW (N 2) (ch0 N h) (nn N h) - rR (N 2) (ch0 N h) t (nn N h)).toNat ∧ lbI N h σ1 hm A b m := by
  have hF := hV.n
  have rb := rR_b (F := N 2) (by omega) w.1
  have w' : pInw N h (fun f => mP N f h) (ch0 N h) t (zia σ1 (A 11)) bg := by
    obtain ⟨w1, w0, w2, w3⟩ := w
    refine ⟨w1, w0, w2, w3.elim Or.inl fun ⟨a, b, c, e⟩ => Or.inr ?_⟩
    have r : rR (N 2) (ch0 N h) (zia σ1 (A 11)) (nn N h) = rR (N 2) (ch0 N h) best (nn N h) := rR_congr e11
    exact ⟨pVc_congr (fun k hk => (e11 k hk).symm) a, (pG_congr e11).trans b, by rw [r]; exact c, fun u hu le hg => by rw [r]; exact e u hu le hg⟩
  rcases x with ⟨b1, v, r⟩ | ⟨b0, r⟩
  · refine ⟨(rW (N 2) (ch0 N h) (nn N h) - rR (N 2) (ch0 N h) (zia σ1 (A 10)) (nn N h)).toNat, by omega, Or.inl ⟨b1, rfl, ?_⟩⟩
    rw [e13]
    exact pInw_next w' v r
  · refine ⟨0, by omega, Or.inr ⟨b0, rfl, ?_⟩⟩
    rw [e13]
    exact pInw_end hV hQ h0 h1 w' r
theorem pInv_b (hV : mV N) (hQ : mC4 N) {h : Int} (h0 : 0 ≤ h) (h1 : h < 4) {lim ch t best : Int → Int} {bg : Int} (i : pInv N h lim ch t best bg) : -1 ≤ bg ∧ bg ≤ 41575842 := by
  have hf := nF_eq hV
  have hn := hV.n
  refine ⟨i.2.1, ?_⟩
  rcases i.2.2.2 with z | ⟨_, b, _⟩
  · omega
  · have := pGN_b hV hQ h0 h1 lim best (Nat.le_refl (nF N))
    unfold pG at b
    omega
theorem pG_b (hV : mV N) (hQ : mC4 N) {h : Int} (h0 : 0 ≤ h) (h1 : h < 4) (lim t : Int → Int) : -1 ≤ pG N h lim t ∧ pG N h lim t ≤ 41575842 := by
  have hf := nF_eq hV
  have hn := hV.n
  have := pGN_b hV hQ h0 h1 lim t (Nat.le_refl (nF N))
  unfold pG
  omega
def iT (N : Int → Int) (h k : Int) : Int := if mS N (rk N h k) 7 = 1 then mS N (rk N h k) 4 else -1
theorem iT_v (hV : mV N) {h : Int} {t : Int → Int} (e : ∀ k : Int, 0 ≤ k → k < (nn N h : Int) → t k = iT N h k) : pVc (N 2) (ch0 N h) (nn N h) t ∧ rR (N 2) (ch0 N h) t (nn N h) = 0 := by
  have hn := hV.n
  refine ⟨fun k hk => ?_, rR_0 fun k hk c => ?_⟩
  · rw [e k (by omega) (by omega)]
    rcases ch0_b hV (h := h) (k := (k : Int)) (by omega) (by omega) with ⟨a, b, c, g⟩ | ⟨a, b⟩
    · exact ⟨fun z => by omega, fun _ => by unfold iT; rw [if_pos a, b]⟩
    · exact ⟨fun _ => by unfold iT; rw [if_neg a]; omega, fun z => absurd b z⟩
  · rw [e k (by omega) (by omega)]
    rcases ch0_b hV (h := h) (k := (k : Int)) (by omega) (by omega) with ⟨a, b, c2, g⟩ | ⟨a, b⟩
    · omega
    · unfold iT; rw [if_neg a]
theorem iT_st {h : Int} {x : Nat} {v : Int} (p : ∀ k : Int, 0 ≤ k → k < (x : Int) → zia σ (A 10) k = iT N h k) (ev : v = iT N h x) : ∀ k : Int, 0 ≤ k → k < ((x + 1 : Nat) : Int) → zia (zsi σ (A 10) (x : Int) v) (A 10) k = iT N h k := fun k a b => by
  rw [zia_si]
  by_cases c : k = x
  · rw [if_pos ⟨rfl, c⟩, ev, c]
  · rw [if_neg (fun q => c q.2), p k a (by omega)]
theorem cp_st {x : Nat} {T : Int → Int} (p : ∀ k : Nat, k < x → zia σ (A 11) k = T k) : ∀ k : Nat, k < x + 1 → zia (zsi σ (A 11) (x : Int) (T x)) (A 11) k = T k := fun k b => by
  rw [zia_si]
  by_cases c : k = x
  · rw [if_pos ⟨rfl, by omega⟩, c]
  · rw [if_neg (fun q => c (by have := q.2; omega)), p k (by omega)]
theorem zt_X12_gainOf {h f : Int} (hM : zMo σ hm A) (hN : zia σ (A 0) = N) (hV : mV N) (hQ : mC4 N) (hro : mRo N h σ hm A) (htv : pVc (N 2) (ch0 N h) (nn N h) (zia σ (A 10))) (h0 : 0 ≤ h) (h1 : h < N 0) (f0 : 0 ≤ f) (f1 : f < N 2) : zP1 G mX12_gainOf (d + 6) [zR hm, zI h, zI f] σ (pG1 N h (fun f => mP N f h) (zia σ (A 10)) f) := by
  refine zE_of rfl (by simp [zcat]) (Nat.le_of_ble_eq_true rfl) ?_
  show zF G mX12_gainOf (d + 6) 0 [(0, zR hm), (1, zI h), (2, zI f)] [] σ _
  have hb := hV.b
  have hn := hV.n
  have hnn := nn_eq hQ h
  have qk := pTk_b hV hQ h0 (by omega) (zia σ (A 10)) f0 (by omega)
  have qk2 : 7 * min (mDem N f) (pRoom N h (zia σ (A 10)) f (nn N h)) * mH N h 0 = pTk N h (zia σ (A 10)) f := rfl
  have qc := pCnt_b (zia σ (A 10)) f (nn N h)
  have qr := pRoom_b hV h (zia σ (A 10)) f (nn N h) (Nat.le_refl _) hnn.2
  have qd := mDem_b hV f0 (by omega) (mAge N f).toNat
  have qd2 : mDem N f = mDemN N f (mAge N f).toNat := rfl
  refine zF_iconst 1 dX12_gainOf_0 rfl ?_
  refine zF_istore_n 2 (ls' := [(3, zI 0), (0, zR hm), (1, zI h), (2, zI f)]) dX12_gainOf_1 rfl (by decide) rfl ?_
  refine zF_iconst 3 dX12_gainOf_2 rfl ?_
  refine zF_istore 5 (ls' := [(4, zI 0), (3, zI 0), (0, zR hm), (1, zI h), (2, zI f)]) dX12_gainOf_3 rfl (by decide) rfl ?_
  refine zF_iconst 6 dX12_gainOf_5 rfl ?_
  refine zF_istore 8 (ls' := [(5, zI 0), (4, zI 0), (3, zI 0), (0, zR hm), (1, zI h), (2, zI f)]) dX12_gainOf_6 rfl (by decide) rfl ?_
  refine zF_locs (ls' := (fun (i : Nat) => [(5, zI (i : Int)), (4, zI (pCnt (zia σ (A 10)) f i)), (3, zI (pRoom N h (zia σ (A 10)) f i)), (0, zR hm), (1, zI h), (2, zI f)]) 0) ⟨zlI rfl (by first | rfl | omega | (push_cast; omega) | exact congrArg (_ + ·) (zbT (by assumption)) | exact congrArg (_ + ·) (zbF (by assumption)) | exact congrArg (_ + ·) (zbT (by omega)) | exact congrArg (_ + ·) (zbF (by omega)) | exact congrArg (_ + ·) (if_pos (by omega)).symm | exact congrArg (_ + ·) (if_neg (by omega)).symm | exact (if_pos (by omega)).symm | exact (if_neg (by omega)).symm | exact zsub_s (if_pos (by omega)).symm | exact zsub_s0 (if_neg (by omega)).symm | exact zadd0 (if_neg (by omega)).symm | exact zadd0 (zbF (by omega)) | exact (Int.sub_zero _).symm), zlI rfl (by first | rfl | omega | (push_cast; omega) | exact congrArg (_ + ·) (zbT (by assumption)) | exact congrArg (_ + ·) (zbF (by assumption)) | exact congrArg (_ + ·) (zbT (by omega)) | exact congrArg (_ + ·) (zbF (by omega)) | exact congrArg (_ + ·) (if_pos (by omega)).symm | exact congrArg (_ + ·) (if_neg (by omega)).symm | exact (if_pos (by omega)).symm | exact (if_neg (by omega)).symm | exact zsub_s (if_pos (by omega)).symm | exact zsub_s0 (if_neg (by omega)).symm | exact zadd0 (if_neg (by omega)).symm | exact zadd0 (zbF (by omega)) | exact (Int.sub_zero _).symm), zlI rfl (by first | rfl | omega | (push_cast; omega) | exact congrArg (_ + ·) (zbT (by assumption)) | exact congrArg (_ + ·) (zbF (by assumption)) | exact congrArg (_ + ·) (zbT (by omega)) | exact congrArg (_ + ·) (zbF (by omega)) | exact congrArg (_ + ·) (if_pos (by omega)).symm | exact congrArg (_ + ·) (if_neg (by omega)).symm | exact (if_pos (by omega)).symm | exact (if_neg (by omega)).symm | exact zsub_s (if_pos (by omega)).symm | exact zsub_s0 (if_neg (by omega)).symm | exact zadd0 (if_neg (by omega)).symm | exact zadd0 (zbF (by omega)) | exact (Int.sub_zero _).symm), rfl, rfl, rfl, trivial⟩ ?_
  refine zF_loop (n := (nn N h)) (fun (i : Nat) => [(5, zI (i : Int)), (4, zI (pCnt (zia σ (A 10)) f i)), (3, zI (pRoom N h (zia σ (A 10)) f i)), (0, zR hm), (1, zI h), (2, zI f)]) (fun _ => σ) (fun i hi ih8 => ?_) ?_
  · show zF G mX12_gainOf (d + 6) 8 [(5, zI (i : Int)), (4, zI (pCnt (zia σ (A 10)) f i)), (3, zI (pRoom N h (zia σ (A 10)) f i)), (0, zR hm), (1, zI h), (2, zI f)] [] σ _
    have qt := tv_b hV htv (k := (i : Int)) (by omega) (by omega)
    have qb := rk_b hV (h := h) (k := (i : Int)) (by omega) (by omega)
    refine zF_iload 10 dX12_gainOf_8 rfl rfl ?_
    refine zF_aload_n 11 dX12_gainOf_10 rfl rfl ?_
    refine zF_getI 14 dX12_gainOf_11 rfl gX12_199 (by decide) (by decide) hM.1 hM.2.1 hro.1 ?_
    refine zF_icmp_ge 73 17 dX12_gainOf_14 rfl rfl (by first | decide | assumption | exact hb _ | exact mSh_rg hb _ _ | exact zb_rg _ | (constructor <;> omega)) (by first | decide | assumption | exact hb _ | exact mSh_rg hb _ _ | exact zb_rg _ | (constructor <;> omega)) (fun c1 => ?_) (fun c1 => ?_)
    · exact absurd c1 (by omega)
    · refine zF_iload_n 18 dX12_gainOf_17 rfl rfl ?_
      refine zF_aload_n 19 dX12_gainOf_18 rfl rfl ?_
      refine zF_getR 22 dX12_gainOf_19 rfl gX12_32 hM.1 hM.2.1 (zM_10 hM).1 ?_
      refine zF_iload 24 dX12_gainOf_22 rfl rfl ?_
      refine zF_iaload 25 dX12_gainOf_24 rfl (zM_10 hM).2.2 (zM_10 hM).2.1 (by omega) (by omega) rfl ?_
      refine zF_iload_n 26 dX12_gainOf_25 rfl rfl ?_
      refine zF_icmp_ne 43 29 dX12_gainOf_26 rfl rfl (by first | decide | assumption | exact hb _ | exact mSh_rg hb _ _ | exact zb_rg _ | (constructor <;> omega)) (by first | decide | assumption | exact hb _ | exact mSh_rg hb _ _ | exact zb_rg _ | (constructor <;> omega)) (fun c2 => ?_) (fun c2 => ?_)
      · refine zF_iconst 44 dX12_gainOf_43 rfl ?_
        refine zF_iadd 45 dX12_gainOf_44 rfl ?_
        refine zF_istore_n 46 (ls' := [(3, zI ((pRoom N h (zia σ (A 10)) f i) + 0)), (5, zI (i : Int)), (4, zI (pCnt (zia σ (A 10)) f i)), (0, zR hm), (1, zI h), (2, zI f)]) dX12_gainOf_45 rfl (by decide) rfl ?_
        refine zF_iload 48 dX12_gainOf_46 rfl rfl ?_
        refine zF_aload_n 49 dX12_gainOf_48 rfl rfl ?_
        refine zF_getR 52 dX12_gainOf_49 rfl gX12_32 hM.1 hM.2.1 (zM_10 hM).1 ?_
        refine zF_iload 54 dX12_gainOf_52 rfl rfl ?_
        refine zF_iaload 55 dX12_gainOf_54 rfl (zM_10 hM).2.2 (zM_10 hM).2.1 (by omega) (by omega) rfl ?_
        refine zF_iload_n 56 dX12_gainOf_55 rfl rfl ?_
        refine zF_icmp_ne 63 59 dX12_gainOf_56 rfl rfl (by first | decide | assumption | exact hb _ | exact mSh_rg hb _ _ | exact zb_rg _ | (constructor <;> omega)) (by first | decide | assumption | exact hb _ | exact mSh_rg hb _ _ | exact zb_rg _ | (constructor <;> omega)) (fun c3 => ?_) (fun c3 => ?_)
        · refine zF_iconst 64 dX12_gainOf_63 rfl ?_
          refine zF_iadd 65 dX12_gainOf_64 rfl ?_
          refine zF_istore 67 (ls' := [(4, zI ((pCnt (zia σ (A 10)) f i) + 0)), (3, zI ((pRoom N h (zia σ (A 10)) f i) + 0)), (5, zI (i : Int)), (0, zR hm), (1, zI h), (2, zI f)]) dX12_gainOf_65 rfl (by decide) rfl ?_
          refine zF_iinc 70 (ls' := [(5, zI ((i : Int) + 1)), (4, zI ((pCnt (zia σ (A 10)) f i) + 0)), (3, zI ((pRoom N h (zia σ (A 10)) f i) + 0)), (0, zR hm), (1, zI h), (2, zI f)]) dX12_gainOf_67 rfl rfl rfl (by decide) rfl ?_
          refine zF_goto 8 dX12_gainOf_70 rfl ?_
          exact zF_locs (ls' := [(5, zI ((i + 1 : Nat) : Int)), (4, zI (pCnt (zia σ (A 10)) f (i + 1))), (3, zI (pRoom N h (zia σ (A 10)) f (i + 1))), (0, zR hm), (1, zI h), (2, zI f)]) ⟨zlI rfl (by first | rfl | omega | (push_cast; omega) | exact congrArg (_ + ·) (zbT (by assumption)) | exact congrArg (_ + ·) (zbF (by assumption)) | exact congrArg (_ + ·) (zbT (by omega)) | exact congrArg (_ + ·) (zbF (by omega)) | exact congrArg (_ + ·) (if_pos (by omega)).symm | exact congrArg (_ + ·) (if_neg (by omega)).symm | exact (if_pos (by omega)).symm | exact (if_neg (by omega)).symm | exact zsub_s (if_pos (by omega)).symm | exact zsub_s0 (if_neg (by omega)).symm | exact zadd0 (if_neg (by omega)).symm | exact zadd0 (zbF (by omega)) | exact (Int.sub_zero _).symm), zlI rfl (by first | rfl | omega | (push_cast; omega) | exact congrArg (_ + ·) (zbT (by assumption)) | exact congrArg (_ + ·) (zbF (by assumption)) | exact congrArg (_ + ·) (zbT (by omega)) | exact congrArg (_ + ·) (zbF (by omega)) | exact congrArg (_ + ·) (if_pos (by omega)).symm | exact congrArg (_ + ·) (if_neg (by omega)).symm | exact (if_pos (by omega)).symm | exact (if_neg (by omega)).symm | exact zsub_s (if_pos (by omega)).symm | exact zsub_s0 (if_neg (by omega)).symm | exact zadd0 (if_neg (by omega)).symm | exact zadd0 (zbF (by omega)) | exact (Int.sub_zero _).symm), zlI rfl (by first | rfl | omega | (push_cast; omega) | exact congrArg (_ + ·) (zbT (by assumption)) | exact congrArg (_ + ·) (zbF (by assumption)) | exact congrArg (_ + ·) (zbT (by omega)) | exact congrArg (_ + ·) (zbF (by omega)) | exact congrArg (_ + ·) (if_pos (by omega)).symm | exact congrArg (_ + ·) (if_neg (by omega)).symm | exact (if_pos (by omega)).symm | exact (if_neg (by omega)).symm | exact zsub_s (if_pos (by omega)).symm | exact zsub_s0 (if_neg (by omega)).symm | exact zadd0 (if_neg (by omega)).symm | exact zadd0 (zbF (by omega)) | exact (Int.sub_zero _).symm), rfl, rfl, rfl, trivial⟩ ih8
        · refine zF_iconst 60 dX12_gainOf_59 rfl ?_
          refine zF_goto 64 dX12_gainOf_60 rfl ?_
          refine zF_iadd 65 dX12_gainOf_64 rfl ?_
          refine zF_istore 67 (ls' := [(4, zI ((pCnt (zia σ (A 10)) f i) + 1)), (3, zI ((pRoom N h (zia σ (A 10)) f i) + 0)), (5, zI (i : Int)), (0, zR hm), (1, zI h), (2, zI f)]) dX12_gainOf_65 rfl (by decide) rfl ?_
          refine zF_iinc 70 (ls' := [(5, zI ((i : Int) + 1)), (4, zI ((pCnt (zia σ (A 10)) f i) + 1)), (3, zI ((pRoom N h (zia σ (A 10)) f i) + 0)), (0, zR hm), (1, zI h), (2, zI f)]) dX12_gainOf_67 rfl rfl rfl (by decide) rfl ?_
          refine zF_goto 8 dX12_gainOf_70 rfl ?_
          exact zF_locs (ls' := [(5, zI ((i + 1 : Nat) : Int)), (4, zI (pCnt (zia σ (A 10)) f (i + 1))), (3, zI (pRoom N h (zia σ (A 10)) f (i + 1))), (0, zR hm), (1, zI h), (2, zI f)]) ⟨zlI rfl (by first | rfl | omega | (push_cast; omega) | exact congrArg (_ + ·) (zbT (by assumption)) | exact congrArg (_ + ·) (zbF (by assumption)) | exact congrArg (_ + ·) (zbT (by omega)) | exact congrArg (_ + ·) (zbF (by omega)) | exact congrArg (_ + ·) (if_pos (by omega)).symm | exact congrArg (_ + ·) (if_neg (by omega)).symm | exact (if_pos (by omega)).symm | exact (if_neg (by omega)).symm | exact zsub_s (if_pos (by omega)).symm | exact zsub_s0 (if_neg (by omega)).symm | exact zadd0 (if_neg (by omega)).symm | exact zadd0 (zbF (by omega)) | exact (Int.sub_zero _).symm), zlI rfl (by first | rfl | omega | (push_cast; omega) | exact congrArg (_ + ·) (zbT (by assumption)) | exact congrArg (_ + ·) (zbF (by assumption)) | exact congrArg (_ + ·) (zbT (by omega)) | exact congrArg (_ + ·) (zbF (by omega)) | exact congrArg (_ + ·) (if_pos (by omega)).symm | exact congrArg (_ + ·) (if_neg (by omega)).symm | exact (if_pos (by omega)).symm | exact (if_neg (by omega)).symm | exact zsub_s (if_pos (by omega)).symm | exact zsub_s0 (if_neg (by omega)).symm | exact zadd0 (if_neg (by omega)).symm | exact zadd0 (zbF (by omega)) | exact (Int.sub_zero _).symm), zlI rfl (by first | rfl | omega | (push_cast; omega) | exact congrArg (_ + ·) (zbT (by assumption)) | exact congrArg (_ + ·) (zbF (by assumption)) | exact congrArg (_ + ·) (zbT (by omega)) | exact congrArg (_ + ·) (zbF (by omega)) | exact congrArg (_ + ·) (if_pos (by omega)).symm | exact congrArg (_ + ·) (if_neg (by omega)).symm | exact (if_pos (by omega)).symm | exact (if_neg (by omega)).symm | exact zsub_s (if_pos (by omega)).symm | exact zsub_s0 (if_neg (by omega)).symm | exact zadd0 (if_neg (by omega)).symm | exact zadd0 (zbF (by omega)) | exact (Int.sub_zero _).symm), rfl, rfl, rfl, trivial⟩ ih8
      · refine zF_aload_n 30 dX12_gainOf_29 rfl rfl ?_
        refine zF_aload_n 31 dX12_gainOf_30 rfl rfl ?_
        refine zF_getR 34 dX12_gainOf_31 rfl gX12_29 hM.1 hM.2.1 (zM_9 hM).1 ?_
        refine zF_iload 36 dX12_gainOf_34 rfl rfl ?_
        refine zF_iaload 37 dX12_gainOf_36 rfl (zM_9 hM).2.2 (zM_9 hM).2.1 (by omega) (by omega) (hro.2 _ (by omega) (by omega)) ?_
        refine zF_callVi 40 (d2 := (d + 5)) (as := [zI (rk N h (i : Int))]) dX12_gainOf_37 rfl kX12_155 iX12_capacityOf (ci := 12) rfl eX12_capacityOf (Nat.le_refl _) hM.1 hM.2.1 rfl rfl (Nat.le_of_ble_eq_true rfl) (zn_X12_capacityOf hM hN (by omega) (by omega)) ?_
        refine zF_goto 44 dX12_gainOf_40 rfl ?_
        refine zF_iadd 45 dX12_gainOf_44 rfl ?_
        refine zF_istore_n 46 (ls' := [(3, zI ((pRoom N h (zia σ (A 10)) f i) + (mCap N (rk N h (i : Int))))), (5, zI (i : Int)), (4, zI (pCnt (zia σ (A 10)) f i)), (0, zR hm), (1, zI h), (2, zI f)]) dX12_gainOf_45 rfl (by decide) rfl ?_
        refine zF_iload 48 dX12_gainOf_46 rfl rfl ?_
        refine zF_aload_n 49 dX12_gainOf_48 rfl rfl ?_
        refine zF_getR 52 dX12_gainOf_49 rfl gX12_32 hM.1 hM.2.1 (zM_10 hM).1 ?_
        refine zF_iload 54 dX12_gainOf_52 rfl rfl ?_
        refine zF_iaload 55 dX12_gainOf_54 rfl (zM_10 hM).2.2 (zM_10 hM).2.1 (by omega) (by omega) rfl ?_
        refine zF_iload_n 56 dX12_gainOf_55 rfl rfl ?_
        refine zF_icmp_ne 63 59 dX12_gainOf_56 rfl rfl (by first | decide | assumption | exact hb _ | exact mSh_rg hb _ _ | exact zb_rg _ | (constructor <;> omega)) (by first | decide | assumption | exact hb _ | exact mSh_rg hb _ _ | exact zb_rg _ | (constructor <;> omega)) (fun c4 => ?_) (fun c4 => ?_)
        · refine zF_iconst 64 dX12_gainOf_63 rfl ?_
          refine zF_iadd 65 dX12_gainOf_64 rfl ?_
          refine zF_istore 67 (ls' := [(4, zI ((pCnt (zia σ (A 10)) f i) + 0)), (3, zI ((pRoom N h (zia σ (A 10)) f i) + (mCap N (rk N h (i : Int))))), (5, zI (i : Int)), (0, zR hm), (1, zI h), (2, zI f)]) dX12_gainOf_65 rfl (by decide) rfl ?_
          refine zF_iinc 70 (ls' := [(5, zI ((i : Int) + 1)), (4, zI ((pCnt (zia σ (A 10)) f i) + 0)), (3, zI ((pRoom N h (zia σ (A 10)) f i) + (mCap N (rk N h (i : Int))))), (0, zR hm), (1, zI h), (2, zI f)]) dX12_gainOf_67 rfl rfl rfl (by decide) rfl ?_
          refine zF_goto 8 dX12_gainOf_70 rfl ?_
          exact zF_locs (ls' := [(5, zI ((i + 1 : Nat) : Int)), (4, zI (pCnt (zia σ (A 10)) f (i + 1))), (3, zI (pRoom N h (zia σ (A 10)) f (i + 1))), (0, zR hm), (1, zI h), (2, zI f)]) ⟨zlI rfl (by first | rfl | omega | (push_cast; omega) | exact congrArg (_ + ·) (zbT (by assumption)) | exact congrArg (_ + ·) (zbF (by assumption)) | exact congrArg (_ + ·) (zbT (by omega)) | exact congrArg (_ + ·) (zbF (by omega)) | exact congrArg (_ + ·) (if_pos (by omega)).symm | exact congrArg (_ + ·) (if_neg (by omega)).symm | exact (if_pos (by omega)).symm | exact (if_neg (by omega)).symm | exact zsub_s (if_pos (by omega)).symm | exact zsub_s0 (if_neg (by omega)).symm | exact zadd0 (if_neg (by omega)).symm | exact zadd0 (zbF (by omega)) | exact (Int.sub_zero _).symm), zlI rfl (by first | rfl | omega | (push_cast; omega) | exact congrArg (_ + ·) (zbT (by assumption)) | exact congrArg (_ + ·) (zbF (by assumption)) | exact congrArg (_ + ·) (zbT (by omega)) | exact congrArg (_ + ·) (zbF (by omega)) | exact congrArg (_ + ·) (if_pos (by omega)).symm | exact congrArg (_ + ·) (if_neg (by omega)).symm | exact (if_pos (by omega)).symm | exact (if_neg (by omega)).symm | exact zsub_s (if_pos (by omega)).symm | exact zsub_s0 (if_neg (by omega)).symm | exact zadd0 (if_neg (by omega)).symm | exact zadd0 (zbF (by omega)) | exact (Int.sub_zero _).symm), zlI rfl (by first | rfl | omega | (push_cast; omega) | exact congrArg (_ + ·) (zbT (by assumption)) | exact congrArg (_ + ·) (zbF (by assumption)) | exact congrArg (_ + ·) (zbT (by omega)) | exact congrArg (_ + ·) (zbF (by omega)) | exact congrArg (_ + ·) (if_pos (by omega)).symm | exact congrArg (_ + ·) (if_neg (by omega)).symm | exact (if_pos (by omega)).symm | exact (if_neg (by omega)).symm | exact zsub_s (if_pos (by omega)).symm | exact zsub_s0 (if_neg (by omega)).symm | exact zadd0 (if_neg (by omega)).symm | exact zadd0 (zbF (by omega)) | exact (Int.sub_zero _).symm), rfl, rfl, rfl, trivial⟩ ih8
        · refine zF_iconst 60 dX12_gainOf_59 rfl ?_
          refine zF_goto 64 dX12_gainOf_60 rfl ?_
          refine zF_iadd 65 dX12_gainOf_64 rfl ?_
          refine zF_istore 67 (ls' := [(4, zI ((pCnt (zia σ (A 10)) f i) + 1)), (3, zI ((pRoom N h (zia σ (A 10)) f i) + (mCap N (rk N h (i : Int))))), (5, zI (i : Int)), (0, zR hm), (1, zI h), (2, zI f)]) dX12_gainOf_65 rfl (by decide) rfl ?_
          refine zF_iinc 70 (ls' := [(5, zI ((i : Int) + 1)), (4, zI ((pCnt (zia σ (A 10)) f i) + 1)), (3, zI ((pRoom N h (zia σ (A 10)) f i) + (mCap N (rk N h (i : Int))))), (0, zR hm), (1, zI h), (2, zI f)]) dX12_gainOf_67 rfl rfl rfl (by decide) rfl ?_
          refine zF_goto 8 dX12_gainOf_70 rfl ?_
          exact zF_locs (ls' := [(5, zI ((i + 1 : Nat) : Int)), (4, zI (pCnt (zia σ (A 10)) f (i + 1))), (3, zI (pRoom N h (zia σ (A 10)) f (i + 1))), (0, zR hm), (1, zI h), (2, zI f)]) ⟨zlI rfl (by first | rfl | omega | (push_cast; omega) | exact congrArg (_ + ·) (zbT (by assumption)) | exact congrArg (_ + ·) (zbF (by assumption)) | exact congrArg (_ + ·) (zbT (by omega)) | exact congrArg (_ + ·) (zbF (by omega)) | exact congrArg (_ + ·) (if_pos (by omega)).symm | exact congrArg (_ + ·) (if_neg (by omega)).symm | exact (if_pos (by omega)).symm | exact (if_neg (by omega)).symm | exact zsub_s (if_pos (by omega)).symm | exact zsub_s0 (if_neg (by omega)).symm | exact zadd0 (if_neg (by omega)).symm | exact zadd0 (zbF (by omega)) | exact (Int.sub_zero _).symm), zlI rfl (by first | rfl | omega | (push_cast; omega) | exact congrArg (_ + ·) (zbT (by assumption)) | exact congrArg (_ + ·) (zbF (by assumption)) | exact congrArg (_ + ·) (zbT (by omega)) | exact congrArg (_ + ·) (zbF (by omega)) | exact congrArg (_ + ·) (if_pos (by omega)).symm | exact congrArg (_ + ·) (if_neg (by omega)).symm | exact (if_pos (by omega)).symm | exact (if_neg (by omega)).symm | exact zsub_s (if_pos (by omega)).symm | exact zsub_s0 (if_neg (by omega)).symm | exact zadd0 (if_neg (by omega)).symm | exact zadd0 (zbF (by omega)) | exact (Int.sub_zero _).symm), zlI rfl (by first | rfl | omega | (push_cast; omega) | exact congrArg (_ + ·) (zbT (by assumption)) | exact congrArg (_ + ·) (zbF (by assumption)) | exact congrArg (_ + ·) (zbT (by omega)) | exact congrArg (_ + ·) (zbF (by omega)) | exact congrArg (_ + ·) (if_pos (by omega)).symm | exact congrArg (_ + ·) (if_neg (by omega)).symm | exact (if_pos (by omega)).symm | exact (if_neg (by omega)).symm | exact zsub_s (if_pos (by omega)).symm | exact zsub_s0 (if_neg (by omega)).symm | exact zadd0 (if_neg (by omega)).symm | exact zadd0 (zbF (by omega)) | exact (Int.sub_zero _).symm), rfl, rfl, rfl, trivial⟩ ih8
  · show zF G mX12_gainOf (d + 6) 8 [(5, zI (((nn N h) : Nat) : Int)), (4, zI (pCnt (zia σ (A 10)) f (nn N h))), (3, zI (pRoom N h (zia σ (A 10)) f (nn N h))), (0, zR hm), (1, zI h), (2, zI f)] [] σ _
    refine zF_iload 10 dX12_gainOf_8 rfl rfl ?_
    refine zF_aload_n 11 dX12_gainOf_10 rfl rfl ?_
    refine zF_getI 14 dX12_gainOf_11 rfl gX12_199 (by decide) (by decide) hM.1 hM.2.1 hro.1 ?_
    refine zF_icmp_ge 73 17 dX12_gainOf_14 rfl rfl (by first | decide | assumption | exact hb _ | exact mSh_rg hb _ _ | exact zb_rg _ | (constructor <;> omega)) (by first | decide | assumption | exact hb _ | exact mSh_rg hb _ _ | exact zb_rg _ | (constructor <;> omega)) (fun c5 => ?_) (fun c5 => ?_)
    · refine zF_iload 75 dX12_gainOf_73 rfl rfl ?_
      refine zF_aload_n 76 dX12_gainOf_75 rfl rfl ?_
      refine zF_iload_n 77 dX12_gainOf_76 rfl rfl ?_
      refine zF_iload_n 78 dX12_gainOf_77 rfl rfl ?_
      refine zF_callVi 81 (d2 := (d + 5)) (as := [zI f, zI h]) dX12_gainOf_78 rfl kX12_202 iX12_printsOf (ci := 12) rfl eX12_printsOf (Nat.le_refl _) hM.1 hM.2.1 rfl rfl (Nat.le_of_ble_eq_true rfl) (zn_X12_printsOf hM hN (by omega) (by omega)) ?_
      have qp := hV.p f h f0 (by omega) (by omega) (by omega)
      refine zF_icmp_le 86 84 dX12_gainOf_81 rfl rfl (by first | decide | assumption | exact hb _ | exact mSh_rg hb _ _ | exact zb_rg _ | (constructor <;> omega)) (by first | decide | assumption | exact hb _ | exact mSh_rg hb _ _ | exact zb_rg _ | (constructor <;> omega)) (fun c6 => ?_) (fun c6 => ?_)
      · refine zF_bipush 88 dX12_gainOf_86 rfl (by decide) ?_
        refine zF_aload_n 89 dX12_gainOf_88 rfl rfl ?_
        refine zF_iload_n 90 dX12_gainOf_89 rfl rfl ?_
        refine zF_callVi 93 (d2 := (d + 5)) (as := [zI f]) dX12_gainOf_90 rfl kX12_158 iX12_demandOf (ci := 12) rfl eX12_demandOf (Nat.le_refl _) hM.1 hM.2.1 rfl rfl (Nat.le_of_ble_eq_true rfl) (zn_X12_demandOf hM hN hV (by omega) (by omega)) ?_
        refine zF_iload_n 94 dX12_gainOf_93 rfl rfl ?_
        refine zF_min 97 dX12_gainOf_94 rfl kX12_164 (Nat.le_refl _) (by first | decide | assumption | exact hb _ | exact mSh_rg hb _ _ | exact zb_rg _ | (constructor <;> omega)) (by first | decide | assumption | exact hb _ | exact mSh_rg hb _ _ | exact zb_rg _ | (constructor <;> omega)) (Nat.le_of_ble_eq_true rfl) ?_
        refine zF_imul 98 dX12_gainOf_97 rfl ?_
        refine zF_aload_n 99 dX12_gainOf_98 rfl rfl ?_
        refine zF_iload_n 100 dX12_gainOf_99 rfl rfl ?_
        refine zF_iconst 101 dX12_gainOf_100 rfl ?_
        refine zF_callVi 104 (d2 := (d + 5)) (as := [zI h, zI 0]) dX12_gainOf_101 rfl kX12_122 iX12_ofHouse (ci := 12) rfl eX12_ofHouse (Nat.le_refl _) hM.1 hM.2.1 rfl rfl (Nat.le_of_ble_eq_true rfl) (zn_X12_ofHouse hM hN (by omega) (by omega)) ?_
        refine zF_imul 105 dX12_gainOf_104 rfl ?_
        refine zF_istore 107 (ls' := [(5, zI ((7 * (min (mDem N f) (pRoom N h (zia σ (A 10)) f (nn N h)))) * (mH N h 0))), (4, zI (pCnt (zia σ (A 10)) f (nn N h))), (3, zI (pRoom N h (zia σ (A 10)) f (nn N h))), (0, zR hm), (1, zI h), (2, zI f)]) dX12_gainOf_105 rfl (by decide) rfl ?_
        refine zF_iload 109 dX12_gainOf_107 rfl rfl ?_
        refine zF_if_ne 116 112 dX12_gainOf_109 rfl rfl (by first | decide | assumption | exact hb _ | exact mSh_rg hb _ _ | exact zb_rg _ | (constructor <;> omega)) (fun c7 => ?_) (fun c7 => ?_)
        · refine zF_iload 118 dX12_gainOf_116 rfl rfl ?_
          refine zF_aload_n 119 dX12_gainOf_118 rfl rfl ?_
          refine zF_iload_n 120 dX12_gainOf_119 rfl rfl ?_
          refine zF_iload_n 121 dX12_gainOf_120 rfl rfl ?_
          refine zF_iload 123 dX12_gainOf_121 rfl rfl ?_
          refine zF_callVi 126 (d2 := (d + 5)) (as := [zI h, zI f, zI ((7 * (min (mDem N f) (pRoom N h (zia σ (A 10)) f (nn N h)))) * (mH N h 0))]) dX12_gainOf_123 rfl kX12_190 iX12_shareBy (ci := 12) rfl eX12_shareBy (Nat.le_refl _) hM.1 hM.2.1 rfl rfl (Nat.le_of_ble_eq_true rfl) (zn_X12_shareBy hM hN hV (by omega) (by omega) (by omega) (by omega) (by omega) (by omega)) ?_
          refine zF_isub 127 dX12_gainOf_126 rfl ?_
          exact zF_iretP dX12_gainOf_127 rfl (by unfold pG1; dsimp only; first | (rw [if_pos (by omega)]; done) | (rw [if_neg (by omega), if_pos (by omega)]; done) | (rw [if_neg (by omega), if_neg (by omega)]; first | done | rfl))
        · refine zF_iconst 113 dX12_gainOf_112 rfl ?_
          refine zF_goto 127 dX12_gainOf_113 rfl ?_
          exact zF_iretP dX12_gainOf_127 rfl (by unfold pG1; dsimp only; first | (rw [if_pos (by omega)]; done) | (rw [if_neg (by omega), if_pos (by omega)]; done) | (rw [if_neg (by omega), if_neg (by omega)]; first | done | rfl))
      · refine zF_iconst 85 dX12_gainOf_84 rfl ?_
        exact zF_iretP dX12_gainOf_85 rfl (by unfold pG1; dsimp only; first | (rw [if_pos (by omega)]; done) | (rw [if_neg (by omega), if_pos (by omega)]; done) | (rw [if_neg (by omega), if_neg (by omega)]; first | done | rfl))
    · exact absurd c5 (by omega)
theorem zt_X12_triedGain {h : Int} {t : Int → Int} (hM : zMo σ hm A) (hN : zia σ (A 0) = N) (hV : mV N) (hQ : mC4 N) (hro : mRo N h σ hm A) (et : zia σ (A 10) = t) (htv : pVc (N 2) (ch0 N h) (nn N h) t) (h0 : 0 ≤ h) (h1 : h < N 0) : zP1 G mX12_triedGain (d + 7) [zR hm, zI h] σ (pG N h (fun f => mP N f h) t) := by
  refine zE_of rfl (by simp [zcat]) (Nat.le_of_ble_eq_true rfl) ?_
  show zF G mX12_triedGain (d + 7) 0 [(0, zR hm), (1, zI h)] [] σ _
  have hb := hV.b
  have hn := hV.n
  have hnn := nn_eq hQ h
  have hf := nF_eq hV
  refine zF_iconst 1 dX12_triedGain_0 rfl ?_
  refine zF_istore_n 2 (ls' := [(2, zI 0), (0, zR hm), (1, zI h)]) dX12_triedGain_1 rfl (by decide) rfl ?_
  refine zF_iconst 3 dX12_triedGain_2 rfl ?_
  refine zF_istore_n 4 (ls' := [(3, zI 0), (2, zI 0), (0, zR hm), (1, zI h)]) dX12_triedGain_3 rfl (by decide) rfl ?_
  refine zF_locs (ls' := [(3, zI ((0 : Nat) : Int)), (2, zI (pGN N h (fun f => mP N f h) t 0)), (0, zR hm), (1, zI h)]) ⟨zlI rfl (by first | rfl | omega | (push_cast; omega) | exact pGN_s (by assumption) (by omega)), zlI rfl (by first | rfl | omega | (push_cast; omega) | exact pGN_s (by assumption) (by omega)), rfl, rfl, trivial⟩ ?_
  refine zF_while (X := Nat) (fun x => nF N - x) (fun x σ2 => x ≤ nF N ∧ σ2 = σ ∧ pGN N h (fun f => mP N f h) t x ≠ -1) (fun x => [(3, zI ((x : Nat) : Int)), (2, zI (pGN N h (fun f => mP N f h) t x)), (0, zR hm), (1, zI h)]) ?_ 0 σ (⟨by omega, rfl, by show (0 : Int) ≠ -1; decide⟩)
  intro x σ2 hI4 ih4
  show zF G mX12_triedGain (d + 7) 4 [(3, zI ((x : Nat) : Int)), (2, zI (pGN N h (fun f => mP N f h) t x)), (0, zR hm), (1, zI h)] [] σ2 _
  obtain ⟨hx, e2, hg1⟩ := hI4
  subst e2
  refine zF_iload_n 5 dX12_triedGain_4 rfl rfl ?_
  refine zF_aload_n 6 dX12_triedGain_5 rfl rfl ?_
  refine zF_callVi 9 (d2 := (d + 6)) (as := []) dX12_triedGain_6 rfl kX12_116 iX12_films (ci := 12) rfl eX12_films (Nat.le_refl _) hM.1 hM.2.1 rfl rfl (Nat.le_of_ble_eq_true rfl) (zn_X12_films hM hN) ?_
  refine zF_icmp_ge 39 12 dX12_triedGain_9 rfl rfl (by first | decide | assumption | exact hb _ | exact mSh_rg hb _ _ | exact zb_rg _ | (constructor <;> omega)) (by first | decide | assumption | exact hb _ | exact mSh_rg hb _ _ | exact zb_rg _ | (constructor <;> omega)) (fun c1 => ?_) (fun c1 => ?_)
  · refine zF_iload_n 40 dX12_triedGain_39 rfl rfl ?_
    exact zF_iretP dX12_triedGain_40 rfl (by have ex : x = nF N := (by omega); subst ex; rfl)
  · refine zF_aload_n 13 dX12_triedGain_12 rfl rfl ?_
    refine zF_iload_n 14 dX12_triedGain_13 rfl rfl ?_
    refine zF_iload_n 15 dX12_triedGain_14 rfl rfl ?_
    refine zF_callVi 18 (d2 := (d + 6)) (as := [zI h, zI ((x : Nat) : Int)]) dX12_triedGain_15 rfl kX12_205 iX12_gainOf (ci := 12) rfl eX12_gainOf (Nat.le_refl _) hM.1 hM.2.1 rfl rfl (Nat.le_of_ble_eq_true rfl) ((zt_X12_gainOf hM hN hV hQ hro (by rw [et]; exact htv) h0 h1 (by omega) (by omega)).eq (by rw [et])) ?_
    refine zF_istore 20 (ls' := [(4, zI (pG1 N h (fun f => mP N f h) t ((x : Nat) : Int))), (3, zI ((x : Nat) : Int)), (2, zI (pGN N h (fun f => mP N f h) t x)), (0, zR hm), (1, zI h)]) dX12_triedGain_18 rfl (by decide) rfl ?_
    refine zF_iload 22 dX12_triedGain_20 rfl rfl ?_
    refine zF_iconst 23 dX12_triedGain_22 rfl ?_
    have qg := pG1_p hV hQ h0 (by omega) (fun f => mP N f h) t (f := (x : Int)) (by omega) (by omega)
    refine zF_icmp_ne 28 26 dX12_triedGain_23 rfl rfl (by first | decide | assumption | exact hb _ | exact mSh_rg hb _ _ | exact zb_rg _ | (constructor <;> omega)) (by first | decide | assumption | exact hb _ | exact mSh_rg hb _ _ | exact zb_rg _ | (constructor <;> omega)) (fun c2 => ?_) (fun c2 => ?_)
    · refine zF_iload_n 29 dX12_triedGain_28 rfl rfl ?_
      refine zF_iload 31 dX12_triedGain_29 rfl rfl ?_
      refine zF_iadd 32 dX12_triedGain_31 rfl ?_
      refine zF_istore_n 33 (ls' := [(2, zI ((pGN N h (fun f => mP N f h) t x) + (pG1 N h (fun f => mP N f h) t ((x : Nat) : Int)))), (4, zI (pG1 N h (fun f => mP N f h) t ((x : Nat) : Int))), (3, zI ((x : Nat) : Int)), (0, zR hm), (1, zI h)]) dX12_triedGain_32 rfl (by decide) rfl ?_
      refine zF_iinc 36 (ls' := [(3, zI (((x : Nat) : Int) + 1)), (2, zI ((pGN N h (fun f => mP N f h) t x) + (pG1 N h (fun f => mP N f h) t ((x : Nat) : Int)))), (4, zI (pG1 N h (fun f => mP N f h) t ((x : Nat) : Int))), (0, zR hm), (1, zI h)]) dX12_triedGain_33 rfl rfl rfl (by decide) rfl ?_
      refine zF_goto 4 dX12_triedGain_36 rfl ?_
      exact zF_locs (ls' := [(3, zI (((x + 1) : Nat) : Int)), (2, zI (pGN N h (fun f => mP N f h) t (x + 1))), (0, zR hm), (1, zI h)]) ⟨zlI rfl (by first | rfl | omega | (push_cast; omega) | exact pGN_s (by assumption) (by omega)), zlI rfl (by first | rfl | omega | (push_cast; omega) | exact pGN_s (by assumption) (by omega)), rfl, rfl, trivial⟩ (ih4 (x + 1) _ (by omega) (⟨by omega, rfl, by rw [← pGN_s hg1 (by omega)]; have := pGN_b hV hQ h0 (by omega) (fun f => mP N f h) t hx; omega⟩))
    · refine zF_iconst 27 dX12_triedGain_26 rfl ?_
      exact zF_iretP dX12_triedGain_27 rfl ((pGN_no1 (m := x) (by omega) (by omega)).symm)
theorem zt_X12_nextTried {h : Int} (hM : zMo σ hm A) (hN : zia σ (A 0) = N) (hV : mV N) (hQ : mC4 N) (hro : mRo N h σ hm A) (htv : pVc (N 2) (ch0 N h) (nn N h) (zia σ (A 10))) : zE G mX12_nextTried (d + 4) [zR hm] σ (fun ro σ1 => ∃ b, ro = .inl (some (zI b)) ∧ zFr (fun y _ => y = A 10) σ σ1 ∧ pNx N h (zia σ (A 10)) (zia σ1 (A 10)) b) := by
  refine zE_of rfl (by simp [zcat]) (Nat.le_of_ble_eq_true rfl) ?_
  show zF G mX12_nextTried (d + 4) 0 [(0, zR hm)] [] σ _
  have hb := hV.b
  have hn := hV.n
  have hnn := nn_eq hQ h
  refine zF_aload_n 1 dX12_nextTried_0 rfl rfl ?_
  refine zF_getI 4 dX12_nextTried_1 rfl gX12_199 (by decide) (by decide) hM.1 hM.2.1 hro.1 ?_
  refine zF_iconst 5 dX12_nextTried_4 rfl ?_
  refine zF_isub 6 dX12_nextTried_5 rfl ?_
  refine zF_istore_n 7 (ls' := [(1, zI (((nn N h : Nat) : Int) - 1)), (0, zR hm)]) dX12_nextTried_6 rfl (by decide) rfl ?_
  refine zF_locs (ls' := [(1, zI ((((nn N h) : Nat) : Int) - 1)), (0, zR hm)]) ⟨zlI rfl (by first | rfl | omega | (push_cast; omega) | exact congrArg (_ + ·) (zbT (by assumption)) | exact congrArg (_ + ·) (zbF (by assumption)) | exact congrArg (_ + ·) (zbT (by omega)) | exact congrArg (_ + ·) (zbF (by omega)) | exact congrArg (_ + ·) (if_pos (by omega)).symm | exact congrArg (_ + ·) (if_neg (by omega)).symm | exact (if_pos (by omega)).symm | exact (if_neg (by omega)).symm | exact zsub_s (if_pos (by omega)).symm | exact zsub_s0 (if_neg (by omega)).symm | exact zadd0 (if_neg (by omega)).symm | exact zadd0 (zbF (by omega)) | exact (Int.sub_zero _).symm), rfl, trivial⟩ ?_
  refine zF_while (X := Nat) (fun x => x) (fun x σ2 => x ≤ nn N h ∧ zFr (fun y _ => y = A 10) σ σ2 ∧ pDn N h (zia σ (A 10)) (zia σ2 (A 10)) x) (fun x => [(1, zI (((x : Nat) : Int) - 1)), (0, zR hm)]) ?_ (nn N h) σ (⟨Nat.le_refl _, zFr.rf, fun j hj => rfl, fun j h1 h2 => by omega⟩)
  intro x σ2 hI7 ih7
  show zF G mX12_nextTried (d + 4) 7 [(1, zI (((x : Nat) : Int) - 1)), (0, zR hm)] [] σ2 _
  obtain ⟨hx, fr2, dn⟩ := hI7
  have hM2 := zMo_fr hM fr2
  have hN2 : zia σ2 (A 0) = N := (fr2.at fun j q => zMo_ne hM (j := 0) (k := 10) (by decide) (by decide) (by decide) q).trans hN
  have hro2 := mRo_fr hro fr2 (fun q => zMo_hm1 hM (k := 10) (by decide) zMo_h1 q.symm) (fun _ q => zMo_ne hM (j := 9) (k := 10) (by decide) (by decide) (by decide) q)
  refine zF_iload_n 8 dX12_nextTried_7 rfl rfl ?_
  refine zF_if_lt 67 11 dX12_nextTried_8 rfl rfl (by first | decide | assumption | exact hb _ | exact mSh_rg hb _ _ | exact zb_rg _ | (constructor <;> omega)) (fun c1 => ?_) (fun c1 => ?_)
  · refine zF_iconst 68 dX12_nextTried_67 rfl ?_
    exact zF_zreturn dX12_nextTried_68 rfl (by decide) (⟨0, rfl, fr2, Or.inr ⟨rfl, pDn_end (by have ex : x = 0 := (by omega); subst ex; exact dn)⟩⟩)
  · obtain ⟨y, hy⟩ : ∃ y : Nat, x = y + 1 := ⟨x - 1, by omega⟩
    have qb := rk_b hV (h := h) (k := (y : Int)) (by omega) (by omega)
    have ey : (((x : Nat) : Int) - 1) = (y : Int) := by omega
    rw [hy] at dn
    refine zF_locs (ls' := [(1, zI ((y : Nat) : Int)), (0, zR hm)]) ⟨zlI rfl ey, rfl, trivial⟩ ?_
    have qch := ch0_b hV (h := h) (k := (y : Int)) (by omega) (by omega)
    have tv := tv_b hV htv (k := (y : Int)) (by omega) (by omega)
    have td := dn.1 y (by omega)
    have tvo := (htv y (by omega)).1
    refine zF_aload_n 12 dX12_nextTried_11 rfl rfl ?_
    refine zF_aload_n 13 dX12_nextTried_12 rfl rfl ?_
    refine zF_getR 16 dX12_nextTried_13 rfl gX12_29 hM2.1 hM2.2.1 (zM_9 hM2).1 ?_
    refine zF_iload_n 17 dX12_nextTried_16 rfl rfl ?_
    refine zF_iaload 18 dX12_nextTried_17 rfl (zM_9 hM2).2.2 (zM_9 hM2).2.1 (by omega) (by omega) (hro2.2 _ (by omega) (by omega)) ?_
    refine zF_callVi 21 (d2 := (d + 3)) (as := [zI (rk N h ((y : Nat) : Int))]) dX12_nextTried_18 rfl kX12_208 iX12_isHeld (ci := 12) rfl eX12_isHeld (Nat.le_refl _) hM2.1 hM2.2.1 rfl rfl (Nat.le_of_ble_eq_true rfl) (zn_X12_isHeld hM2 hN2 hb (by omega) (by omega)) ?_
    refine zF_ifb_eq 27 24 dX12_nextTried_21 rfl rfl (fun c2 => ?_) (fun c2 => ?_)
    · refine zF_aload_n 28 dX12_nextTried_27 rfl rfl ?_
      refine zF_getR 31 dX12_nextTried_28 rfl gX12_32 hM2.1 hM2.2.1 (zM_10 hM2).1 ?_
      refine zF_iload_n 32 dX12_nextTried_31 rfl rfl ?_
      refine zF_iaload 33 dX12_nextTried_32 rfl (zM_10 hM2).2.2 (zM_10 hM2).2.1 (by omega) (by omega) rfl ?_
      refine zF_iconst 34 dX12_nextTried_33 rfl ?_
      refine zF_iadd 35 dX12_nextTried_34 rfl ?_
      refine zF_aload_n 36 dX12_nextTried_35 rfl rfl ?_
      refine zF_callVi 39 (d2 := (d + 3)) (as := []) dX12_nextTried_36 rfl kX12_116 iX12_films (ci := 12) rfl eX12_films (Nat.le_refl _) hM2.1 hM2.2.1 rfl rfl (Nat.le_of_ble_eq_true rfl) (zn_X12_films hM2 hN2) ?_
      refine zF_icmp_ge 54 42 dX12_nextTried_39 rfl rfl (by first | decide | assumption | exact hb _ | exact mSh_rg hb _ _ | exact zb_rg _ | (constructor <;> omega)) (by first | decide | assumption | exact hb _ | exact mSh_rg hb _ _ | exact zb_rg _ | (constructor <;> omega)) (fun c3 => ?_) (fun c3 => ?_)
      · refine zF_aload_n 55 dX12_nextTried_54 rfl rfl ?_
        refine zF_getR 58 dX12_nextTried_55 rfl gX12_32 hM2.1 hM2.2.1 (zM_10 hM2).1 ?_
        refine zF_iload_n 59 dX12_nextTried_58 rfl rfl ?_
        refine zF_iconst 60 dX12_nextTried_59 rfl ?_
        refine zF_iastore 61 dX12_nextTried_60 rfl (zM_10 hM2).2.2 (zM_10 hM2).2.1 (by omega) (by omega) ?_
        refine zF_iinc 64 (ls' := [(1, zI (((y : Nat) : Int) + (-1))), (0, zR hm)]) dX12_nextTried_61 rfl rfl rfl (by decide) rfl ?_
        refine zF_goto 7 dX12_nextTried_64 rfl ?_
        exact zF_locs (ls' := [(1, zI (((y : Nat) : Int) - 1)), (0, zR hm)]) ⟨zlI rfl (by first | rfl | omega | (push_cast; omega) | exact congrArg (_ + ·) (zbT (by assumption)) | exact congrArg (_ + ·) (zbF (by assumption)) | exact congrArg (_ + ·) (zbT (by omega)) | exact congrArg (_ + ·) (zbF (by omega)) | exact congrArg (_ + ·) (if_pos (by omega)).symm | exact congrArg (_ + ·) (if_neg (by omega)).symm | exact (if_pos (by omega)).symm | exact (if_neg (by omega)).symm | exact zsub_s (if_pos (by omega)).symm | exact zsub_s0 (if_neg (by omega)).symm | exact zadd0 (if_neg (by omega)).symm | exact zadd0 (zbF (by omega)) | exact (Int.sub_zero _).symm), rfl, trivial⟩ (ih7 y _ (by omega) (⟨by omega, zFr_si rfl fr2, pDn_full dn (by omega) (by omega)⟩))
      · refine zF_aload_n 43 dX12_nextTried_42 rfl rfl ?_
        refine zF_getR 46 dX12_nextTried_43 rfl gX12_32 hM2.1 hM2.2.1 (zM_10 hM2).1 ?_
        refine zF_iload_n 47 dX12_nextTried_46 rfl rfl ?_
        refine zF_dup2 48 dX12_nextTried_47 rfl rfl rfl ?_
        refine zF_iaload 49 dX12_nextTried_48 rfl (zM_10 hM2).2.2 (zM_10 hM2).2.1 (by omega) (by omega) rfl ?_
        refine zF_iconst 50 dX12_nextTried_49 rfl ?_
        refine zF_iadd 51 dX12_nextTried_50 rfl ?_
        refine zF_iastore 52 dX12_nextTried_51 rfl (zM_10 hM2).2.2 (zM_10 hM2).2.1 (by omega) (by omega) ?_
        refine zF_iconst 53 dX12_nextTried_52 rfl ?_
        exact zF_zreturn dX12_nextTried_53 rfl (by decide) (⟨1, rfl, zFr_si rfl fr2, pDn_step (by omega) htv dn (by omega) (by omega)⟩)
    · refine zF_goto 61 dX12_nextTried_24 rfl ?_
      refine zF_iinc 64 (ls' := [(1, zI (((y : Nat) : Int) + (-1))), (0, zR hm)]) dX12_nextTried_61 rfl rfl rfl (by decide) rfl ?_
      refine zF_goto 7 dX12_nextTried_64 rfl ?_
      exact zF_locs (ls' := [(1, zI (((y : Nat) : Int) - 1)), (0, zR hm)]) ⟨zlI rfl (by first | rfl | omega | (push_cast; omega) | exact congrArg (_ + ·) (zbT (by assumption)) | exact congrArg (_ + ·) (zbF (by assumption)) | exact congrArg (_ + ·) (zbT (by omega)) | exact congrArg (_ + ·) (zbF (by omega)) | exact congrArg (_ + ·) (if_pos (by omega)).symm | exact congrArg (_ + ·) (if_neg (by omega)).symm | exact (if_pos (by omega)).symm | exact (if_neg (by omega)).symm | exact zsub_s (if_pos (by omega)).symm | exact zsub_s0 (if_neg (by omega)).symm | exact zadd0 (if_neg (by omega)).symm | exact zadd0 (zbF (by omega)) | exact (Int.sub_zero _).symm), rfl, trivial⟩ (ih7 y _ (by omega) (⟨by omega, fr2, pDn_held dn (by omega)⟩))
theorem lbI_start (hV : mV N) (hM : zMo σ hm A) {h v : Int} (e : ∀ k : Int, 0 ≤ k → k < (nn N h : Int) → zia σ (A 10) k = iT N h k) (ev : v = -1) : lbI N h (zsi σ hm ((13 : Nat) : Int) v) hm A 1 (rW (N 2) (ch0 N h) (nn N h) - rR (N 2) (ch0 N h) (zia (zsi σ hm ((13 : Nat) : Int) v) (A 10)) (nn N h)).toNat := by
  have hn := hV.n
  have e10 : zia (zsi σ hm ((13 : Nat) : Int) v) (A 10) = zia σ (A 10) := zsi_at (zMo_hm1 hM (k := 10) (by decide) zMo_h1) rfl
  obtain ⟨a, b⟩ := iT_v hV e
  refine Or.inl ⟨rfl, rfl, ?_⟩
  rw [e10, zsi_same, ev]
  exact pInv_0 a b (by omega)
theorem zt_X12_layBest {h : Int} (hM : zMo σ hm A) (hN : zia σ (A 0) = N) (hV : mV N) (hQ : mC4 N) (h0 : 0 ≤ h) (h1 : h < N 0) : zE G mX12_layBest (d + 9) [zR hm, zI h] σ (fun ro σ1 => ro = .inl none ∧ zFr (mLb hm A) σ σ1 ∧ mRo N h σ1 hm A ∧ zia σ1 hm ((13 : Nat) : Int) = bG N h (fun f => mP N f h) ∧ (0 ≤ bG N h (fun f => mP N f h) → ∀ k : Nat, k < nn N h → zia σ1 (A 11) k = bF N h (fun f => mP N f h) k) ∧ pMax N h (fun f => mP N f h) (ch0 N h) (bG N h (fun f => mP N f h)) ∧ (0 ≤ bG N h (fun f => mP N f h) → pLx N h (fun f => mP N f h) (ch0 N h) (bF N h (fun f => mP N f h)))) := by
  refine zE_of rfl (by simp [zcat]) (Nat.le_of_ble_eq_true rfl) ?_
  show zF G mX12_layBest (d + 9) 0 [(0, zR hm), (1, zI h)] [] σ _
  have hb := hV.b
  have hn := hV.n
  have hnn := nn_eq hQ h
  refine zF_aload_n 1 dX12_layBest_0 rfl rfl ?_
  refine zF_iload_n 2 dX12_layBest_1 rfl rfl ?_
  refine zF_callV 5 (d2 := (d + 8)) (as := [zI h]) dX12_layBest_2 rfl kX12_211 iX12_layRoster (ci := 12) rfl eX12_layRoster (Nat.le_refl _) hM.1 hM.2.1 rfl rfl (Nat.le_of_ble_eq_true rfl) (zE.mono (zt_X12_layRoster hM hN hV hQ.c (by first | decide | assumption | exact hb _ | exact mSh_rg hb _ _ | exact zb_rg _ | (constructor <;> omega))) fun ro σa1 hh1 => ?_)
  obtain ⟨er1, fr1, p1⟩ := hh1
  subst er1
  refine ⟨fr1.1, ?_⟩
  show zF G mX12_layBest (d + 9) 5 [(0, zR hm), (1, zI h)] [] σa1 _
  have hMa1 := zMo_f2 fr1 hM
  have hNa1 : zia σa1 (A 0) = N := zFr_NR (σ := σ) hM hN fr1
  have hroa1 : mRo N h σa1 hm A := ⟨p1.1.trans hnn.1, fun k a b => p1.2 k a (by omega)⟩
  refine zF_iconst 6 dX12_layBest_5 rfl ?_
  refine zF_istore_n 7 (ls' := [(2, zI 0), (0, zR hm), (1, zI h)]) dX12_layBest_6 rfl (by decide) rfl ?_
  refine zF_locs (ls' := [(2, zI ((0 : Nat) : Int)), (0, zR hm), (1, zI h)]) ⟨zlI rfl (by first | rfl | omega | (push_cast; omega) | exact congrArg (_ + ·) (zbT (by assumption)) | exact congrArg (_ + ·) (zbF (by assumption)) | exact congrArg (_ + ·) (zbT (by omega)) | exact congrArg (_ + ·) (zbF (by omega)) | exact congrArg (_ + ·) (if_pos (by omega)).symm | exact congrArg (_ + ·) (if_neg (by omega)).symm | exact (if_pos (by omega)).symm | exact (if_neg (by omega)).symm | exact zsub_s (if_pos (by omega)).symm | exact zsub_s0 (if_neg (by omega)).symm | exact zadd0 (if_neg (by omega)).symm | exact zadd0 (zbF (by omega)) | exact (Int.sub_zero _).symm), rfl, rfl, trivial⟩ ?_
  refine zF_while (X := Nat) (fun x => nn N h - x) (fun x σ2 => x ≤ nn N h ∧ zFr (mLb hm A) σ σ2 ∧ mRo N h σ2 hm A ∧ ∀ k : Int, 0 ≤ k → k < (x : Int) → zia σ2 (A 10) k = iT N h k) (fun x => [(2, zI ((x : Nat) : Int)), (0, zR hm), (1, zI h)]) ?_ 0 σa1 (⟨by omega, mLb_R fr1, hroa1, fun k a b => by omega⟩)
  intro x σ2 hI7 ih7
  show zF G mX12_layBest (d + 9) 7 [(2, zI ((x : Nat) : Int)), (0, zR hm), (1, zI h)] [] σ2 _
  obtain ⟨hx, frL2, hro2, it2⟩ := hI7
  have hM2 := zMo_fr hM frL2
  have hN2 : zia σ2 (A 0) = N := mLb_N hM hN frL2
  refine zF_iload_n 8 dX12_layBest_7 rfl rfl ?_
  refine zF_aload_n 9 dX12_layBest_8 rfl rfl ?_
  refine zF_getI 12 dX12_layBest_9 rfl gX12_199 (by decide) (by decide) hM2.1 hM2.2.1 hro2.1 ?_
  refine zF_icmp_ge 55 15 dX12_layBest_12 rfl rfl (by first | decide | assumption | exact hb _ | exact mSh_rg hb _ _ | exact zb_rg _ | (constructor <;> omega)) (by first | decide | assumption | exact hb _ | exact mSh_rg hb _ _ | exact zb_rg _ | (constructor <;> omega)) (fun c1 => ?_) (fun c1 => ?_)
  · refine zF_aload_n 56 dX12_layBest_55 rfl rfl ?_
    refine zF_iconst 57 dX12_layBest_56 rfl ?_
    refine zF_putI 60 dX12_layBest_57 rfl pX12_layBest_215 (Or.inl rfl) hM2.1 hM2.2.1 ?_
    refine zF_iconst 61 dX12_layBest_60 rfl ?_
    refine zF_istore_n 62 (ls' := [(2, zI 1), (0, zR hm), (1, zI h)]) dX12_layBest_61 rfl (by decide) rfl ?_
    refine zF_locs (ls' := [(2, zI 1), (0, zR hm), (1, zI h)]) ⟨rfl, rfl, rfl, trivial⟩ ?_
    refine zF_while (X := Int × Nat) (fun x => x.2) (fun x σ3 => zFr (mLb hm A) σ σ3 ∧ mRo N h σ3 hm A ∧ lbI N h σ3 hm A x.1 x.2) (fun x => [(2, zI x.1), (0, zR hm), (1, zI h)]) ?_ (1, (rW (N 2) (ch0 N h) (nn N h) - rR (N 2) (ch0 N h) (zia (zsi σ2 hm ((13 : Nat) : Int) (-1)) (A 10)) (nn N h)).toNat) (zsi σ2 hm ((13 : Nat) : Int) (-1)) (⟨mLb_13 frL2, mRo_13 hM2 hro2, lbI_start hV hM2 (fun k a b => it2 k a (by omega)) rfl⟩)
    intro ⟨b, m⟩ σ3 hI62 ih62
    show zF G mX12_layBest (d + 9) 62 [(2, zI b), (0, zR hm), (1, zI h)] [] σ3 _
    obtain ⟨frL3, hro3, li3⟩ := hI62
    dsimp only at li3
    have qb := lbI_b li3
    have hM3 := zMo_fr hM frL3
    have hN3 : zia σ3 (A 0) = N := mLb_N hM hN frL3
    refine zF_iload_n 63 dX12_layBest_62 rfl rfl ?_
    refine zF_if_eq 125 66 dX12_layBest_63 rfl rfl (by first | decide | assumption | exact hb _ | exact mSh_rg hb _ _ | exact zb_rg _ | (constructor <;> omega)) (fun c2 => ?_) (fun c2 => ?_)
    · exact zF_return dX12_layBest_125 rfl ((by obtain ⟨a, c⟩ := lbI_0 li3 (by omega); have e := bG_eq a; exact ⟨rfl, frL3, hro3, e, fun hp => bF_eq (by omega) (c (by omega)), e ▸ a, fun hp => bF_sp (c (by omega))⟩))
    · have qi := pInv_b hV hQ h0 (by omega) (lbI_1 li3 (by assumption)).2
      have qg := pG_b hV hQ h0 (by omega) (fun f => mP N f h) (zia σ3 (A 10))
      refine zF_aload_n 67 dX12_layBest_66 rfl rfl ?_
      refine zF_iload_n 68 dX12_layBest_67 rfl rfl ?_
      refine zF_callVi 71 (d2 := (d + 8)) (as := [zI h]) dX12_layBest_68 rfl kX12_218 iX12_triedGain (ci := 12) rfl eX12_triedGain (Nat.le_refl _) hM3.1 hM3.2.1 rfl rfl (Nat.le_of_ble_eq_true rfl) (zt_X12_triedGain hM3 hN3 hV hQ hro3 rfl (lbI_1 li3 (by assumption)).2.1 h0 h1) ?_
      refine zF_istore_n 72 (ls' := [(3, zI (pG N h (fun f => mP N f h) (zia σ3 (A 10)))), (2, zI b), (0, zR hm), (1, zI h)]) dX12_layBest_71 rfl (by decide) rfl ?_
      refine zF_iload_n 73 dX12_layBest_72 rfl rfl ?_
      refine zF_aload_n 74 dX12_layBest_73 rfl rfl ?_
      refine zF_getI 77 dX12_layBest_74 rfl gX12_215 (by decide) (by decide) hM3.1 hM3.2.1 rfl ?_
      refine zF_icmp_le 117 80 dX12_layBest_77 rfl rfl (by first | decide | assumption | exact hb _ | exact mSh_rg hb _ _ | exact zb_rg _ | (constructor <;> omega)) (by first | decide | assumption | exact hb _ | exact mSh_rg hb _ _ | exact zb_rg _ | (constructor <;> omega)) (fun c3 => ?_) (fun c3 => ?_)
      · refine zF_aload_n 118 dX12_layBest_117 rfl rfl ?_
        refine zF_callV 121 (d2 := (d + 8)) (as := []) dX12_layBest_118 rfl kX12_221 iX12_nextTried (ci := 12) rfl eX12_nextTried (Nat.le_refl _) hM3.1 hM3.2.1 rfl rfl (Nat.le_of_ble_eq_true rfl) (zE.mono (zt_X12_nextTried hM3 hN3 hV hQ hro3 (lbI_1 li3 (by assumption)).2.1) fun ro σn2 hh2 => ?_)
        obtain ⟨b2, er2, fr2, px2⟩ := hh2
        subst er2
        refine ⟨fr2.1, ?_⟩
        have hMn2 := zMo_fr hM3 fr2
        have hNn2 : zia σn2 (A 0) = N := (fr2.at fun j q => zMo_ne hM (j := 0) (k := 10) (by decide) (by decide) (by decide) q).trans hN3
        have hron2 := mRo_fr hro3 fr2 (fun q => zMo_hm1 hM (k := 10) (by decide) zMo_h1 q.symm) (fun _ q => zMo_ne hM (j := 9) (k := 10) (by decide) (by decide) (by decide) q)
        have e13n : zia σn2 hm ((13 : Nat) : Int) = zia σ3 hm ((13 : Nat) : Int) := fr2.2.2.2.2.2 hm _ (fun q => zMo_hm1 hM (k := 10) (by decide) zMo_h1 q.symm)
        have e11n : zia σn2 (A 11) = zia σ3 (A 11) := fr2.at fun j q => zMo_ne hM (j := 11) (k := 10) (by decide) (by decide) (by decide) q
        have frL2 : zFr (mLb hm A) σ σn2 := frL3.tr (fr2.wk fun _ _ q => Or.inr (Or.inr (Or.inl q)))
        refine zF_istore_n 122 (ls' := [(2, zI b2), (3, zI (pG N h (fun f => mP N f h) (zia σ3 (A 10)))), (0, zR hm), (1, zI h)]) dX12_layBest_121 rfl (by decide) rfl ?_
        obtain ⟨m2, hm2, hl2⟩ := lbI_next hV hQ h0 (by omega) (pInv_less (by omega) (lbI_1 li3 (by assumption)).2 (by omega)) e13n (fun k _ => congrFun e11n k) px2
        have hmm := (lbI_1 li3 (by assumption)).1
        refine zF_goto 62 dX12_layBest_122 rfl ?_
        exact zF_locs (ls' := [(2, zI b2), (0, zR hm), (1, zI h)]) ⟨rfl, rfl, rfl, trivial⟩ (ih62 (b2, m2) _ (by show m2 < m; omega) (⟨frL2, hron2, hl2⟩))
      · refine zF_aload_n 81 dX12_layBest_80 rfl rfl ?_
        refine zF_iload_n 82 dX12_layBest_81 rfl rfl ?_
        refine zF_putI 85 dX12_layBest_82 rfl pX12_layBest_215 (Or.inl rfl) hM3.1 hM3.2.1 ?_
        refine zF_iconst 86 dX12_layBest_85 rfl ?_
        refine zF_istore 88 (ls' := [(4, zI 0), (3, zI (pG N h (fun f => mP N f h) (zia σ3 (A 10)))), (2, zI b), (0, zR hm), (1, zI h)]) dX12_layBest_86 rfl (by decide) rfl ?_
        refine zF_locs (ls' := [(4, zI ((0 : Nat) : Int)), (3, zI (pG N h (fun f => mP N f h) (zia σ3 (A 10)))), (2, zI b), (0, zR hm), (1, zI h)]) ⟨zlI rfl (by first | rfl | omega | (push_cast; omega) | exact congrArg (_ + ·) (zbT (by assumption)) | exact congrArg (_ + ·) (zbF (by assumption)) | exact congrArg (_ + ·) (zbT (by omega)) | exact congrArg (_ + ·) (zbF (by omega)) | exact congrArg (_ + ·) (if_pos (by omega)).symm | exact congrArg (_ + ·) (if_neg (by omega)).symm | exact (if_pos (by omega)).symm | exact (if_neg (by omega)).symm | exact zsub_s (if_pos (by omega)).symm | exact zsub_s0 (if_neg (by omega)).symm | exact zadd0 (if_neg (by omega)).symm | exact zadd0 (zbF (by omega)) | exact (Int.sub_zero _).symm), rfl, rfl, rfl, rfl, trivial⟩ ?_
        refine zF_while (X := Nat) (fun x => nn N h - x) (fun x σ5 => x ≤ nn N h ∧ zFr (fun y _ => y = A 11) (zsi σ3 hm ((13 : Nat) : Int) (pG N h (fun f => mP N f h) (zia σ3 (A 10)))) σ5 ∧ ∀ k : Nat, k < x → zia σ5 (A 11) k = zia σ3 (A 10) k) (fun x => [(4, zI ((x : Nat) : Int)), (3, zI (pG N h (fun f => mP N f h) (zia σ3 (A 10)))), (2, zI b), (0, zR hm), (1, zI h)]) ?_ 0 (zsi σ3 hm ((13 : Nat) : Int) (pG N h (fun f => mP N f h) (zia σ3 (A 10)))) (⟨by omega, zFr.rf, fun k hk => by omega⟩)
        intro y σ5 hI88 ih88
        show zF G mX12_layBest (d + 9) 88 [(4, zI ((y : Nat) : Int)), (3, zI (pG N h (fun f => mP N f h) (zia σ3 (A 10)))), (2, zI b), (0, zR hm), (1, zI h)] [] σ5 _
        obtain ⟨hy, fr5, cp5⟩ := hI88
        have frL5 : zFr (mLb hm A) σ σ5 := (mLb_13 frL3).tr (fr5.wk fun _ _ q => Or.inr (Or.inr (Or.inr q)))
        have hM5 := zMo_fr hM frL5
        have hN5 : zia σ5 (A 0) = N := mLb_N hM hN frL5
        have hro5 := mRo_fr (mRo_13 hM3 hro3) fr5 (fun q => zMo_hm1 hM (k := 11) (by decide) zMo_h1 q.symm) (fun _ q => zMo_ne hM (j := 9) (k := 11) (by decide) (by decide) (by decide) q)
        have e105 : zia σ5 (A 10) = zia σ3 (A 10) := (fr5.at fun j q => zMo_ne hM (j := 10) (k := 11) (by decide) (by decide) (by decide) q).trans (zsi_at (zMo_hm1 hM (k := 10) (by decide) zMo_h1) rfl)
        have e135 : zia σ5 hm ((13 : Nat) : Int) = pG N h (fun f => mP N f h) (zia σ3 (A 10)) := (fr5.2.2.2.2.2 hm _ (fun q => zMo_hm1 hM (k := 11) (by decide) zMo_h1 q.symm)).trans (zsi_same _ _ _ _)
        refine zF_iload 90 dX12_layBest_88 rfl rfl ?_
        refine zF_aload_n 91 dX12_layBest_90 rfl rfl ?_
        refine zF_getI 94 dX12_layBest_91 rfl gX12_199 (by decide) (by decide) hM5.1 hM5.2.1 hro5.1 ?_
        refine zF_icmp_ge 117 97 dX12_layBest_94 rfl rfl (by first | decide | assumption | exact hb _ | exact mSh_rg hb _ _ | exact zb_rg _ | (constructor <;> omega)) (by first | decide | assumption | exact hb _ | exact mSh_rg hb _ _ | exact zb_rg _ | (constructor <;> omega)) (fun c4 => ?_) (fun c4 => ?_)
        · refine zF_aload_n 118 dX12_layBest_117 rfl rfl ?_
          refine zF_callV 121 (d2 := (d + 8)) (as := []) dX12_layBest_118 rfl kX12_221 iX12_nextTried (ci := 12) rfl eX12_nextTried (Nat.le_refl _) hM5.1 hM5.2.1 rfl rfl (Nat.le_of_ble_eq_true rfl) (zE.mono (zt_X12_nextTried hM5 hN5 hV hQ hro5 (by rw [e105]; exact (lbI_1 li3 (by assumption)).2.1)) fun ro σn3 hh3 => ?_)
          obtain ⟨b3, er3, fr3, px3⟩ := hh3
          subst er3
          refine ⟨fr3.1, ?_⟩
          have hMn3 := zMo_fr hM5 fr3
          have hNn3 : zia σn3 (A 0) = N := (fr3.at fun j q => zMo_ne hM (j := 0) (k := 10) (by decide) (by decide) (by decide) q).trans hN5
          have hron3 := mRo_fr hro5 fr3 (fun q => zMo_hm1 hM (k := 10) (by decide) zMo_h1 q.symm) (fun _ q => zMo_ne hM (j := 9) (k := 10) (by decide) (by decide) (by decide) q)
          have e13n : zia σn3 hm ((13 : Nat) : Int) = zia σ5 hm ((13 : Nat) : Int) := fr3.2.2.2.2.2 hm _ (fun q => zMo_hm1 hM (k := 10) (by decide) zMo_h1 q.symm)
          have e11n : zia σn3 (A 11) = zia σ5 (A 11) := fr3.at fun j q => zMo_ne hM (j := 11) (k := 10) (by decide) (by decide) (by decide) q
          have frL3 : zFr (mLb hm A) σ σn3 := frL5.tr (fr3.wk fun _ _ q => Or.inr (Or.inr (Or.inl q)))
          refine zF_istore_n 122 (ls' := [(2, zI b3), (4, zI ((y : Nat) : Int)), (3, zI (pG N h (fun f => mP N f h) (zia σ3 (A 10)))), (0, zR hm), (1, zI h)]) dX12_layBest_121 rfl (by decide) rfl ?_
          obtain ⟨m2, hm2, hl2⟩ := lbI_next hV hQ h0 (by omega) (t := zia σ3 (A 10)) (best := zia σ5 (A 11)) (bg := pG N h (fun f => mP N f h) (zia σ3 (A 10))) (pInv_more (by omega) (lbI_1 li3 (by assumption)).2 (by omega) (fun k hk => cp5 k (by omega))) (e13n.trans e135) (fun k _ => congrFun e11n k) (by rw [← e105]; exact px3)
          have hmm := (lbI_1 li3 (by assumption)).1
          refine zF_goto 62 dX12_layBest_122 rfl ?_
          exact zF_locs (ls' := [(2, zI b3), (0, zR hm), (1, zI h)]) ⟨rfl, rfl, rfl, trivial⟩ (ih62 (b3, m2) _ (by show m2 < m; omega) (⟨frL3, hron3, hl2⟩))
        · refine zF_aload_n 98 dX12_layBest_97 rfl rfl ?_
          refine zF_getR 101 dX12_layBest_98 rfl gX12_35 hM5.1 hM5.2.1 (zM_11 hM5).1 ?_
          refine zF_iload 103 dX12_layBest_101 rfl rfl ?_
          refine zF_aload_n 104 dX12_layBest_103 rfl rfl ?_
          refine zF_getR 107 dX12_layBest_104 rfl gX12_32 hM5.1 hM5.2.1 (zM_10 hM5).1 ?_
          refine zF_iload 109 dX12_layBest_107 rfl rfl ?_
          refine zF_iaload 110 dX12_layBest_109 rfl (zM_10 hM5).2.2 (zM_10 hM5).2.1 (by omega) (by omega) (congrFun e105 _) ?_
          refine zF_iastore 111 dX12_layBest_110 rfl (zM_11 hM5).2.2 (zM_11 hM5).2.1 (by omega) (by omega) ?_
          refine zF_iinc 114 (ls' := [(4, zI (((y : Nat) : Int) + 1)), (3, zI (pG N h (fun f => mP N f h) (zia σ3 (A 10)))), (2, zI b), (0, zR hm), (1, zI h)]) dX12_layBest_111 rfl rfl rfl (by decide) rfl ?_
          refine zF_goto 88 dX12_layBest_114 rfl ?_
          exact zF_locs (ls' := [(4, zI (((y + 1) : Nat) : Int)), (3, zI (pG N h (fun f => mP N f h) (zia σ3 (A 10)))), (2, zI b), (0, zR hm), (1, zI h)]) ⟨zlI rfl (by first | rfl | omega | (push_cast; omega) | exact congrArg (_ + ·) (zbT (by assumption)) | exact congrArg (_ + ·) (zbF (by assumption)) | exact congrArg (_ + ·) (zbT (by omega)) | exact congrArg (_ + ·) (zbF (by omega)) | exact congrArg (_ + ·) (if_pos (by omega)).symm | exact congrArg (_ + ·) (if_neg (by omega)).symm | exact (if_pos (by omega)).symm | exact (if_neg (by omega)).symm | exact zsub_s (if_pos (by omega)).symm | exact zsub_s0 (if_neg (by omega)).symm | exact zadd0 (if_neg (by omega)).symm | exact zadd0 (zbF (by omega)) | exact (Int.sub_zero _).symm), rfl, rfl, rfl, rfl, trivial⟩ (ih88 (y + 1) _ (by omega) (⟨by omega, zFr_si rfl fr5, cp_st cp5⟩))
  · have qk := rk_b hV (h := h) (k := (x : Int)) (by omega) (by omega)
    refine zF_aload_n 16 dX12_layBest_15 rfl rfl ?_
    refine zF_getR 19 dX12_layBest_16 rfl gX12_32 hM2.1 hM2.2.1 (zM_10 hM2).1 ?_
    refine zF_iload_n 20 dX12_layBest_19 rfl rfl ?_
    refine zF_aload_n 21 dX12_layBest_20 rfl rfl ?_
    refine zF_aload_n 22 dX12_layBest_21 rfl rfl ?_
    refine zF_getR 25 dX12_layBest_22 rfl gX12_29 hM2.1 hM2.2.1 (zM_9 hM2).1 ?_
    refine zF_iload_n 26 dX12_layBest_25 rfl rfl ?_
    refine zF_iaload 27 dX12_layBest_26 rfl (zM_9 hM2).2.2 (zM_9 hM2).2.1 (by omega) (by omega) (hro2.2 _ (by omega) (by omega)) ?_
    refine zF_callVi 30 (d2 := (d + 8)) (as := [zI (rk N h ((x : Nat) : Int))]) dX12_layBest_27 rfl kX12_208 iX12_isHeld (ci := 12) rfl eX12_isHeld (Nat.le_refl _) hM2.1 hM2.2.1 rfl rfl (Nat.le_of_ble_eq_true rfl) (zn_X12_isHeld hM2 hN2 hb (by omega) (by omega)) ?_
    refine zF_ifb_eq 47 33 dX12_layBest_30 rfl rfl (fun c5 => ?_) (fun c5 => ?_)
    · refine zF_iconst 48 dX12_layBest_47 rfl ?_
      refine zF_iastore 49 dX12_layBest_48 rfl (zM_10 hM2).2.2 (zM_10 hM2).2.1 (by omega) (by omega) ?_
      refine zF_iinc 52 (ls' := [(2, zI (((x : Nat) : Int) + 1)), (0, zR hm), (1, zI h)]) dX12_layBest_49 rfl rfl rfl (by decide) rfl ?_
      refine zF_goto 7 dX12_layBest_52 rfl ?_
      exact zF_locs (ls' := [(2, zI (((x + 1) : Nat) : Int)), (0, zR hm), (1, zI h)]) ⟨zlI rfl (by first | rfl | omega | (push_cast; omega) | exact congrArg (_ + ·) (zbT (by assumption)) | exact congrArg (_ + ·) (zbF (by assumption)) | exact congrArg (_ + ·) (zbT (by omega)) | exact congrArg (_ + ·) (zbF (by omega)) | exact congrArg (_ + ·) (if_pos (by omega)).symm | exact congrArg (_ + ·) (if_neg (by omega)).symm | exact (if_pos (by omega)).symm | exact (if_neg (by omega)).symm | exact zsub_s (if_pos (by omega)).symm | exact zsub_s0 (if_neg (by omega)).symm | exact zadd0 (if_neg (by omega)).symm | exact zadd0 (zbF (by omega)) | exact (Int.sub_zero _).symm), rfl, rfl, trivial⟩ (ih7 (x + 1) _ (by omega) (⟨by omega, mLb_10 frL2, mRo_10 hM2 hro2, iT_st it2 (by unfold iT; first | (rw [if_pos (by omega)]; done) | (rw [if_neg (by omega)]; done))⟩))
    · refine zF_aload_n 34 dX12_layBest_33 rfl rfl ?_
      refine zF_aload_n 35 dX12_layBest_34 rfl rfl ?_
      refine zF_getR 38 dX12_layBest_35 rfl gX12_29 hM2.1 hM2.2.1 (zM_9 hM2).1 ?_
      refine zF_iload_n 39 dX12_layBest_38 rfl rfl ?_
      refine zF_iaload 40 dX12_layBest_39 rfl (zM_9 hM2).2.2 (zM_9 hM2).2.1 (by omega) (by omega) (hro2.2 _ (by omega) (by omega)) ?_
      refine zF_iconst 41 dX12_layBest_40 rfl ?_
      refine zF_callVi 44 (d2 := (d + 8)) (as := [zI (rk N h ((x : Nat) : Int)), zI 4]) dX12_layBest_41 rfl kX12_119 iX12_of (ci := 12) rfl eX12_of (Nat.le_refl _) hM2.1 hM2.2.1 rfl rfl (Nat.le_of_ble_eq_true rfl) (zn_X12_of hM2 hN2 (by omega) (by omega)) ?_
      refine zF_goto 48 dX12_layBest_44 rfl ?_
      refine zF_iastore 49 dX12_layBest_48 rfl (zM_10 hM2).2.2 (zM_10 hM2).2.1 (by omega) (by omega) ?_
      refine zF_iinc 52 (ls' := [(2, zI (((x : Nat) : Int) + 1)), (0, zR hm), (1, zI h)]) dX12_layBest_49 rfl rfl rfl (by decide) rfl ?_
      refine zF_goto 7 dX12_layBest_52 rfl ?_
      exact zF_locs (ls' := [(2, zI (((x + 1) : Nat) : Int)), (0, zR hm), (1, zI h)]) ⟨zlI rfl (by first | rfl | omega | (push_cast; omega) | exact congrArg (_ + ·) (zbT (by assumption)) | exact congrArg (_ + ·) (zbF (by assumption)) | exact congrArg (_ + ·) (zbT (by omega)) | exact congrArg (_ + ·) (zbF (by omega)) | exact congrArg (_ + ·) (if_pos (by omega)).symm | exact congrArg (_ + ·) (if_neg (by omega)).symm | exact (if_pos (by omega)).symm | exact (if_neg (by omega)).symm | exact zsub_s (if_pos (by omega)).symm | exact zsub_s0 (if_neg (by omega)).symm | exact zadd0 (if_neg (by omega)).symm | exact zadd0 (zbF (by omega)) | exact (Int.sub_zero _).symm), rfl, rfl, trivial⟩ (ih7 (x + 1) _ (by omega) (⟨by omega, mLb_10 frL2, mRo_10 hM2 hro2, iT_st it2 (by unfold iT; first | (rw [if_pos (by omega)]; done) | (rw [if_neg (by omega)]; done))⟩))
end ZQ4

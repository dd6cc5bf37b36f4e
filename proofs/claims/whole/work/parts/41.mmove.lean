/-! the reference: moves of prints weighed -/
section ZQ6
variable {G : zG} {d : Nat} {σ : zMem} {hm : Nat} {A : Nat → Nat} {N : Int → Int}
def mPr2 (N : Int → Int) (f p q : Int) : Int → Int := mSet (mSet N (154 + 5 * f + p + 1) (mP N f p - 1)) (154 + 5 * f + q + 1) (mP N f q + 1)
theorem mPr2_o {f p q : Int} (f0 : 0 ≤ f) (f1 : f < 6) (p0 : -1 ≤ p) (p1 : p < 4) (q0 : -1 ≤ q) (q1 : q < 4) : pE N (mPr2 N f p q) := fun j hj => by
  unfold mPr2
  rw [mSet_o (by omega), mSet_o (by omega)]
theorem mPr2_p {f p q f2 p2 : Int} (f0 : 0 ≤ f) (p0 : -1 ≤ p) (p1 : p < 4) (q0 : -1 ≤ q) (q1 : q < 4) (pq : p ≠ q) (g0 : 0 ≤ f2) (p20 : -1 ≤ p2) (p21 : p2 < 4) : mP (mPr2 N f p q) f2 p2 = if f2 = f ∧ p2 = q then mP N f q + 1 else if f2 = f ∧ p2 = p then mP N f p - 1 else mP N f2 p2 := by
  show mPr2 N f p q (154 + 5 * f2 + p2 + 1) = _
  unfold mPr2
  by_cases c : f2 = f ∧ p2 = q
  · rw [if_pos c, c.1, c.2, mSet_at]
  · rw [if_neg c, mSet_o (by omega)]
    by_cases c2 : f2 = f ∧ p2 = p
    · rw [if_pos c2, c2.1, c2.2, mSet_at]
    · rw [if_neg c2, mSet_o (by omega)]
      rfl
theorem mPr2_eq {f p q x y : Int} (pq : p ≠ q) (ex : x = mP N f p - 1) (ey : y = mSet N (154 + 5 * f + p + 1) x (154 + 5 * f + q + 1) + 1) : mSet (mSet N (154 + 5 * f + p + 1) x) (154 + 5 * f + q + 1) y = mPr2 N f p q := by
  rw [mSet_o (by omega)] at ey
  subst ex
  subst ey
  rfl
theorem mPr2_back {f p q x y : Int} (pq : p ≠ q) (ex : x = mPr2 N f p q (154 + 5 * f + p + 1) + 1) (ey : y = mSet (mPr2 N f p q) (154 + 5 * f + p + 1) x (154 + 5 * f + q + 1) - 1) : mSet (mSet (mPr2 N f p q) (154 + 5 * f + p + 1) x) (154 + 5 * f + q + 1) y = N := by
  have e1 : mPr2 N f p q (154 + 5 * f + p + 1) = mP N f p - 1 := by unfold mPr2; rw [mSet_o (by omega), mSet_at]
  have e2 : mPr2 N f p q (154 + 5 * f + q + 1) = mP N f q + 1 := by unfold mPr2; rw [mSet_at]
  rw [mSet_o (by omega), e2] at ey
  rw [e1] at ex
  subst ex
  subst ey
  funext j
  by_cases c : j = 154 + 5 * f + q + 1
  · rw [c, mSet_at]
    unfold mP
    omega
  · rw [mSet_o c]
    by_cases c2 : j = 154 + 5 * f + p + 1
    · rw [c2, mSet_at]
      unfold mP
      omega
    · rw [mSet_o c2]
      unfold mPr2
      rw [mSet_o c, mSet_o c2]
theorem mV_pE {N' : Int → Int} (hV : mV N) (o : pE N N') (rp : ∀ f p, 0 ≤ f → f < 6 → -1 ≤ p → p < 4 → 0 ≤ mP N' f p ∧ mP N' f p ≤ 9) : mV N' := by
  have i : ∀ j, j < 154 ∨ 184 ≤ j → N' j = N j := fun j hj => o j (by omega)
  have sS : ∀ s k : Int, s < 10 → 0 ≤ k → k < 8 → mS N' s k = mS N s k := fun s k s1 k0 k1 => i _ (by omega)
  have fF : ∀ f k : Int, f < 6 → 0 ≤ k → k < 10 → mF N' f k = mF N f k := fun f k f1 k0 k1 => i _ (by omega)
  refine ⟨?_, fun j => ?_, fun s s0 s1 => ?_, fun f f0 f1 => ?_, fun f k f0 f1 k0 k1 => ?_, fun h h0 h1 => ?_, fun h f h0 h1 f0 f1 => ?_, rp⟩
  · rw [i 0 (by omega), i 1 (by omega), i 2 (by omega), i 3 (by omega)]; exact hV.n
  · by_cases c : 154 ≤ j ∧ j < 184
    · have := rp ((j - 154) / 5) ((j - 154) % 5 - 1) (by omega) (by omega) (by omega) (by omega)
      unfold mP at this
      rw [show 154 + 5 * ((j - 154) / 5) + ((j - 154) % 5 - 1) + 1 = j by omega] at this
      constructor <;> omega
    · rw [o j c]; exact hV.b j
  · rw [sS s 0 s1 (by omega) (by omega), sS s 1 s1 (by omega) (by omega), sS s 2 s1 (by omega) (by omega), sS s 3 s1 (by omega) (by omega), sS s 4 s1 (by omega) (by omega), sS s 5 s1 (by omega) (by omega), sS s 6 s1 (by omega) (by omega), sS s 7 s1 (by omega) (by omega)]
    exact hV.s s s0 s1
  · rw [fF f 0 f1 (by omega) (by omega), fF f 1 f1 (by omega) (by omega), fF f 2 f1 (by omega) (by omega), fF f 3 f1 (by omega) (by omega), fF f 8 f1 (by omega) (by omega), i 2 (by omega), i 3 (by omega)]
    exact hV.f f f0 f1
  · rw [fF f (4 + k) f1 (by omega) (by omega)]; exact hV.t f k f0 f1 k0 k1
  · have e0 : mH N' h 0 = mH N h 0 := i _ (by omega)
    have e1 : mH N' h 1 = mH N h 1 := i _ (by omega)
    rw [e0, e1]; exact hV.h h h0 h1
  · have e : mR N' h f = mR N h f := i _ (by omega)
    rw [e, i 3 (by omega)]; exact hV.r h f h0 h1 f0 f1
theorem mC4_pE {N' : Int → Int} (hV : mV N) (hQ : mC4 N) (o : pE N N') : mC4 N' := fun h => by
  have hs := nS_eq hV
  have eS : nS N' = nS N := by unfold nS; rw [o 1 (by omega)]
  have : mCn N' h (nS N') = mCn N h (nS N) := by
    unfold mCn
    rw [eS]
    refine zsum_congr fun s hs2 => ?_
    have : mS N' s 0 = mS N s 0 := o _ (by omega)
    rw [this]
  rw [this]
  exact hQ h
theorem bG_r (hV : mV N) (hQ : mC4 N) {h : Int} (h0 : 0 ≤ h) (h1 : h < 4) {lim : Int → Int} (x : pMax N h lim (ch0 N h) (bG N h lim)) : -1 ≤ bG N h lim ∧ bG N h lim ≤ 41575842 := by
  obtain ⟨⟨t, t1, t2⟩, _⟩ := x
  rw [← t2]
  exact pG_b hV hQ h0 h1 lim t
/-- what is asked of a move -/
def mvOK (N : Int → Int) (f p q : Int) : Prop := (0 ≤ f ∧ f < N 2) ∧ (-1 ≤ p ∧ p < N 0) ∧ (-1 ≤ q ∧ q < N 0) ∧ p ≠ q ∧ 0 < mP N f p ∧ mP N f q < 9
theorem mvOK_V (hV : mV N) {f p q : Int} (o : mvOK N f p q) : mV (mPr2 N f p q) := by
  have hn := hV.n
  obtain ⟨⟨f0, f1⟩, ⟨p0, p1⟩, ⟨q0, q1⟩, pq, a, b⟩ := o
  refine mV_pE hV (mPr2_o f0 (by omega) p0 (by omega) q0 (by omega)) fun f2 p2 g0 g1 r0 r1 => ?_
  rw [mPr2_p f0 p0 (by omega) q0 (by omega) pq g0 r0 r1]
  have x := hV.p f2 p2 g0 g1 r0 r1
  have y := hV.p f p f0 (by omega) p0 (by omega)
  have z := hV.p f q f0 (by omega) q0 (by omega)
  split
  · omega
  · split <;> omega
theorem bG_from (hV : mV N) (hQ : mC4 N) {f p q : Int} (o : mvOK N f p q) (hp : p ≠ -1) (x : pMax (mPr2 N f p q) p (lmP (mPr2 N f p q) p) (ch0 (mPr2 N f p q) p) (bG (mPr2 N f p q) p (lmP (mPr2 N f p q) p))) : bG (mPr2 N f p q) p (lmP (mPr2 N f p q) p) = bG N p (limD N p f (-1)) ∧ pMax N p (limD N p f (-1)) (ch0 N p) (bG N p (limD N p f (-1))) := by
  have hn := hV.n
  obtain ⟨⟨f0, f1⟩, ⟨p0, p1⟩, ⟨q0, q1⟩, pq, a, b⟩ := o
  have y := pMax_lim (lim' := limD N p f (-1)) hV (fun g g0 g1 => by
    show mP (mPr2 N f p q) g p = if g = f then mP N f p + -1 else mP N g p
    rw [mPr2_p f0 p0 (by omega) q0 (by omega) pq g0 p0 (by omega), if_neg (fun z => pq z.2)]
    by_cases c : g = f
    · rw [if_pos ⟨c, rfl⟩, if_pos c]; omega
    · rw [if_neg (fun z => c z.1), if_neg c]) (pMax_pE hV hQ (mPr2_o f0 (by omega) p0 (by omega) q0 (by omega)) (by omega) (by omega) x)
  have e := bG_eq y
  exact ⟨e, e ▸ y⟩
theorem bG_to (hV : mV N) (hQ : mC4 N) {f p q : Int} (o : mvOK N f p q) (hq : q ≠ -1) (x : pMax (mPr2 N f p q) q (lmP (mPr2 N f p q) q) (ch0 (mPr2 N f p q) q) (bG (mPr2 N f p q) q (lmP (mPr2 N f p q) q))) : bG (mPr2 N f p q) q (lmP (mPr2 N f p q) q) = bG N q (limD N q f 1) ∧ pMax N q (limD N q f 1) (ch0 N q) (bG N q (limD N q f 1)) := by
  have hn := hV.n
  obtain ⟨⟨f0, f1⟩, ⟨p0, p1⟩, ⟨q0, q1⟩, pq, a, b⟩ := o
  have y := pMax_lim (lim' := limD N q f 1) hV (fun g g0 g1 => by
    show mP (mPr2 N f p q) g q = if g = f then mP N f q + 1 else mP N g q
    rw [mPr2_p f0 p0 (by omega) q0 (by omega) pq g0 q0 (by omega)]
    by_cases c : g = f
    · rw [if_pos ⟨c, rfl⟩, if_pos c]
    · rw [if_neg (fun z => c z.1), if_neg (fun z => c z.1), if_neg c]) (pMax_pE hV hQ (mPr2_o f0 (by omega) p0 (by omega) q0 (by omega)) (by omega) (by omega) x)
  have e := bG_eq y
  exact ⟨e, e ▸ y⟩
theorem zt_gainP {f p q : Int} (hM : zMo σ hm A) (hN : zia σ (A 0) = mPr2 N f p q) (hV : mV N) (hQ : mC4 N) (o : mvOK N f p q) (hp : p ≠ -1) : zE G mX12_gainIn (d + 10) [zR hm, zI p] σ (fun ro σ1 => ro = .inl (some (zI (bG N p (limD N p f (-1))))) ∧ zFr (mLb hm A) σ σ1 ∧ (-1 ≤ bG N p (limD N p f (-1)) ∧ bG N p (limD N p f (-1)) ≤ 41575842)) := by
  have hn := hV.n
  have o' := o
  obtain ⟨⟨f0, f1⟩, ⟨p0, p1⟩, ⟨q0, q1⟩, pq, a, b⟩ := o'
  have oE := mPr2_o (N := N) (f := f) (p := p) (q := q) f0 (by omega) p0 (by omega) q0 (by omega)
  refine (zt_X12_gainIn hM hN (mvOK_V hV o) (mC4_pE hV hQ oE) (by omega) (by rw [oE 0 (by omega)]; exact p1)).mono fun r s h => ?_
  obtain ⟨e, y⟩ := bG_from hV hQ o hp h.2.2
  exact ⟨by rw [← e]; exact h.1, h.2.1, bG_r hV hQ (by omega) (by omega) y⟩
theorem zt_gainQ {f p q : Int} (hM : zMo σ hm A) (hN : zia σ (A 0) = mPr2 N f p q) (hV : mV N) (hQ : mC4 N) (o : mvOK N f p q) (hq : q ≠ -1) : zE G mX12_gainIn (d + 10) [zR hm, zI q] σ (fun ro σ1 => ro = .inl (some (zI (bG N q (limD N q f 1)))) ∧ zFr (mLb hm A) σ σ1 ∧ (-1 ≤ bG N q (limD N q f 1) ∧ bG N q (limD N q f 1) ≤ 41575842)) := by
  have hn := hV.n
  have o' := o
  obtain ⟨⟨f0, f1⟩, ⟨p0, p1⟩, ⟨q0, q1⟩, pq, a, b⟩ := o'
  have oE := mPr2_o (N := N) (f := f) (p := p) (q := q) f0 (by omega) p0 (by omega) q0 (by omega)
  refine (zt_X12_gainIn hM hN (mvOK_V hV o) (mC4_pE hV hQ oE) (by omega) (by rw [oE 0 (by omega)]; exact q1)).mono fun r s h => ?_
  obtain ⟨e, y⟩ := bG_to hV hQ o hq h.2.2
  exact ⟨by rw [← e]; exact h.1, h.2.1, bG_r hV hQ (by omega) (by omega) y⟩
def mLg (hm : Nat) (A : Nat → Nat) (h : Nat) (j : Int) : Prop := h = A 14 ∨ mLb hm A h j
theorem mLg_sc {σ1 : zMem} (f : zFr (mLg hm A) σ σ1) : zFr (mSc hm A) σ σ1 := f.wk fun _ _ q => by
  rcases q with q | ⟨a, b⟩ | q | q | q
  · exact Or.inr (Or.inr (Or.inr (Or.inr (Or.inr (Or.inr (Or.inl q))))))
  · exact Or.inl ⟨a, Or.inr b⟩
  · exact Or.inr (Or.inr (Or.inr (Or.inl q)))
  · exact Or.inr (Or.inr (Or.inr (Or.inr (Or.inl q))))
  · exact Or.inr (Or.inr (Or.inr (Or.inr (Or.inr (Or.inl q)))))
/-- the best move, by the order of the codes -/
def vT (N : Int → Int) (f p q : Int) : Prop := (0 ≤ f ∧ f < N 2) ∧ (-1 ≤ p ∧ p < N 0) ∧ (-1 ≤ q ∧ q < N 0)
noncomputable def bmM (N : Int → Int) (f p q : Int) : Int := if cmP N f p q then mbV N f p q else 0
def cdM (f p q : Int) : Int := 100 * f + 10 * (p + 1) + q + 1
def bmJ (N : Int → Int) (c found most : Int) : Prop := 0 ≤ most ∧ (∀ f p q, vT N f p q → cdM f p q < c → bmM N f p q ≤ most) ∧ ((most = 0 ∧ found = -1) ∨ (0 < most ∧ ∃ f p q, vT N f p q ∧ cdM f p q < c ∧ bmM N f p q = most ∧ found = cdM f p q ∧ ∀ f' p' q', vT N f' p' q' → cdM f' p' q' < c → bmM N f' p' q' = most → cdM f p q ≤ cdM f' p' q'))
theorem bmJ_0 : bmJ N 0 (-1) 0 := ⟨Int.le_refl _, fun f p q v h => by obtain ⟨a, b, c⟩ := v; unfold cdM at h; omega, Or.inl ⟨rfl, rfl⟩⟩
theorem bmJ_skip {c c' fo mo : Int} (h : bmJ N c fo mo) (hc : c ≤ c') (hs : ∀ f p q, vT N f p q → cdM f p q < c' → cdM f p q < c) : bmJ N c' fo mo := by
  obtain ⟨a, b, e⟩ := h
  refine ⟨a, fun f p q v l => b f p q v (hs f p q v l), ?_⟩
  rcases e with e | ⟨e, f, p, q, v, l, m, g, r⟩
  · exact Or.inl e
  · exact Or.inr ⟨e, f, p, q, v, by omega, m, g, fun f' p' q' v' l' m' => r f' p' q' v' (hs f' p' q' v' l') m'⟩
theorem cdM_inj (hn : N 0 ≤ 4) {f p q f' p' q' : Int} (v : vT N f p q) (v' : vT N f' p' q') (e : cdM f p q = cdM f' p' q') : f = f' ∧ p = p' ∧ q = q' := by
  obtain ⟨a, b, c⟩ := v
  obtain ⟨a', b', c'⟩ := v'
  unfold cdM at e
  omega
theorem bmJ_step (hn : N 0 ≤ 4) {f p q fo mo : Int} (v : vT N f p q) (h : bmJ N (cdM f p q) fo mo) : bmJ N (cdM f p q + 1) (if mo < bmM N f p q then cdM f p q else fo) (max mo (bmM N f p q)) := by
  obtain ⟨a, b, e⟩ := h
  have at_c : ∀ f' p' q', vT N f' p' q' → cdM f' p' q' < cdM f p q + 1 → cdM f' p' q' < cdM f p q ∨ bmM N f' p' q' = bmM N f p q ∧ cdM f' p' q' = cdM f p q := fun f' p' q' v' l => by
    by_cases z : cdM f' p' q' = cdM f p q
    · obtain ⟨r1, r2, r3⟩ := cdM_inj hn v' v z
      subst r1; subst r2; subst r3
      exact Or.inr ⟨rfl, rfl⟩
    · exact Or.inl (by omega)
  refine ⟨by omega, fun f' p' q' v' l => ?_, ?_⟩
  · rcases at_c f' p' q' v' l with z | z
    · have := b f' p' q' v' z; omega
    · omega
  · by_cases g : mo < bmM N f p q
    · rw [if_pos g]
      refine Or.inr ⟨by omega, f, p, q, v, by omega, by omega, rfl, fun f' p' q' v' l m => ?_⟩
      rcases at_c f' p' q' v' l with z | z
      · have := b f' p' q' v' z; omega
      · omega
    · rw [if_neg g]
      rcases e with ⟨e1, e2⟩ | ⟨e1, f2, p2, q2, v2, l2, m2, g2, r2⟩
      · exact Or.inl ⟨by omega, e2⟩
      · refine Or.inr ⟨by omega, f2, p2, q2, v2, by omega, by omega, g2, fun f' p' q' v' l m => ?_⟩
        rcases at_c f' p' q' v' l with z | z
        · exact r2 f' p' q' v' z (by omega)
        · omega
noncomputable def bmV (N : Int → Int) : Int := Classical.epsilon (fun a => ∃ m, bmJ N 600 a m)
theorem bmJ_u {c a b m n : Int} (x : bmJ N c a m) (y : bmJ N c b n) : a = b := by
  obtain ⟨x1, x2, x3⟩ := x
  obtain ⟨y1, y2, y3⟩ := y
  rcases x3 with ⟨p, q⟩ | ⟨p, f, r, s, v, l, e, g, h⟩
  · rcases y3 with ⟨p', q'⟩ | ⟨p', f', r', s', v', l', e', g', h'⟩
    · omega
    · have := x2 f' r' s' v' l'; omega
  · rcases y3 with ⟨p', q'⟩ | ⟨p', f', r', s', v', l', e', g', h'⟩
    · have := y2 f r s v l; omega
    · have a1 := y2 f r s v l
      have a2 := x2 f' r' s' v' l'
      have b1 := h f' r' s' v' l' (by omega)
      have b2 := h' f r s v l (by omega)
      omega
theorem bmJ_V {a m : Int} (x : bmJ N 600 a m) : a = bmV N := by
  have s : ∃ n, bmJ N 600 (bmV N) n := Classical.epsilon_spec (p := fun a => ∃ m, bmJ N 600 a m) ⟨a, m, x⟩
  obtain ⟨n, y⟩ := s
  exact bmJ_u x y
theorem zt_X12_heldScreens {h f : Int} (hM : zMo σ hm A) (hN : zia σ (A 0) = N) (hV : mV N) (zrh : zrg h) (zrf : zrg f) : zP1 G mX12_heldScreens (d + 4) [zR hm, zI h, zI f] σ (mHs N h f (nS N)) := by
  refine zE_of rfl (by simp [zcat]) (Nat.le_of_ble_eq_true rfl) ?_
  show zF G mX12_heldScreens (d + 4) 0 [(0, zR hm), (1, zI h), (2, zI f)] [] σ _
  have hb := hV.b
  have hn := hV.n
  have hs := nS_eq hV
  refine zF_iconst 1 dX12_heldScreens_0 rfl ?_
  refine zF_istore_n 2 (ls' := [(3, zI 0), (0, zR hm), (1, zI h), (2, zI f)]) dX12_heldScreens_1 rfl (by decide) rfl ?_
  refine zF_iconst 3 dX12_heldScreens_2 rfl ?_
  refine zF_istore 5 (ls' := [(4, zI 0), (3, zI 0), (0, zR hm), (1, zI h), (2, zI f)]) dX12_heldScreens_3 rfl (by decide) rfl ?_
  refine zF_locs (ls' := (fun (i : Nat) => [(4, zI (i : Int)), (3, zI (mHs N h f i)), (0, zR hm), (1, zI h), (2, zI f)]) 0) ⟨zlI rfl (by first | omega | rfl | (push_cast; omega) | exact congrArg (_ + ·) (zbT ⟨by assumption, by omega, by omega⟩) | exact congrArg (_ + ·) (zbF (fun q => by have := q.1; have := q.2.1; have := q.2.2; omega)) | exact congrArg (_ + ·) (zbT (by omega)) | exact congrArg (_ + ·) (zbF (by omega))), zlI rfl (by first | omega | rfl | (push_cast; omega) | exact congrArg (_ + ·) (zbT ⟨by assumption, by omega, by omega⟩) | exact congrArg (_ + ·) (zbF (fun q => by have := q.1; have := q.2.1; have := q.2.2; omega)) | exact congrArg (_ + ·) (zbT (by omega)) | exact congrArg (_ + ·) (zbF (by omega))), rfl, rfl, rfl, trivial⟩ ?_
  refine zF_loop (n := (nS N)) (fun (i : Nat) => [(4, zI (i : Int)), (3, zI (mHs N h f i)), (0, zR hm), (1, zI h), (2, zI f)]) (fun _ => σ) (fun i hi ih5 => ?_) ?_
  · show zF G mX12_heldScreens (d + 4) 5 [(4, zI (i : Int)), (3, zI (mHs N h f i)), (0, zR hm), (1, zI h), (2, zI f)] [] σ _
    refine zF_iload 7 dX12_heldScreens_5 rfl rfl ?_
    refine zF_aload_n 8 dX12_heldScreens_7 rfl rfl ?_
    refine zF_callVi 11 (d2 := (d + 3)) (as := []) dX12_heldScreens_8 rfl kX12_113 iX12_screens (ci := 12) rfl eX12_screens (Nat.le_refl _) hM.1 hM.2.1 rfl rfl (Nat.le_of_ble_eq_true rfl) (zn_X12_screens hM hN) ?_
    refine zF_icmp_ge 59 14 dX12_heldScreens_11 rfl rfl (by first | decide | assumption | exact hb _ | exact mSh_rg hb _ _ | exact zb_rg _ | (constructor <;> omega)) (by first | decide | assumption | exact hb _ | exact mSh_rg hb _ _ | exact zb_rg _ | (constructor <;> omega)) (fun c1 => ?_) (fun c1 => ?_)
    · exact absurd c1 (by omega)
    · refine zF_iload_n 15 dX12_heldScreens_14 rfl rfl ?_
      refine zF_aload_n 16 dX12_heldScreens_15 rfl rfl ?_
      refine zF_iload 18 dX12_heldScreens_16 rfl rfl ?_
      refine zF_iconst 19 dX12_heldScreens_18 rfl ?_
      refine zF_callVi 22 (d2 := (d + 3)) (as := [zI (i : Int), zI 0]) dX12_heldScreens_19 rfl kX12_119 iX12_of (ci := 12) rfl eX12_of (Nat.le_refl _) hM.1 hM.2.1 rfl rfl (Nat.le_of_ble_eq_true rfl) (zn_X12_of hM hN (by omega) (by omega)) ?_
      refine zF_iload_n 23 dX12_heldScreens_22 rfl rfl ?_
      refine zF_icmp_ne 50 26 dX12_heldScreens_23 rfl rfl (by first | decide | assumption | exact hb _ | exact mSh_rg hb _ _ | exact zb_rg _ | (constructor <;> omega)) (by first | decide | assumption | exact hb _ | exact mSh_rg hb _ _ | exact zb_rg _ | (constructor <;> omega)) (fun c2 => ?_) (fun c2 => ?_)
      · refine zF_iconst 51 dX12_heldScreens_50 rfl ?_
        refine zF_iadd 52 dX12_heldScreens_51 rfl ?_
        refine zF_istore_n 53 (ls' := [(3, zI ((mHs N h f i) + 0)), (4, zI (i : Int)), (0, zR hm), (1, zI h), (2, zI f)]) dX12_heldScreens_52 rfl (by decide) rfl ?_
        refine zF_iinc 56 (ls' := [(4, zI ((i : Int) + 1)), (3, zI ((mHs N h f i) + 0)), (0, zR hm), (1, zI h), (2, zI f)]) dX12_heldScreens_53 rfl rfl rfl (by decide) rfl ?_
        refine zF_goto 5 dX12_heldScreens_56 rfl ?_
        exact zF_locs (ls' := [(4, zI ((i + 1 : Nat) : Int)), (3, zI (mHs N h f (i + 1))), (0, zR hm), (1, zI h), (2, zI f)]) ⟨zlI rfl (by first | omega | rfl | (push_cast; omega) | exact congrArg (_ + ·) (zbT ⟨by assumption, by omega, by omega⟩) | exact congrArg (_ + ·) (zbF (fun q => by have := q.1; have := q.2.1; have := q.2.2; omega)) | exact congrArg (_ + ·) (zbT (by omega)) | exact congrArg (_ + ·) (zbF (by omega))), zlI rfl (by first | omega | rfl | (push_cast; omega) | exact congrArg (_ + ·) (zbT ⟨by assumption, by omega, by omega⟩) | exact congrArg (_ + ·) (zbF (fun q => by have := q.1; have := q.2.1; have := q.2.2; omega)) | exact congrArg (_ + ·) (zbT (by omega)) | exact congrArg (_ + ·) (zbF (by omega))), rfl, rfl, rfl, trivial⟩ ih5
      · refine zF_aload_n 27 dX12_heldScreens_26 rfl rfl ?_
        refine zF_iload 29 dX12_heldScreens_27 rfl rfl ?_
        refine zF_callVi 32 (d2 := (d + 3)) (as := [zI (i : Int)]) dX12_heldScreens_29 rfl kX12_208 iX12_isHeld (ci := 12) rfl eX12_isHeld (Nat.le_refl _) hM.1 hM.2.1 rfl rfl (Nat.le_of_ble_eq_true rfl) (zn_X12_isHeld hM hN hb (by omega) (by omega)) ?_
        refine zF_ifb_eq 50 35 dX12_heldScreens_32 rfl rfl (fun c3 => ?_) (fun c3 => ?_)
        · refine zF_iconst 51 dX12_heldScreens_50 rfl ?_
          refine zF_iadd 52 dX12_heldScreens_51 rfl ?_
          refine zF_istore_n 53 (ls' := [(3, zI ((mHs N h f i) + 0)), (4, zI (i : Int)), (0, zR hm), (1, zI h), (2, zI f)]) dX12_heldScreens_52 rfl (by decide) rfl ?_
          refine zF_iinc 56 (ls' := [(4, zI ((i : Int) + 1)), (3, zI ((mHs N h f i) + 0)), (0, zR hm), (1, zI h), (2, zI f)]) dX12_heldScreens_53 rfl rfl rfl (by decide) rfl ?_
          refine zF_goto 5 dX12_heldScreens_56 rfl ?_
          exact zF_locs (ls' := [(4, zI ((i + 1 : Nat) : Int)), (3, zI (mHs N h f (i + 1))), (0, zR hm), (1, zI h), (2, zI f)]) ⟨zlI rfl (by first | omega | rfl | (push_cast; omega) | exact congrArg (_ + ·) (zbT ⟨by assumption, by omega, by omega⟩) | exact congrArg (_ + ·) (zbF (fun q => by have := q.1; have := q.2.1; have := q.2.2; omega)) | exact congrArg (_ + ·) (zbT (by omega)) | exact congrArg (_ + ·) (zbF (by omega))), zlI rfl (by first | omega | rfl | (push_cast; omega) | exact congrArg (_ + ·) (zbT ⟨by assumption, by omega, by omega⟩) | exact congrArg (_ + ·) (zbF (fun q => by have := q.1; have := q.2.1; have := q.2.2; omega)) | exact congrArg (_ + ·) (zbT (by omega)) | exact congrArg (_ + ·) (zbF (by omega))), rfl, rfl, rfl, trivial⟩ ih5
        · refine zF_aload_n 36 dX12_heldScreens_35 rfl rfl ?_
          refine zF_iload 38 dX12_heldScreens_36 rfl rfl ?_
          refine zF_iconst 39 dX12_heldScreens_38 rfl ?_
          refine zF_callVi 42 (d2 := (d + 3)) (as := [zI (i : Int), zI 4]) dX12_heldScreens_39 rfl kX12_119 iX12_of (ci := 12) rfl eX12_of (Nat.le_refl _) hM.1 hM.2.1 rfl rfl (Nat.le_of_ble_eq_true rfl) (zn_X12_of hM hN (by omega) (by omega)) ?_
          refine zF_iload_n 43 dX12_heldScreens_42 rfl rfl ?_
          refine zF_icmp_ne 50 46 dX12_heldScreens_43 rfl rfl (by first | decide | assumption | exact hb _ | exact mSh_rg hb _ _ | exact zb_rg _ | (constructor <;> omega)) (by first | decide | assumption | exact hb _ | exact mSh_rg hb _ _ | exact zb_rg _ | (constructor <;> omega)) (fun c4 => ?_) (fun c4 => ?_)
          · refine zF_iconst 51 dX12_heldScreens_50 rfl ?_
            refine zF_iadd 52 dX12_heldScreens_51 rfl ?_
            refine zF_istore_n 53 (ls' := [(3, zI ((mHs N h f i) + 0)), (4, zI (i : Int)), (0, zR hm), (1, zI h), (2, zI f)]) dX12_heldScreens_52 rfl (by decide) rfl ?_
            refine zF_iinc 56 (ls' := [(4, zI ((i : Int) + 1)), (3, zI ((mHs N h f i) + 0)), (0, zR hm), (1, zI h), (2, zI f)]) dX12_heldScreens_53 rfl rfl rfl (by decide) rfl ?_
            refine zF_goto 5 dX12_heldScreens_56 rfl ?_
            exact zF_locs (ls' := [(4, zI ((i + 1 : Nat) : Int)), (3, zI (mHs N h f (i + 1))), (0, zR hm), (1, zI h), (2, zI f)]) ⟨zlI rfl (by first | omega | rfl | (push_cast; omega) | exact congrArg (_ + ·) (zbT ⟨by assumption, by omega, by omega⟩) | exact congrArg (_ + ·) (zbF (fun q => by have := q.1; have := q.2.1; have := q.2.2; omega)) | exact congrArg (_ + ·) (zbT (by omega)) | exact congrArg (_ + ·) (zbF (by omega))), zlI rfl (by first | omega | rfl | (push_cast; omega) | exact congrArg (_ + ·) (zbT ⟨by assumption, by omega, by omega⟩) | exact congrArg (_ + ·) (zbF (fun q => by have := q.1; have := q.2.1; have := q.2.2; omega)) | exact congrArg (_ + ·) (zbT (by omega)) | exact congrArg (_ + ·) (zbF (by omega))), rfl, rfl, rfl, trivial⟩ ih5
          · refine zF_iconst 47 dX12_heldScreens_46 rfl ?_
            refine zF_goto 51 dX12_heldScreens_47 rfl ?_
            refine zF_iadd 52 dX12_heldScreens_51 rfl ?_
            refine zF_istore_n 53 (ls' := [(3, zI ((mHs N h f i) + 1)), (4, zI (i : Int)), (0, zR hm), (1, zI h), (2, zI f)]) dX12_heldScreens_52 rfl (by decide) rfl ?_
            refine zF_iinc 56 (ls' := [(4, zI ((i : Int) + 1)), (3, zI ((mHs N h f i) + 1)), (0, zR hm), (1, zI h), (2, zI f)]) dX12_heldScreens_53 rfl rfl rfl (by decide) rfl ?_
            refine zF_goto 5 dX12_heldScreens_56 rfl ?_
            exact zF_locs (ls' := [(4, zI ((i + 1 : Nat) : Int)), (3, zI (mHs N h f (i + 1))), (0, zR hm), (1, zI h), (2, zI f)]) ⟨zlI rfl (by first | omega | rfl | (push_cast; omega) | exact congrArg (_ + ·) (zbT ⟨by assumption, by omega, by omega⟩) | exact congrArg (_ + ·) (zbF (fun q => by have := q.1; have := q.2.1; have := q.2.2; omega)) | exact congrArg (_ + ·) (zbT (by omega)) | exact congrArg (_ + ·) (zbF (by omega))), zlI rfl (by first | omega | rfl | (push_cast; omega) | exact congrArg (_ + ·) (zbT ⟨by assumption, by omega, by omega⟩) | exact congrArg (_ + ·) (zbF (fun q => by have := q.1; have := q.2.1; have := q.2.2; omega)) | exact congrArg (_ + ·) (zbT (by omega)) | exact congrArg (_ + ·) (zbF (by omega))), rfl, rfl, rfl, trivial⟩ ih5
  · show zF G mX12_heldScreens (d + 4) 5 [(4, zI (((nS N) : Nat) : Int)), (3, zI (mHs N h f (nS N))), (0, zR hm), (1, zI h), (2, zI f)] [] σ _
    refine zF_iload 7 dX12_heldScreens_5 rfl rfl ?_
    refine zF_aload_n 8 dX12_heldScreens_7 rfl rfl ?_
    refine zF_callVi 11 (d2 := (d + 3)) (as := []) dX12_heldScreens_8 rfl kX12_113 iX12_screens (ci := 12) rfl eX12_screens (Nat.le_refl _) hM.1 hM.2.1 rfl rfl (Nat.le_of_ble_eq_true rfl) (zn_X12_screens hM hN) ?_
    refine zF_icmp_ge 59 14 dX12_heldScreens_11 rfl rfl (by first | decide | assumption | exact hb _ | exact mSh_rg hb _ _ | exact zb_rg _ | (constructor <;> omega)) (by first | decide | assumption | exact hb _ | exact mSh_rg hb _ _ | exact zb_rg _ | (constructor <;> omega)) (fun c5 => ?_) (fun c5 => ?_)
    · refine zF_iload_n 60 dX12_heldScreens_59 rfl rfl ?_
      exact zF_iretP dX12_heldScreens_60 rfl (rfl)
    · exact absurd c5 (by omega)
theorem zt_X12_canMove {f p q : Int} (hM : zMo σ hm A) (hN : zia σ (A 0) = N) (hV : mV N) (v : vT N f p q) : zP1 G mX12_canMove (d + 6) [zR hm, zI f, zI p, zI q] σ (zb (cmP N f p q)) := by
  refine zE_of rfl (by simp [zcat]) (Nat.le_of_ble_eq_true rfl) ?_
  show zF G mX12_canMove (d + 6) 0 [(0, zR hm), (1, zI f), (2, zI p), (3, zI q)] [] σ _
  have hb := hV.b
  have hn := hV.n
  have hs := nS_eq hV
  obtain ⟨⟨f0, f1⟩, ⟨p0, p1⟩, q0, q1⟩ := id v
  have qp := hV.p f p f0 (by omega) p0 (by omega)
  have qq := hV.p f q f0 (by omega) q0 (by omega)
  have qh := mHs_b N p f (nS N)
  refine zF_iload_n 1 dX12_canMove_0 rfl rfl ?_
  refine zF_iload_n 2 dX12_canMove_1 rfl rfl ?_
  refine zF_icmp_eq 29 5 dX12_canMove_2 rfl rfl (by first | decide | assumption | exact hb _ | exact mSh_rg hb _ _ | exact zb_rg _ | (constructor <;> omega)) (by first | decide | assumption | exact hb _ | exact mSh_rg hb _ _ | exact zb_rg _ | (constructor <;> omega)) (fun c1 => ?_) (fun c1 => ?_)
  · refine zF_iconst 30 dX12_canMove_29 rfl ?_
    refine zF_istore 32 (ls' := [(4, zI 0), (0, zR hm), (1, zI f), (2, zI p), (3, zI q)]) dX12_canMove_30 rfl (by decide) rfl ?_
    refine zF_iload 34 dX12_canMove_32 rfl rfl ?_
    refine zF_if_eq 61 37 dX12_canMove_34 rfl rfl (by first | decide | assumption | exact hb _ | exact mSh_rg hb _ _ | exact zb_rg _ | (constructor <;> omega)) (fun c2 => ?_) (fun c2 => ?_)
    · refine zF_iconst 62 dX12_canMove_61 rfl ?_
      exact zF_zretP dX12_canMove_62 rfl (by decide) (by first | exact zbT ⟨by assumption, by omega, by omega, by omega⟩ | exact zbF (fun z => by have := z.1; have := z.2.1; have := z.2.2.1; have := z.2.2.2; omega))
    · exact absurd c2 (by decide)
  · refine zF_aload_n 6 dX12_canMove_5 rfl rfl ?_
    refine zF_iload_n 7 dX12_canMove_6 rfl rfl ?_
    refine zF_iload_n 8 dX12_canMove_7 rfl rfl ?_
    refine zF_callVi 11 (d2 := (d + 5)) (as := [zI f, zI p]) dX12_canMove_8 rfl kX12_202 iX12_printsOf (ci := 12) rfl eX12_printsOf (Nat.le_refl _) hM.1 hM.2.1 rfl rfl (Nat.le_of_ble_eq_true rfl) (zn_X12_printsOf hM hN (by omega) (by omega)) ?_
    refine zF_if_le 29 14 dX12_canMove_11 rfl rfl (by first | decide | assumption | exact hb _ | exact mSh_rg hb _ _ | exact zb_rg _ | (constructor <;> omega)) (fun c3 => ?_) (fun c3 => ?_)
    · refine zF_iconst 30 dX12_canMove_29 rfl ?_
      refine zF_istore 32 (ls' := [(4, zI 0), (0, zR hm), (1, zI f), (2, zI p), (3, zI q)]) dX12_canMove_30 rfl (by decide) rfl ?_
      refine zF_iload 34 dX12_canMove_32 rfl rfl ?_
      refine zF_if_eq 61 37 dX12_canMove_34 rfl rfl (by first | decide | assumption | exact hb _ | exact mSh_rg hb _ _ | exact zb_rg _ | (constructor <;> omega)) (fun c4 => ?_) (fun c4 => ?_)
      · refine zF_iconst 62 dX12_canMove_61 rfl ?_
        exact zF_zretP dX12_canMove_62 rfl (by decide) (by first | exact zbT ⟨by assumption, by omega, by omega, by omega⟩ | exact zbF (fun z => by have := z.1; have := z.2.1; have := z.2.2.1; have := z.2.2.2; omega))
      · exact absurd c4 (by decide)
    · refine zF_aload_n 15 dX12_canMove_14 rfl rfl ?_
      refine zF_iload_n 16 dX12_canMove_15 rfl rfl ?_
      refine zF_iload_n 17 dX12_canMove_16 rfl rfl ?_
      refine zF_callVi 20 (d2 := (d + 5)) (as := [zI f, zI q]) dX12_canMove_17 rfl kX12_202 iX12_printsOf (ci := 12) rfl eX12_printsOf (Nat.le_refl _) hM.1 hM.2.1 rfl rfl (Nat.le_of_ble_eq_true rfl) (zn_X12_printsOf hM hN (by omega) (by omega)) ?_
      refine zF_bipush 22 dX12_canMove_20 rfl (by decide) ?_
      refine zF_icmp_ge 29 25 dX12_canMove_22 rfl rfl (by first | decide | assumption | exact hb _ | exact mSh_rg hb _ _ | exact zb_rg _ | (constructor <;> omega)) (by first | decide | assumption | exact hb _ | exact mSh_rg hb _ _ | exact zb_rg _ | (constructor <;> omega)) (fun c5 => ?_) (fun c5 => ?_)
      · refine zF_iconst 30 dX12_canMove_29 rfl ?_
        refine zF_istore 32 (ls' := [(4, zI 0), (0, zR hm), (1, zI f), (2, zI p), (3, zI q)]) dX12_canMove_30 rfl (by decide) rfl ?_
        refine zF_iload 34 dX12_canMove_32 rfl rfl ?_
        refine zF_if_eq 61 37 dX12_canMove_34 rfl rfl (by first | decide | assumption | exact hb _ | exact mSh_rg hb _ _ | exact zb_rg _ | (constructor <;> omega)) (fun c6 => ?_) (fun c6 => ?_)
        · refine zF_iconst 62 dX12_canMove_61 rfl ?_
          exact zF_zretP dX12_canMove_62 rfl (by decide) (by first | exact zbT ⟨by assumption, by omega, by omega, by omega⟩ | exact zbF (fun z => by have := z.1; have := z.2.1; have := z.2.2.1; have := z.2.2.2; omega))
        · exact absurd c6 (by decide)
      · refine zF_iconst 26 dX12_canMove_25 rfl ?_
        refine zF_goto 30 dX12_canMove_26 rfl ?_
        refine zF_istore 32 (ls' := [(4, zI 1), (0, zR hm), (1, zI f), (2, zI p), (3, zI q)]) dX12_canMove_30 rfl (by decide) rfl ?_
        refine zF_iload 34 dX12_canMove_32 rfl rfl ?_
        refine zF_if_eq 61 37 dX12_canMove_34 rfl rfl (by first | decide | assumption | exact hb _ | exact mSh_rg hb _ _ | exact zb_rg _ | (constructor <;> omega)) (fun c7 => ?_) (fun c7 => ?_)
        · exact absurd c7 (by decide)
        · refine zF_iload_n 38 dX12_canMove_37 rfl rfl ?_
          refine zF_iconst 39 dX12_canMove_38 rfl ?_
          refine zF_icmp_eq 57 42 dX12_canMove_39 rfl rfl (by first | decide | assumption | exact hb _ | exact mSh_rg hb _ _ | exact zb_rg _ | (constructor <;> omega)) (by first | decide | assumption | exact hb _ | exact mSh_rg hb _ _ | exact zb_rg _ | (constructor <;> omega)) (fun c8 => ?_) (fun c8 => ?_)
          · refine zF_iconst 58 dX12_canMove_57 rfl ?_
            refine zF_goto 62 dX12_canMove_58 rfl ?_
            exact zF_zretP dX12_canMove_62 rfl (by decide) (by first | exact zbT ⟨by assumption, by omega, by omega, by omega⟩ | exact zbF (fun z => by have := z.1; have := z.2.1; have := z.2.2.1; have := z.2.2.2; omega))
          · refine zF_aload_n 43 dX12_canMove_42 rfl rfl ?_
            refine zF_iload_n 44 dX12_canMove_43 rfl rfl ?_
            refine zF_iload_n 45 dX12_canMove_44 rfl rfl ?_
            refine zF_callVi 48 (d2 := (d + 5)) (as := [zI p, zI f]) dX12_canMove_45 rfl kX12_228 iX12_heldScreens (ci := 12) rfl eX12_heldScreens (Nat.le_refl _) hM.1 hM.2.1 rfl rfl (Nat.le_of_ble_eq_true rfl) (zt_X12_heldScreens hM hN hV (by first | decide | assumption | exact hb _ | exact mSh_rg hb _ _ | exact zb_rg _ | (constructor <;> omega)) (by first | decide | assumption | exact hb _ | exact mSh_rg hb _ _ | exact zb_rg _ | (constructor <;> omega))) ?_
            refine zF_aload_n 49 dX12_canMove_48 rfl rfl ?_
            refine zF_iload_n 50 dX12_canMove_49 rfl rfl ?_
            refine zF_iload_n 51 dX12_canMove_50 rfl rfl ?_
            refine zF_callVi 54 (d2 := (d + 5)) (as := [zI f, zI p]) dX12_canMove_51 rfl kX12_202 iX12_printsOf (ci := 12) rfl eX12_printsOf (Nat.le_refl _) hM.1 hM.2.1 rfl rfl (Nat.le_of_ble_eq_true rfl) (zn_X12_printsOf hM hN (by omega) (by omega)) ?_
            refine zF_icmp_ge 61 57 dX12_canMove_54 rfl rfl (by first | decide | assumption | exact hb _ | exact mSh_rg hb _ _ | exact zb_rg _ | (constructor <;> omega)) (by first | decide | assumption | exact hb _ | exact mSh_rg hb _ _ | exact zb_rg _ | (constructor <;> omega)) (fun c9 => ?_) (fun c9 => ?_)
            · refine zF_iconst 62 dX12_canMove_61 rfl ?_
              exact zF_zretP dX12_canMove_62 rfl (by decide) (by first | exact zbT ⟨by assumption, by omega, by omega, by omega⟩ | exact zbF (fun z => by have := z.1; have := z.2.1; have := z.2.2.1; have := z.2.2.2; omega))
            · refine zF_iconst 58 dX12_canMove_57 rfl ?_
              refine zF_goto 62 dX12_canMove_58 rfl ?_
              exact zF_zretP dX12_canMove_62 rfl (by decide) (by first | exact zbT ⟨by assumption, by omega, by omega, by omega⟩ | exact zbF (fun z => by have := z.1; have := z.2.1; have := z.2.2.1; have := z.2.2.2; omega))
theorem mLb_cl {σ1 : zMem} (hN : zia σ (A 0) = N) (hN1 : zia σ1 (A 0) = N) (f : zFr (fun y j => y = A 0 ∨ mLb hm A y j) σ σ1) : zFr (mLb hm A) σ σ1 := ⟨f.1, f.2.1, f.2.2.1, f.2.2.2.1, f.2.2.2.2.1, fun h j hp => by
  by_cases e : h = A 0
  · subst e; rw [hN1, hN]
  · exact f.2.2.2.2.2 h j (fun q => q.elim e hp)⟩
theorem zt_X12_moreBy {f p q : Int} (hM : zMo σ hm A) (hN : zia σ (A 0) = N) (hV : mV N) (hQ : mC4 N) (ok : mvOK N f p q) (h14 : ∀ h : Int, 0 ≤ h → h < N 0 → zia σ (A 14) h = bG N h (lmP N h)) (h15 : ∀ h : Int, 0 ≤ h → h < N 0 → -1 ≤ bG N h (lmP N h) ∧ bG N h (lmP N h) ≤ 41575842) : zE G mX12_moreBy (d + 12) [zR hm, zI f, zI p, zI q] σ (fun ro σ1 => ro = .inl (some (zI (mbV N f p q))) ∧ zFr (mLb hm A) σ σ1 ∧ (-200000000 ≤ mbV N f p q ∧ mbV N f p q ≤ 200000000)) := by
  refine zE_of rfl (by simp [zcat]) (Nat.le_of_ble_eq_true rfl) ?_
  show zF G mX12_moreBy (d + 12) 0 [(0, zR hm), (1, zI f), (2, zI p), (3, zI q)] [] σ _
  have hb := hV.b
  have hn := hV.n
  obtain ⟨⟨f0, f1⟩, ⟨p0, p1⟩, ⟨q0, q1⟩, pq, mp0, mq9⟩ := id ok
  have n140 := zMo_ne hM (j := 14) (k := 0) (by decide) (by decide) (by decide)
  refine zF_aload_n 1 dX12_moreBy_0 rfl rfl ?_
  refine zF_getR 4 dX12_moreBy_1 rfl gX12_9 hM.1 hM.2.1 (zM_0 hM).1 ?_
  refine zF_iload_n 5 dX12_moreBy_4 rfl rfl ?_
  refine zF_iload_n 6 dX12_moreBy_5 rfl rfl ?_
  refine zF_callSi 9 (d2 := (d + 11)) (as := [zI f, zI p]) dX12_moreBy_6 rfl kX12_102 sX12_printsAt (Nat.le_refl _) rfl rfl (Nat.le_of_ble_eq_true rfl) (zt_X12_printsAt) ?_
  refine zF_dup2 10 dX12_moreBy_9 rfl rfl rfl ?_
  refine zF_iaload 11 dX12_moreBy_10 rfl (zM_0 hM).2.2 (zM_0 hM).2.1 (by omega) (by omega) (congrFun hN _) ?_
  refine zF_iconst 12 dX12_moreBy_11 rfl ?_
  refine zF_isub 13 dX12_moreBy_12 rfl ?_
  refine zF_iastore 14 dX12_moreBy_13 rfl (zM_0 hM).2.2 (zM_0 hM).2.1 (by omega) (by omega) ?_
  refine zF_aload_n 15 dX12_moreBy_14 rfl rfl ?_
  refine zF_getR 18 dX12_moreBy_15 rfl gX12_9 hM.1 hM.2.1 (zM_0 hM).1 ?_
  refine zF_iload_n 19 dX12_moreBy_18 rfl rfl ?_
  refine zF_iload_n 20 dX12_moreBy_19 rfl rfl ?_
  refine zF_callSi 23 (d2 := (d + 11)) (as := [zI f, zI q]) dX12_moreBy_20 rfl kX12_102 sX12_printsAt (Nat.le_refl _) rfl rfl (Nat.le_of_ble_eq_true rfl) (zt_X12_printsAt) ?_
  refine zF_dup2 24 dX12_moreBy_23 rfl rfl rfl ?_
  refine zF_iaload 25 dX12_moreBy_24 rfl (zM_0 hM).2.2 (zM_0 hM).2.1 (by omega) (by omega) (congrFun (mSet_mem hN) _) ?_
  refine zF_iconst 26 dX12_moreBy_25 rfl ?_
  refine zF_iadd 27 dX12_moreBy_26 rfl ?_
  refine zF_iastore 28 dX12_moreBy_27 rfl (zM_0 hM).2.2 (zM_0 hM).2.1 (by omega) (by omega) ?_
  have hNp : zia (zsi (zsi σ (A 0) (154 + 5 * f + p + 1) ((N (154 + 5 * f + p + 1)) - 1)) (A 0) (154 + 5 * f + q + 1) (((mSet N (154 + 5 * f + p + 1) ((N (154 + 5 * f + p + 1)) - 1)) (154 + 5 * f + q + 1)) + 1)) (A 0) = mPr2 N f p q := (mSet_mem (mSet_mem hN)).trans (mPr2_eq ok.2.2.2.1 rfl rfl)
  refine zF_iload_n 29 dX12_moreBy_28 rfl rfl ?_
  refine zF_iconst 30 dX12_moreBy_29 rfl ?_
  refine zF_icmp_ne 37 33 dX12_moreBy_30 rfl rfl (by first | decide | assumption | exact hb _ | exact mSh_rg hb _ _ | exact zb_rg _ | (constructor <;> omega)) (by first | decide | assumption | exact hb _ | exact mSh_rg hb _ _ | exact zb_rg _ | (constructor <;> omega)) (fun c1 => ?_) (fun c1 => ?_)
  · have q15p := h15 p (by omega) (by omega)
    refine zF_aload_n 38 dX12_moreBy_37 rfl rfl ?_
    refine zF_iload_n 39 dX12_moreBy_38 rfl rfl ?_
    refine zF_callV 42 (d2 := (d + 11)) (as := [zI p]) dX12_moreBy_39 rfl kX12_231 iX12_gainIn (ci := 12) rfl eX12_gainIn (Nat.le_refl _) hM.1 hM.2.1 rfl rfl (Nat.le_of_ble_eq_true rfl) (zE.mono (zt_gainP (σ := (zsi (zsi σ (A 0) (154 + 5 * f + p + 1) ((N (154 + 5 * f + p + 1)) - 1)) (A 0) (154 + 5 * f + q + 1) (((mSet N (154 + 5 * f + p + 1) ((N (154 + 5 * f + p + 1)) - 1)) (154 + 5 * f + q + 1)) + 1))) (f := f) (p := p) (q := q) hM hNp hV hQ ok (by assumption)) fun ro σa1 hh1 => ?_)
    obtain ⟨er1, fr1, p1⟩ := hh1
    subst er1
    refine ⟨fr1.1, ?_⟩
    show zF G mX12_moreBy (d + 12) 42 [(0, zR hm), (1, zI f), (2, zI p), (3, zI q)] [zI (bG N p (limD N p f (-1)))] σa1 _
    have hMa1 := zMo_f2 fr1 hM
    have hNa1 : zia σa1 (A 0) = (mPr2 N f p q) := mLb_N (σ := (zsi (zsi σ (A 0) (154 + 5 * f + p + 1) ((N (154 + 5 * f + p + 1)) - 1)) (A 0) (154 + 5 * f + q + 1) (((mSet N (154 + 5 * f + p + 1) ((N (154 + 5 * f + p + 1)) - 1)) (154 + 5 * f + q + 1)) + 1))) hM hNp fr1
    refine zF_aload_n 43 dX12_moreBy_42 rfl rfl ?_
    refine zF_getR 46 dX12_moreBy_43 rfl gX12_38 hMa1.1 hMa1.2.1 (zM_14 hMa1).1 ?_
    refine zF_iload_n 47 dX12_moreBy_46 rfl rfl ?_
    refine zF_iaload 48 dX12_moreBy_47 rfl (zM_14 hMa1).2.2 (zM_14 hMa1).2.1 (by omega) (by omega) ((congrFun ((fr1.at fun _ => mLb_no hM (by decide) (by decide) (by decide) (by decide)).trans (zsi_at n140 (zsi_at n140 rfl))) _).trans (h14 p (by omega) (by omega))) ?_
    refine zF_isub 49 dX12_moreBy_48 rfl ?_
    refine zF_istore 51 (ls' := [(4, zI ((bG N p (limD N p f (-1))) - (bG N p (lmP N p)))), (0, zR hm), (1, zI f), (2, zI p), (3, zI q)]) dX12_moreBy_49 rfl (by decide) rfl ?_
    refine zF_iload 53 dX12_moreBy_51 rfl rfl ?_
    refine zF_iload_n 54 dX12_moreBy_53 rfl rfl ?_
    refine zF_iconst 55 dX12_moreBy_54 rfl ?_
    refine zF_icmp_ne 62 58 dX12_moreBy_55 rfl rfl (by first | decide | assumption | exact hb _ | exact mSh_rg hb _ _ | exact zb_rg _ | (constructor <;> omega)) (by first | decide | assumption | exact hb _ | exact mSh_rg hb _ _ | exact zb_rg _ | (constructor <;> omega)) (fun c2 => ?_) (fun c2 => ?_)
    · have q15q := h15 q (by omega) (by omega)
      refine zF_aload_n 63 dX12_moreBy_62 rfl rfl ?_
      refine zF_iload_n 64 dX12_moreBy_63 rfl rfl ?_
      refine zF_callV 67 (d2 := (d + 11)) (as := [zI q]) dX12_moreBy_64 rfl kX12_231 iX12_gainIn (ci := 12) rfl eX12_gainIn (Nat.le_refl _) hMa1.1 hMa1.2.1 rfl rfl (Nat.le_of_ble_eq_true rfl) (zE.mono (zt_gainQ (σ := σa1) (f := f) (p := p) (q := q) hMa1 hNa1 hV hQ ok (by assumption)) fun ro σa2 hh2 => ?_)
      obtain ⟨er2, fr2, p2⟩ := hh2
      subst er2
      refine ⟨fr2.1, ?_⟩
      show zF G mX12_moreBy (d + 12) 67 [(4, zI ((bG N p (limD N p f (-1))) - (bG N p (lmP N p)))), (0, zR hm), (1, zI f), (2, zI p), (3, zI q)] [zI (bG N q (limD N q f 1)), zI ((bG N p (limD N p f (-1))) - (bG N p (lmP N p)))] σa2 _
      have hMa2 := zMo_f2 fr2 hMa1
      have hNa2 : zia σa2 (A 0) = (mPr2 N f p q) := mLb_N (σ := σa1) hMa1 hNa1 fr2
      refine zF_aload_n 68 dX12_moreBy_67 rfl rfl ?_
      refine zF_getR 71 dX12_moreBy_68 rfl gX12_38 hMa2.1 hMa2.2.1 (zM_14 hMa2).1 ?_
      refine zF_iload_n 72 dX12_moreBy_71 rfl rfl ?_
      refine zF_iaload 73 dX12_moreBy_72 rfl (zM_14 hMa2).2.2 (zM_14 hMa2).2.1 (by omega) (by omega) ((congrFun ((fr2.at fun _ => mLb_no hM (by decide) (by decide) (by decide) (by decide)).trans ((fr1.at fun _ => mLb_no hM (by decide) (by decide) (by decide) (by decide)).trans (zsi_at n140 (zsi_at n140 rfl)))) _).trans (h14 q (by omega) (by omega))) ?_
      refine zF_isub 74 dX12_moreBy_73 rfl ?_
      refine zF_iadd 75 dX12_moreBy_74 rfl ?_
      refine zF_istore 77 (ls' := [(4, zI (((bG N p (limD N p f (-1))) - (bG N p (lmP N p))) + ((bG N q (limD N q f 1)) - (bG N q (lmP N q))))), (0, zR hm), (1, zI f), (2, zI p), (3, zI q)]) dX12_moreBy_75 rfl (by decide) rfl ?_
      refine zF_aload_n 78 dX12_moreBy_77 rfl rfl ?_
      refine zF_getR 81 dX12_moreBy_78 rfl gX12_9 hMa2.1 hMa2.2.1 (zM_0 hMa2).1 ?_
      refine zF_iload_n 82 dX12_moreBy_81 rfl rfl ?_
      refine zF_iload_n 83 dX12_moreBy_82 rfl rfl ?_
      refine zF_callSi 86 (d2 := (d + 11)) (as := [zI f, zI p]) dX12_moreBy_83 rfl kX12_102 sX12_printsAt (Nat.le_refl _) rfl rfl (Nat.le_of_ble_eq_true rfl) (zt_X12_printsAt) ?_
      refine zF_dup2 87 dX12_moreBy_86 rfl rfl rfl ?_
      refine zF_iaload 88 dX12_moreBy_87 rfl (zM_0 hMa2).2.2 (zM_0 hMa2).2.1 (by omega) (by omega) (congrFun hNa2 _) ?_
      refine zF_iconst 89 dX12_moreBy_88 rfl ?_
      refine zF_iadd 90 dX12_moreBy_89 rfl ?_
      refine zF_iastore 91 dX12_moreBy_90 rfl (zM_0 hMa2).2.2 (zM_0 hMa2).2.1 (by omega) (by omega) ?_
      refine zF_aload_n 92 dX12_moreBy_91 rfl rfl ?_
      refine zF_getR 95 dX12_moreBy_92 rfl gX12_9 hMa2.1 hMa2.2.1 (zM_0 hMa2).1 ?_
      refine zF_iload_n 96 dX12_moreBy_95 rfl rfl ?_
      refine zF_iload_n 97 dX12_moreBy_96 rfl rfl ?_
      refine zF_callSi 100 (d2 := (d + 11)) (as := [zI f, zI q]) dX12_moreBy_97 rfl kX12_102 sX12_printsAt (Nat.le_refl _) rfl rfl (Nat.le_of_ble_eq_true rfl) (zt_X12_printsAt) ?_
      refine zF_dup2 101 dX12_moreBy_100 rfl rfl rfl ?_
      refine zF_iaload 102 dX12_moreBy_101 rfl (zM_0 hMa2).2.2 (zM_0 hMa2).2.1 (by omega) (by omega) (congrFun (mSet_mem hNa2) _) ?_
      refine zF_iconst 103 dX12_moreBy_102 rfl ?_
      refine zF_isub 104 dX12_moreBy_103 rfl ?_
      refine zF_iastore 105 dX12_moreBy_104 rfl (zM_0 hMa2).2.2 (zM_0 hMa2).2.1 (by omega) (by omega) ?_
      have hNz : zia (zsi (zsi σa2 (A 0) (154 + 5 * f + p + 1) (((mPr2 N f p q) (154 + 5 * f + p + 1)) + 1)) (A 0) (154 + 5 * f + q + 1) (((mSet (mPr2 N f p q) (154 + 5 * f + p + 1) (((mPr2 N f p q) (154 + 5 * f + p + 1)) + 1)) (154 + 5 * f + q + 1)) - 1)) (A 0) = N := (mSet_mem (mSet_mem hNa2)).trans (mPr2_back ok.2.2.2.1 rfl rfl)
      have frz : zFr (fun y j => y = A 0 ∨ mLb hm A y j) σ (zsi (zsi σa2 (A 0) (154 + 5 * f + p + 1) (((mPr2 N f p q) (154 + 5 * f + p + 1)) + 1)) (A 0) (154 + 5 * f + q + 1) (((mSet (mPr2 N f p q) (154 + 5 * f + p + 1) (((mPr2 N f p q) (154 + 5 * f + p + 1)) + 1)) (154 + 5 * f + q + 1)) - 1)) := zFr_si (Or.inl rfl) (zFr_si (Or.inl rfl) (((zFr_si (Or.inl rfl) (zFr_si (Or.inl rfl) zFr.rf)).tr (fr1.wk fun _ _ q => Or.inr q)).tr (fr2.wk fun _ _ q => Or.inr q)))
      refine zF_iload 107 dX12_moreBy_105 rfl rfl ?_
      exact zF_ireturn dX12_moreBy_107 rfl ((by have em : mbV N f p q = (((bG N p (limD N p f (-1))) - (bG N p (lmP N p))) + ((bG N q (limD N q f 1)) - (bG N q (lmP N q)))) := (by unfold mbV; (repeat (first | rw [if_pos (by assumption)] | rw [if_neg (by assumption)] | rw [if_pos (by omega)] | rw [if_neg (by omega)]))); rw [em]; exact ⟨rfl, mLb_cl hN hNz frz, by omega⟩))
    · refine zF_iconst 59 dX12_moreBy_58 rfl ?_
      refine zF_goto 74 dX12_moreBy_59 rfl ?_
      refine zF_iadd 75 dX12_moreBy_74 rfl ?_
      refine zF_istore 77 (ls' := [(4, zI (((bG N p (limD N p f (-1))) - (bG N p (lmP N p))) + 0)), (0, zR hm), (1, zI f), (2, zI p), (3, zI q)]) dX12_moreBy_75 rfl (by decide) rfl ?_
      refine zF_aload_n 78 dX12_moreBy_77 rfl rfl ?_
      refine zF_getR 81 dX12_moreBy_78 rfl gX12_9 hMa1.1 hMa1.2.1 (zM_0 hMa1).1 ?_
      refine zF_iload_n 82 dX12_moreBy_81 rfl rfl ?_
      refine zF_iload_n 83 dX12_moreBy_82 rfl rfl ?_
      refine zF_callSi 86 (d2 := (d + 11)) (as := [zI f, zI p]) dX12_moreBy_83 rfl kX12_102 sX12_printsAt (Nat.le_refl _) rfl rfl (Nat.le_of_ble_eq_true rfl) (zt_X12_printsAt) ?_
      refine zF_dup2 87 dX12_moreBy_86 rfl rfl rfl ?_
      refine zF_iaload 88 dX12_moreBy_87 rfl (zM_0 hMa1).2.2 (zM_0 hMa1).2.1 (by omega) (by omega) (congrFun hNa1 _) ?_
      refine zF_iconst 89 dX12_moreBy_88 rfl ?_
      refine zF_iadd 90 dX12_moreBy_89 rfl ?_
      refine zF_iastore 91 dX12_moreBy_90 rfl (zM_0 hMa1).2.2 (zM_0 hMa1).2.1 (by omega) (by omega) ?_
      refine zF_aload_n 92 dX12_moreBy_91 rfl rfl ?_
      refine zF_getR 95 dX12_moreBy_92 rfl gX12_9 hMa1.1 hMa1.2.1 (zM_0 hMa1).1 ?_
      refine zF_iload_n 96 dX12_moreBy_95 rfl rfl ?_
      refine zF_iload_n 97 dX12_moreBy_96 rfl rfl ?_
      refine zF_callSi 100 (d2 := (d + 11)) (as := [zI f, zI q]) dX12_moreBy_97 rfl kX12_102 sX12_printsAt (Nat.le_refl _) rfl rfl (Nat.le_of_ble_eq_true rfl) (zt_X12_printsAt) ?_
      refine zF_dup2 101 dX12_moreBy_100 rfl rfl rfl ?_
      refine zF_iaload 102 dX12_moreBy_101 rfl (zM_0 hMa1).2.2 (zM_0 hMa1).2.1 (by omega) (by omega) (congrFun (mSet_mem hNa1) _) ?_
      refine zF_iconst 103 dX12_moreBy_102 rfl ?_
      refine zF_isub 104 dX12_moreBy_103 rfl ?_
      refine zF_iastore 105 dX12_moreBy_104 rfl (zM_0 hMa1).2.2 (zM_0 hMa1).2.1 (by omega) (by omega) ?_
      have hNz : zia (zsi (zsi σa1 (A 0) (154 + 5 * f + p + 1) (((mPr2 N f p q) (154 + 5 * f + p + 1)) + 1)) (A 0) (154 + 5 * f + q + 1) (((mSet (mPr2 N f p q) (154 + 5 * f + p + 1) (((mPr2 N f p q) (154 + 5 * f + p + 1)) + 1)) (154 + 5 * f + q + 1)) - 1)) (A 0) = N := (mSet_mem (mSet_mem hNa1)).trans (mPr2_back ok.2.2.2.1 rfl rfl)
      have frz : zFr (fun y j => y = A 0 ∨ mLb hm A y j) σ (zsi (zsi σa1 (A 0) (154 + 5 * f + p + 1) (((mPr2 N f p q) (154 + 5 * f + p + 1)) + 1)) (A 0) (154 + 5 * f + q + 1) (((mSet (mPr2 N f p q) (154 + 5 * f + p + 1) (((mPr2 N f p q) (154 + 5 * f + p + 1)) + 1)) (154 + 5 * f + q + 1)) - 1)) := zFr_si (Or.inl rfl) (zFr_si (Or.inl rfl) ((zFr_si (Or.inl rfl) (zFr_si (Or.inl rfl) zFr.rf)).tr (fr1.wk fun _ _ q => Or.inr q)))
      refine zF_iload 107 dX12_moreBy_105 rfl rfl ?_
      exact zF_ireturn dX12_moreBy_107 rfl ((by have em : mbV N f p q = (((bG N p (limD N p f (-1))) - (bG N p (lmP N p))) + 0) := (by unfold mbV; (repeat (first | rw [if_pos (by assumption)] | rw [if_neg (by assumption)] | rw [if_pos (by omega)] | rw [if_neg (by omega)]))); rw [em]; exact ⟨rfl, mLb_cl hN hNz frz, by omega⟩))
  · refine zF_iconst 34 dX12_moreBy_33 rfl ?_
    refine zF_goto 49 dX12_moreBy_34 rfl ?_
    refine zF_istore 51 (ls' := [(4, zI 0), (0, zR hm), (1, zI f), (2, zI p), (3, zI q)]) dX12_moreBy_49 rfl (by decide) rfl ?_
    refine zF_iload 53 dX12_moreBy_51 rfl rfl ?_
    refine zF_iload_n 54 dX12_moreBy_53 rfl rfl ?_
    refine zF_iconst 55 dX12_moreBy_54 rfl ?_
    refine zF_icmp_ne 62 58 dX12_moreBy_55 rfl rfl (by first | decide | assumption | exact hb _ | exact mSh_rg hb _ _ | exact zb_rg _ | (constructor <;> omega)) (by first | decide | assumption | exact hb _ | exact mSh_rg hb _ _ | exact zb_rg _ | (constructor <;> omega)) (fun c3 => ?_) (fun c3 => ?_)
    · have q15q := h15 q (by omega) (by omega)
      refine zF_aload_n 63 dX12_moreBy_62 rfl rfl ?_
      refine zF_iload_n 64 dX12_moreBy_63 rfl rfl ?_
      refine zF_callV 67 (d2 := (d + 11)) (as := [zI q]) dX12_moreBy_64 rfl kX12_231 iX12_gainIn (ci := 12) rfl eX12_gainIn (Nat.le_refl _) hM.1 hM.2.1 rfl rfl (Nat.le_of_ble_eq_true rfl) (zE.mono (zt_gainQ (σ := (zsi (zsi σ (A 0) (154 + 5 * f + p + 1) ((N (154 + 5 * f + p + 1)) - 1)) (A 0) (154 + 5 * f + q + 1) (((mSet N (154 + 5 * f + p + 1) ((N (154 + 5 * f + p + 1)) - 1)) (154 + 5 * f + q + 1)) + 1))) (f := f) (p := p) (q := q) hM hNp hV hQ ok (by assumption)) fun ro σa3 hh3 => ?_)
      obtain ⟨er3, fr3, p3⟩ := hh3
      subst er3
      refine ⟨fr3.1, ?_⟩
      show zF G mX12_moreBy (d + 12) 67 [(4, zI 0), (0, zR hm), (1, zI f), (2, zI p), (3, zI q)] [zI (bG N q (limD N q f 1)), zI 0] σa3 _
      have hMa3 := zMo_f2 fr3 hM
      have hNa3 : zia σa3 (A 0) = (mPr2 N f p q) := mLb_N (σ := (zsi (zsi σ (A 0) (154 + 5 * f + p + 1) ((N (154 + 5 * f + p + 1)) - 1)) (A 0) (154 + 5 * f + q + 1) (((mSet N (154 + 5 * f + p + 1) ((N (154 + 5 * f + p + 1)) - 1)) (154 + 5 * f + q + 1)) + 1))) hM hNp fr3
      refine zF_aload_n 68 dX12_moreBy_67 rfl rfl ?_
      refine zF_getR 71 dX12_moreBy_68 rfl gX12_38 hMa3.1 hMa3.2.1 (zM_14 hMa3).1 ?_
      refine zF_iload_n 72 dX12_moreBy_71 rfl rfl ?_
      refine zF_iaload 73 dX12_moreBy_72 rfl (zM_14 hMa3).2.2 (zM_14 hMa3).2.1 (by omega) (by omega) ((congrFun ((fr3.at fun _ => mLb_no hM (by decide) (by decide) (by decide) (by decide)).trans (zsi_at n140 (zsi_at n140 rfl))) _).trans (h14 q (by omega) (by omega))) ?_
      refine zF_isub 74 dX12_moreBy_73 rfl ?_
      refine zF_iadd 75 dX12_moreBy_74 rfl ?_
      refine zF_istore 77 (ls' := [(4, zI (0 + ((bG N q (limD N q f 1)) - (bG N q (lmP N q))))), (0, zR hm), (1, zI f), (2, zI p), (3, zI q)]) dX12_moreBy_75 rfl (by decide) rfl ?_
      refine zF_aload_n 78 dX12_moreBy_77 rfl rfl ?_
      refine zF_getR 81 dX12_moreBy_78 rfl gX12_9 hMa3.1 hMa3.2.1 (zM_0 hMa3).1 ?_
      refine zF_iload_n 82 dX12_moreBy_81 rfl rfl ?_
      refine zF_iload_n 83 dX12_moreBy_82 rfl rfl ?_
      refine zF_callSi 86 (d2 := (d + 11)) (as := [zI f, zI p]) dX12_moreBy_83 rfl kX12_102 sX12_printsAt (Nat.le_refl _) rfl rfl (Nat.le_of_ble_eq_true rfl) (zt_X12_printsAt) ?_
      refine zF_dup2 87 dX12_moreBy_86 rfl rfl rfl ?_
      refine zF_iaload 88 dX12_moreBy_87 rfl (zM_0 hMa3).2.2 (zM_0 hMa3).2.1 (by omega) (by omega) (congrFun hNa3 _) ?_
      refine zF_iconst 89 dX12_moreBy_88 rfl ?_
      refine zF_iadd 90 dX12_moreBy_89 rfl ?_
      refine zF_iastore 91 dX12_moreBy_90 rfl (zM_0 hMa3).2.2 (zM_0 hMa3).2.1 (by omega) (by omega) ?_
      refine zF_aload_n 92 dX12_moreBy_91 rfl rfl ?_
      refine zF_getR 95 dX12_moreBy_92 rfl gX12_9 hMa3.1 hMa3.2.1 (zM_0 hMa3).1 ?_
      refine zF_iload_n 96 dX12_moreBy_95 rfl rfl ?_
      refine zF_iload_n 97 dX12_moreBy_96 rfl rfl ?_
      refine zF_callSi 100 (d2 := (d + 11)) (as := [zI f, zI q]) dX12_moreBy_97 rfl kX12_102 sX12_printsAt (Nat.le_refl _) rfl rfl (Nat.le_of_ble_eq_true rfl) (zt_X12_printsAt) ?_
      refine zF_dup2 101 dX12_moreBy_100 rfl rfl rfl ?_
      refine zF_iaload 102 dX12_moreBy_101 rfl (zM_0 hMa3).2.2 (zM_0 hMa3).2.1 (by omega) (by omega) (congrFun (mSet_mem hNa3) _) ?_
      refine zF_iconst 103 dX12_moreBy_102 rfl ?_
      refine zF_isub 104 dX12_moreBy_103 rfl ?_
      refine zF_iastore 105 dX12_moreBy_104 rfl (zM_0 hMa3).2.2 (zM_0 hMa3).2.1 (by omega) (by omega) ?_
      have hNz : zia (zsi (zsi σa3 (A 0) (154 + 5 * f + p + 1) (((mPr2 N f p q) (154 + 5 * f + p + 1)) + 1)) (A 0) (154 + 5 * f + q + 1) (((mSet (mPr2 N f p q) (154 + 5 * f + p + 1) (((mPr2 N f p q) (154 + 5 * f + p + 1)) + 1)) (154 + 5 * f + q + 1)) - 1)) (A 0) = N := (mSet_mem (mSet_mem hNa3)).trans (mPr2_back ok.2.2.2.1 rfl rfl)
      have frz : zFr (fun y j => y = A 0 ∨ mLb hm A y j) σ (zsi (zsi σa3 (A 0) (154 + 5 * f + p + 1) (((mPr2 N f p q) (154 + 5 * f + p + 1)) + 1)) (A 0) (154 + 5 * f + q + 1) (((mSet (mPr2 N f p q) (154 + 5 * f + p + 1) (((mPr2 N f p q) (154 + 5 * f + p + 1)) + 1)) (154 + 5 * f + q + 1)) - 1)) := zFr_si (Or.inl rfl) (zFr_si (Or.inl rfl) ((zFr_si (Or.inl rfl) (zFr_si (Or.inl rfl) zFr.rf)).tr (fr3.wk fun _ _ q => Or.inr q)))
      refine zF_iload 107 dX12_moreBy_105 rfl rfl ?_
      exact zF_ireturn dX12_moreBy_107 rfl ((by have em : mbV N f p q = (0 + ((bG N q (limD N q f 1)) - (bG N q (lmP N q)))) := (by unfold mbV; (repeat (first | rw [if_pos (by assumption)] | rw [if_neg (by assumption)] | rw [if_pos (by omega)] | rw [if_neg (by omega)]))); rw [em]; exact ⟨rfl, mLb_cl hN hNz frz, by omega⟩))
    · refine zF_iconst 59 dX12_moreBy_58 rfl ?_
      refine zF_goto 74 dX12_moreBy_59 rfl ?_
      refine zF_iadd 75 dX12_moreBy_74 rfl ?_
      refine zF_istore 77 (ls' := [(4, zI (0 + 0)), (0, zR hm), (1, zI f), (2, zI p), (3, zI q)]) dX12_moreBy_75 rfl (by decide) rfl ?_
      refine zF_aload_n 78 dX12_moreBy_77 rfl rfl ?_
      refine zF_getR 81 dX12_moreBy_78 rfl gX12_9 hM.1 hM.2.1 (zM_0 hM).1 ?_
      refine zF_iload_n 82 dX12_moreBy_81 rfl rfl ?_
      refine zF_iload_n 83 dX12_moreBy_82 rfl rfl ?_
      refine zF_callSi 86 (d2 := (d + 11)) (as := [zI f, zI p]) dX12_moreBy_83 rfl kX12_102 sX12_printsAt (Nat.le_refl _) rfl rfl (Nat.le_of_ble_eq_true rfl) (zt_X12_printsAt) ?_
      refine zF_dup2 87 dX12_moreBy_86 rfl rfl rfl ?_
      refine zF_iaload 88 dX12_moreBy_87 rfl (zM_0 hM).2.2 (zM_0 hM).2.1 (by omega) (by omega) (congrFun hNp _) ?_
      refine zF_iconst 89 dX12_moreBy_88 rfl ?_
      refine zF_iadd 90 dX12_moreBy_89 rfl ?_
      refine zF_iastore 91 dX12_moreBy_90 rfl (zM_0 hM).2.2 (zM_0 hM).2.1 (by omega) (by omega) ?_
      refine zF_aload_n 92 dX12_moreBy_91 rfl rfl ?_
      refine zF_getR 95 dX12_moreBy_92 rfl gX12_9 hM.1 hM.2.1 (zM_0 hM).1 ?_
      refine zF_iload_n 96 dX12_moreBy_95 rfl rfl ?_
      refine zF_iload_n 97 dX12_moreBy_96 rfl rfl ?_
      refine zF_callSi 100 (d2 := (d + 11)) (as := [zI f, zI q]) dX12_moreBy_97 rfl kX12_102 sX12_printsAt (Nat.le_refl _) rfl rfl (Nat.le_of_ble_eq_true rfl) (zt_X12_printsAt) ?_
      refine zF_dup2 101 dX12_moreBy_100 rfl rfl rfl ?_
      refine zF_iaload 102 dX12_moreBy_101 rfl (zM_0 hM).2.2 (zM_0 hM).2.1 (by omega) (by omega) (congrFun (mSet_mem hNp) _) ?_
      refine zF_iconst 103 dX12_moreBy_102 rfl ?_
      refine zF_isub 104 dX12_moreBy_103 rfl ?_
      refine zF_iastore 105 dX12_moreBy_104 rfl (zM_0 hM).2.2 (zM_0 hM).2.1 (by omega) (by omega) ?_
      have hNz : zia (zsi (zsi (zsi (zsi σ (A 0) (154 + 5 * f + p + 1) ((N (154 + 5 * f + p + 1)) - 1)) (A 0) (154 + 5 * f + q + 1) (((mSet N (154 + 5 * f + p + 1) ((N (154 + 5 * f + p + 1)) - 1)) (154 + 5 * f + q + 1)) + 1)) (A 0) (154 + 5 * f + p + 1) (((mPr2 N f p q) (154 + 5 * f + p + 1)) + 1)) (A 0) (154 + 5 * f + q + 1) (((mSet (mPr2 N f p q) (154 + 5 * f + p + 1) (((mPr2 N f p q) (154 + 5 * f + p + 1)) + 1)) (154 + 5 * f + q + 1)) - 1)) (A 0) = N := absurd (show p = q by omega) pq
      have frz : zFr (fun y j => y = A 0 ∨ mLb hm A y j) σ (zsi (zsi (zsi (zsi σ (A 0) (154 + 5 * f + p + 1) ((N (154 + 5 * f + p + 1)) - 1)) (A 0) (154 + 5 * f + q + 1) (((mSet N (154 + 5 * f + p + 1) ((N (154 + 5 * f + p + 1)) - 1)) (154 + 5 * f + q + 1)) + 1)) (A 0) (154 + 5 * f + p + 1) (((mPr2 N f p q) (154 + 5 * f + p + 1)) + 1)) (A 0) (154 + 5 * f + q + 1) (((mSet (mPr2 N f p q) (154 + 5 * f + p + 1) (((mPr2 N f p q) (154 + 5 * f + p + 1)) + 1)) (154 + 5 * f + q + 1)) - 1)) := absurd (show p = q by omega) pq
      refine zF_iload 107 dX12_moreBy_105 rfl rfl ?_
      exact zF_ireturn dX12_moreBy_107 rfl ((by have em : mbV N f p q = (0 + 0) := (by unfold mbV; (repeat (first | rw [if_pos (by assumption)] | rw [if_neg (by assumption)] | rw [if_pos (by omega)] | rw [if_neg (by omega)]))); rw [em]; exact ⟨rfl, mLb_cl hN hNz frz, by omega⟩))
end ZQ6

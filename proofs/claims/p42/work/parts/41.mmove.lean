/-! the reference: moves of prints weighed -/
section ZQ6
variable {G : zG} {d : Nat} {σ : zMem} {hm : Nat} {A : Nat → Nat} {N : Int → Int}
def mPr2 (N : Int → Int) (f p q : Int) : Int → Int := mSet (mSet N (154 + 5 * f + p + 1) (mP N f p - 1)) (154 + 5 * f + q + 1) (mP N f q + 1)
theorem mPr2_o {f p q : Int} (f0 : 0 ≤ f) (f1 : f < 6) (p0 : -1 ≤ p) (p1 : p < 4) (q0 : -1 ≤ q) (q1 : q < 4) : pE N (mPr2 N f p q) := fun j hj => by
  unfold mPr2
  rw [mSet_o (by omega), mSet_o (by omega)]
theorem mPr2_p {f p q f2 p2 : Int} (f0 : 0 ≤ f) (p0 : -1 ≤ p) (p1 : p < 4) (q0 : -1 ≤ q) (q1 : q < 4) (pq : p ≠ q) (g0 : 0 ≤ f2) (p20 : -1 ≤ p2) (p21 : p2 < 4) : mP (mPr2 N f p q) f2 p2 = if f2 = f ∧ p2 = q then mP N f q + 1 else if f2 = f ∧ p2 = p then mP N f p - 1 else mP N f2 p2 := by
  show mPr2 N f p q (154 + 5 * f2 + p2 + 1) = _
  unfold mPr2
  by_cases c : f2 = f ∧ p2 = q
  · rw [if_pos c, c.1, c.2, mSet_at]
  · rw [if_neg c, mSet_o (by omega)]
    by_cases c2 : f2 = f ∧ p2 = p
    · rw [if_pos c2, c2.1, c2.2, mSet_at]
    · rw [if_neg c2, mSet_o (by omega)]
      rfl
theorem mPr2_eq {f p q x y : Int} (pq : p ≠ q) (ex : x = mP N f p - 1) (ey : y = mSet N (154 + 5 * f + p + 1) x (154 + 5 * f + q + 1) + 1) : mSet (mSet N (154 + 5 * f + p + 1) x) (154 + 5 * f + q + 1) y = mPr2 N f p q := by
  rw [mSet_o (by omega)] at ey
  subst ex
  subst ey
  rfl
theorem mPr2_back {f p q x y : Int} (pq : p ≠ q) (ex : x = mPr2 N f p q (154 + 5 * f + p + 1) + 1) (ey : y = mSet (mPr2 N f p q) (154 + 5 * f + p + 1) x (154 + 5 * f + q + 1) - 1) : mSet (mSet (mPr2 N f p q) (154 + 5 * f + p + 1) x) (154 + 5 * f + q + 1) y = N := by
  have e1 : mPr2 N f p q (154 + 5 * f + p + 1) = mP N f p - 1 := by unfold mPr2; rw [mSet_o (by omega), mSet_at]
  have e2 : mPr2 N f p q (154 + 5 * f + q + 1) = mP N f q + 1 := by unfold mPr2; rw [mSet_at]
  rw [mSet_o (by omega), e2] at ey
  rw [e1] at ex
  subst ex
  subst ey
  funext j
  by_cases c : j = 154 + 5 * f + q + 1
  · rw [c, mSet_at]
    unfold mP
    omega
  · rw [mSet_o c]
    by_cases c2 : j = 154 + 5 * f + p + 1
    · rw [c2, mSet_at]
      unfold mP
      omega
    · rw [mSet_o c2]
      unfold mPr2
      rw [mSet_o c, mSet_o c2]
theorem mV_pE {N' : Int → Int} (hV : mV N) (o : pE N N') (rp : ∀ f p, 0 ≤ f → f < 6 → -1 ≤ p → p < 4 → 0 ≤ mP N' f p ∧ mP N' f p ≤ 9) : mV N' := by
  have i : ∀ j, j < 154 ∨ 184 ≤ j → N' j = N j := fun j hj => o j (by omega)
  have sS : ∀ s k : Int, s < 10 → 0 ≤ k → k < 8 → mS N' s k = mS N s k := fun s k s1 k0 k1 => i _ (by omega)
  have fF : ∀ f k : Int, f < 6 → 0 ≤ k → k < 10 → mF N' f k = mF N f k := fun f k f1 k0 k1 => i _ (by omega)
  refine ⟨?_, fun j => ?_, fun s s0 s1 => ?_, fun f f0 f1 => ?_, fun f k f0 f1 k0 k1 => ?_, fun h h0 h1 => ?_, fun h f h0 h1 f0 f1 => ?_, rp⟩
  · rw [i 0 (by omega), i 1 (by omega), i 2 (by omega), i 3 (by omega)]; exact hV.n
  · by_cases c : 154 ≤ j ∧ j < 184
    · have := rp ((j - 154) / 5) ((j - 154) % 5 - 1) (by omega) (by omega) (by omega) (by omega)
      unfold mP at this
      rw [show 154 + 5 * ((j - 154) / 5) + ((j - 154) % 5 - 1) + 1 = j by omega] at this
      constructor <;> omega
    · rw [o j c]; exact hV.b j
  · rw [sS s 0 s1 (by omega) (by omega), sS s 1 s1 (by omega) (by omega), sS s 2 s1 (by omega) (by omega), sS s 3 s1 (by omega) (by omega), sS s 4 s1 (by omega) (by omega), sS s 5 s1 (by omega) (by omega), sS s 6 s1 (by omega) (by omega), sS s 7 s1 (by omega) (by omega)]
    exact hV.s s s0 s1
  · rw [fF f 0 f1 (by omega) (by omega), fF f 1 f1 (by omega) (by omega), fF f 2 f1 (by omega) (by omega), fF f 3 f1 (by omega) (by omega), fF f 8 f1 (by omega) (by omega), i 2 (by omega), i 3 (by omega)]
    exact hV.f f f0 f1
  · rw [fF f (4 + k) f1 (by omega) (by omega)]; exact hV.t f k f0 f1 k0 k1
  · have e0 : mH N' h 0 = mH N h 0 := i _ (by omega)
    have e1 : mH N' h 1 = mH N h 1 := i _ (by omega)
    rw [e0, e1]; exact hV.h h h0 h1
  · have e : mR N' h f = mR N h f := i _ (by omega)
    rw [e, i 3 (by omega)]; exact hV.r h f h0 h1 f0 f1
theorem mC4_pE {N' : Int → Int} (hV : mV N) (hQ : mC4 N) (o : pE N N') : mC4 N' := fun h => by
  have hs := nS_eq hV
  have eS : nS N' = nS N := by unfold nS; rw [o 1 (by omega)]
  have : mCn N' h (nS N') = mCn N h (nS N) := by
    unfold mCn
    rw [eS]
    refine zsum_congr fun s hs2 => ?_
    have : mS N' s 0 = mS N s 0 := o _ (by omega)
    rw [this]
  rw [this]
  exact hQ h
theorem bG_r (hV : mV N) (hQ : mC4 N) {h : Int} (h0 : 0 ≤ h) (h1 : h < 4) {lim : Int → Int} (x : pMax N h lim (ch0 N h) (bG N h lim)) : -1 ≤ bG N h lim ∧ bG N h lim ≤ 41575842 := by
  obtain ⟨⟨t, t1, t2⟩, _⟩ := x
  rw [← t2]
  exact pG_b hV hQ h0 h1 lim t
/-- what is asked of a move -/
def mvOK (N : Int → Int) (f p q : Int) : Prop := (0 ≤ f ∧ f < N 2) ∧ (-1 ≤ p ∧ p < N 0) ∧ (-1 ≤ q ∧ q < N 0) ∧ p ≠ q ∧ 0 < mP N f p ∧ mP N f q < 9
theorem mvOK_V (hV : mV N) {f p q : Int} (o : mvOK N f p q) : mV (mPr2 N f p q) := by
  have hn := hV.n
  obtain ⟨⟨f0, f1⟩, ⟨p0, p1⟩, ⟨q0, q1⟩, pq, a, b⟩ := o
  refine mV_pE hV (mPr2_o f0 (by omega) p0 (by omega) q0 (by omega)) fun f2 p2 g0 g1 r0 r1 => ?_
  rw [mPr2_p f0 p0 (by omega) q0 (by omega) pq g0 r0 r1]
  have x := hV.p f2 p2 g0 g1 r0 r1
  have y := hV.p f p f0 (by omega) p0 (by omega)
  have z := hV.p f q f0 (by omega) q0 (by omega)
  split
  · omega
  · split <;> omega
theorem bG_from (hV : mV N) (hQ : mC4 N) {f p q : Int} (o : mvOK N f p q) (hp : p ≠ -1) (x : pMax (mPr2 N f p q) p (lmP (mPr2 N f p q) p) (ch0 (mPr2 N f p q) p) (bG (mPr2 N f p q) p (lmP (mPr2 N f p q) p))) : bG (mPr2 N f p q) p (lmP (mPr2 N f p q) p) = bG N p (limD N p f (-1)) ∧ pMax N p (limD N p f (-1)) (ch0 N p) (bG N p (limD N p f (-1))) := by
  have hn := hV.n
  obtain ⟨⟨f0, f1⟩, ⟨p0, p1⟩, ⟨q0, q1⟩, pq, a, b⟩ := o
  have y := pMax_lim (lim' := limD N p f (-1)) hV (fun g g0 g1 => by
    show mP (mPr2 N f p q) g p = if g = f then mP N f p + -1 else mP N g p
    rw [mPr2_p f0 p0 (by omega) q0 (by omega) pq g0 p0 (by omega), if_neg (fun z => pq z.2)]
    by_cases c : g = f
    · rw [if_pos ⟨c, rfl⟩, if_pos c]; omega
    · rw [if_neg (fun z => c z.1), if_neg c]) (pMax_pE hV hQ (mPr2_o f0 (by omega) p0 (by omega) q0 (by omega)) (by omega) (by omega) x)
  have e := bG_eq y
  exact ⟨e, e ▸ y⟩
theorem bG_to (hV : mV N) (hQ : mC4 N) {f p q : Int} (o : mvOK N f p q) (hq : q ≠ -1) (x : pMax (mPr2 N f p q) q (lmP (mPr2 N f p q) q) (ch0 (mPr2 N f p q) q) (bG (mPr2 N f p q) q (lmP (mPr2 N f p q) q))) : bG (mPr2 N f p q) q (lmP (mPr2 N f p q) q) = bG N q (limD N q f 1) ∧ pMax N q (limD N q f 1) (ch0 N q) (bG N q (limD N q f 1)) := by
  have hn := hV.n
  obtain ⟨⟨f0, f1⟩, ⟨p0, p1⟩, ⟨q0, q1⟩, pq, a, b⟩ := o
  have y := pMax_lim (lim' := limD N q f 1) hV (fun g g0 g1 => by
    show mP (mPr2 N f p q) g q = if g = f then mP N f q + 1 else mP N g q
    rw [mPr2_p f0 p0 (by omega) q0 (by omega) pq g0 q0 (by omega)]
    by_cases c : g = f
    · rw [if_pos ⟨c, rfl⟩, if_pos c]
    · rw [if_neg (fun z => c z.1), if_neg (fun z => c z.1), if_neg c]) (pMax_pE hV hQ (mPr2_o f0 (by omega) p0 (by omega) q0 (by omega)) (by omega) (by omega) x)
  have e := bG_eq y
  exact ⟨e, e ▸ y⟩
/-- the best move, by the order of the codes -/
def vT (N : Int → Int) (f p q : Int) : Prop := (0 ≤ f ∧ f < N 2) ∧ (-1 ≤ p ∧ p < N 0) ∧ (-1 ≤ q ∧ q < N 0)
noncomputable def bmM (N : Int → Int) (f p q : Int) : Int := if cmP N f p q then mbV N f p q else 0
def cdM (f p q : Int) : Int := 100 * f + 10 * (p + 1) + q + 1
def bmJ (N : Int → Int) (c found most : Int) : Prop := 0 ≤ most ∧ (∀ f p q, vT N f p q → cdM f p q < c → bmM N f p q ≤ most) ∧ ((most = 0 ∧ found = -1) ∨ (0 < most ∧ ∃ f p q, vT N f p q ∧ cdM f p q < c ∧ bmM N f p q = most ∧ found = cdM f p q ∧ ∀ f' p' q', vT N f' p' q' → cdM f' p' q' < c → bmM N f' p' q' = most → cdM f p q ≤ cdM f' p' q'))
theorem bmJ_0 : bmJ N 0 (-1) 0 := ⟨Int.le_refl _, fun f p q v h => by obtain ⟨a, b, c⟩ := v; unfold cdM at h; omega, Or.inl ⟨rfl, rfl⟩⟩
theorem bmJ_skip {c c' fo mo : Int} (h : bmJ N c fo mo) (hc : c ≤ c') (hs : ∀ f p q, vT N f p q → cdM f p q < c' → cdM f p q < c) : bmJ N c' fo mo := by
  obtain ⟨a, b, e⟩ := h
  refine ⟨a, fun f p q v l => b f p q v (hs f p q v l), ?_⟩
  rcases e with e | ⟨e, f, p, q, v, l, m, g, r⟩
  · exact Or.inl e
  · exact Or.inr ⟨e, f, p, q, v, by omega, m, g, fun f' p' q' v' l' m' => r f' p' q' v' (hs f' p' q' v' l') m'⟩
theorem cdM_inj (hn : N 0 ≤ 4) {f p q f' p' q' : Int} (v : vT N f p q) (v' : vT N f' p' q') (e : cdM f p q = cdM f' p' q') : f = f' ∧ p = p' ∧ q = q' := by
  obtain ⟨a, b, c⟩ := v
  obtain ⟨a', b', c'⟩ := v'
  unfold cdM at e
  omega
theorem bmJ_step (hn : N 0 ≤ 4) {f p q fo mo : Int} (v : vT N f p q) (h : bmJ N (cdM f p q) fo mo) : bmJ N (cdM f p q + 1) (if mo < bmM N f p q then cdM f p q else fo) (max mo (bmM N f p q)) := by
  obtain ⟨a, b, e⟩ := h
  have at_c : ∀ f' p' q', vT N f' p' q' → cdM f' p' q' < cdM f p q + 1 → cdM f' p' q' < cdM f p q ∨ bmM N f' p' q' = bmM N f p q ∧ cdM f' p' q' = cdM f p q := fun f' p' q' v' l => by
    by_cases z : cdM f' p' q' = cdM f p q
    · obtain ⟨r1, r2, r3⟩ := cdM_inj hn v' v z
      subst r1; subst r2; subst r3
      exact Or.inr ⟨rfl, rfl⟩
    · exact Or.inl (by omega)
  refine ⟨by omega, fun f' p' q' v' l => ?_, ?_⟩
  · rcases at_c f' p' q' v' l with z | z
    · have := b f' p' q' v' z; omega
    · omega
  · by_cases g : mo < bmM N f p q
    · rw [if_pos g]
      refine Or.inr ⟨by omega, f, p, q, v, by omega, by omega, rfl, fun f' p' q' v' l m => ?_⟩
      rcases at_c f' p' q' v' l with z | z
      · have := b f' p' q' v' z; omega
      · omega
    · rw [if_neg g]
      rcases e with ⟨e1, e2⟩ | ⟨e1, f2, p2, q2, v2, l2, m2, g2, r2⟩
      · exact Or.inl ⟨by omega, e2⟩
      · refine Or.inr ⟨by omega, f2, p2, q2, v2, by omega, by omega, g2, fun f' p' q' v' l m => ?_⟩
        rcases at_c f' p' q' v' l with z | z
        · exact r2 f' p' q' v' z (by omega)
        · omega
noncomputable def bmV (N : Int → Int) : Int := Classical.epsilon (fun a => ∃ m, bmJ N 600 a m)
theorem bmJ_u {c a b m n : Int} (x : bmJ N c a m) (y : bmJ N c b n) : a = b := by
  obtain ⟨x1, x2, x3⟩ := x
  obtain ⟨y1, y2, y3⟩ := y
  rcases x3 with ⟨p, q⟩ | ⟨p, f, r, s, v, l, e, g, h⟩
  · rcases y3 with ⟨p', q'⟩ | ⟨p', f', r', s', v', l', e', g', h'⟩
    · omega
    · have := x2 f' r' s' v' l'; omega
  · rcases y3 with ⟨p', q'⟩ | ⟨p', f', r', s', v', l', e', g', h'⟩
    · have := y2 f r s v l; omega
    · have a1 := y2 f r s v l
      have a2 := x2 f' r' s' v' l'
      have b1 := h f' r' s' v' l' (by omega)
      have b2 := h' f r s v l (by omega)
      omega
theorem bmJ_V {a m : Int} (x : bmJ N 600 a m) : a = bmV N := by
  have s : ∃ n, bmJ N 600 (bmV N) n := Classical.epsilon_spec (p := fun a => ∃ m, bmJ N 600 a m) ⟨a, m, x⟩
  obtain ⟨n, y⟩ := s
  exact bmJ_u x y
end ZQ6

/-! the reference: best gain, best film, best move, program -/
section ZQ7
variable {G : zG} {d : Nat} {σ : zMem} {hm : Nat} {A : Nat → Nat} {N : Int → Int}
noncomputable def bfV (N : Int → Int) (s : Int) : Int := bF N (mS N s 0) (lmP N (mS N s 0)) (mCn N (mS N s 0) s.toNat)
/-- a house's program booked, place by place -/
def prN (N : Int → Int) (h : Int) (b : Int → Int) : Nat → Int → Int
  | 0 => N
  | k + 1 => mBook (prN N h b k) (rk N h k) (b k) (-1) 0 (mS N (rk N h k) 7)
def prC (N : Int → Int) (h : Int) (b : Int → Int) (n : Nat) : Int := zsum (fun k => zb (mS N (rk N h k) 4 ≠ b k ∨ mS N (rk N h k) 5 ≠ -1)) n
noncomputable def oPrV (N : Int → Int) (h : Int) : Int := prC N h (bF N h (lmP N h)) (nn N h)
noncomputable def oPrS (S : zS) (h : Int) : zS := sRec S (prN S.1 h (bF S.1 h (lmP S.1 h)) (nn S.1 h))
theorem rk_ne (N : Int → Int) (h : Int) {i k : Nat} (hi : i < nn N h) (hk : k < nn N h) (e : i ≠ k) : rk N h i ≠ rk N h k := fun z => by
  have ci : (i : Int) < mCn N h (nS N) := by unfold nn at hi; omega
  have ck : (k : Int) < mCn N h (nS N) := by unfold nn at hk; omega
  obtain ⟨s, a1, a2, a3, a4⟩ := rk_p N h (k := (i : Int)) (by omega) ci
  obtain ⟨t, b1, b2, b3, b4⟩ := rk_p N h (k := (k : Int)) (by omega) ck
  rw [a1, b1] at z
  have : s = t := by omega
  subst this
  omega
/-- what a screen has behind n places -/
theorem prN_at (hV : mV N) {h : Int} {b : Int → Int} {n : Nat} (hn : n ≤ nn N h) (t k : Int) (t0 : 0 ≤ t) (t1 : t < 10) (k0 : 0 ≤ k) (k1 : k < 8) : (∀ i : Nat, i < n → rk N h i ≠ t) ∧ mS (prN N h b n) t k = mS N t k ∨ ∃ i : Nat, i < n ∧ rk N h i = t ∧ mS (prN N h b n) t k = (if k = 4 then b i else if k = 5 then -1 else if k = 6 then 0 else mS N t k) := by
  induction n with
  | zero => exact Or.inl ⟨fun i hi => by omega, rfl⟩
  | succ n ih =>
    have i := ih (by omega)
    show _ ∧ mS (mBook (prN N h b n) (rk N h n) (b n) (-1) 0 (mS N (rk N h n) 7)) t k = _ ∨ _
    by_cases c : t = rk N h n
    · right
      refine ⟨n, by omega, c.symm, ?_⟩
      show mS (mBook (prN N h b n) (rk N h n) (b n) (-1) 0 (mS N (rk N h n) 7)) t k = _
      rw [mBook_at _ _ _ _ _ _ _ _ k0 k1, if_pos c]
      have u : mS (prN N h b n) (rk N h n) k = mS N (rk N h n) k := by
        rw [c] at i
        rcases i with z | ⟨j, j1, j2, _⟩
        · exact z.2
        · exact absurd j2 (rk_ne N h (by omega) (by omega) (by omega))
      by_cases c4 : k = 4
      · rw [if_pos c4, if_pos c4]
      · rw [if_neg c4, if_neg c4]
        by_cases c5 : k = 5
        · rw [if_pos c5, if_pos c5]
        · rw [if_neg c5, if_neg c5]
          by_cases c6 : k = 6
          · rw [if_pos c6, if_pos c6]
          · rw [if_neg c6, if_neg c6]
            by_cases c7 : k = 7
            · rw [if_pos c7, c7, c]
            · rw [if_neg c7, u, c]
    · have e : mS (mBook (prN N h b n) (rk N h n) (b n) (-1) 0 (mS N (rk N h n) 7)) t k = mS (prN N h b n) t k := mBook_t c k0 k1
      rcases i with z | ⟨j, j1, j2, j3⟩
      · left
        refine ⟨fun i hi => ?_, e.trans z.2⟩
        by_cases q : i = n
        · subst q; exact fun w => c w.symm
        · exact z.1 i (by omega)
      · exact Or.inr ⟨j, by omega, j2, by show mS (mBook (prN N h b n) (rk N h n) (b n) (-1) 0 (mS N (rk N h n) 7)) t k = _; rw [e]; exact j3⟩
theorem prN_o (hV : mV N) {h : Int} {b : Int → Int} {n : Nat} (hn : n ≤ nn N h) {j : Int} (hj : j < 14 ∨ 94 ≤ j) : prN N h b n j = N j := by
  have hn1 := hV.n
  induction n with
  | zero => rfl
  | succ n ih =>
    have r := rk_b hV (h := h) (k := (n : Int)) (by omega) (by omega)
    show mBook (prN N h b n) (rk N h n) (b n) (-1) 0 (mS N (rk N h n) 7) j = _
    rw [mBook_o _ r.1 (by omega) hj]
    exact ih (by omega)
theorem prN_V (hV : mV N) {h : Int} {b : Int → Int} (hb : ∀ k : Nat, k < nn N h → -1 ≤ b k ∧ b k < N 2) : ∀ n : Nat, n ≤ nn N h → mV (prN N h b n) := by
  have hn1 := hV.n
  intro n
  induction n with
  | zero => intro _; exact hV
  | succ n ih =>
    intro hn
    have r := rk_b hV (h := h) (k := (n : Int)) (by omega) (by omega)
    have q := hV.s (rk N h n) r.1 (by omega)
    have := hb n (by omega)
    exact mBook_V (ih (by omega)) r.1 (by omega) (by omega) (by omega) (by omega) (by omega)
theorem prN_gN {T : Int} (g : gN T N) {h : Int} (h0 : 0 ≤ h) (h1 : h < N 0) {b : Int → Int} (hb : pVc (N 2) (ch0 N h) (nn N h) b) (hp : ∀ f, 0 ≤ f → f < N 2 → pCnt b f (nn N h) ≤ mP N f h) : gN T (prN N h b (nn N h)) ∧ cE N (prN N h b (nn N h)) := by
  have hV := g.v
  have hn := hV.n
  have hs := nS_eq hV
  have q4 := (nn_eq g.q.c h).2
  have hbb : ∀ k : Nat, k < nn N h → -1 ≤ b k ∧ b k < N 2 := fun k hk => by
    have v := hb k hk
    have r := rk_b hV (h := h) (k := (k : Int)) (by omega) (by omega)
    rcases ch0_b hV (h := h) (k := (k : Int)) (by omega) (by omega) with ⟨a, e, e1, e2⟩ | ⟨a, e⟩
    · have := v.2 (by omega)
      have := g.w (rk N h k) r.1 r.2.1
      omega
    · exact v.1 e
  have o : ∀ j, j < 14 ∨ 94 ≤ j → prN N h b (nn N h) j = N j := fun j hj => prN_o hV (Nat.le_refl _) hj
  have at_ := fun t k t0 t1 k0 k1 => prN_at hV (b := b) (Nat.le_refl (nn N h)) t k t0 t1 k0 k1
  have c3 : ∀ t k : Int, 0 ≤ t → t < 10 → 0 ≤ k → k < 4 → mS (prN N h b (nn N h)) t k = mS N t k := fun t k t0 t1 k0 k1 => by
    rcases at_ t k t0 t1 k0 (by omega) with z | ⟨i, _, _, z⟩
    · exact z.2
    · rw [z, if_neg (by omega), if_neg (by omega), if_neg (by omega)]
  have c7 : ∀ t : Int, 0 ≤ t → t < 10 → mS (prN N h b (nn N h)) t 7 = mS N t 7 := fun t t0 t1 => by
    rcases at_ t 7 t0 t1 (by omega) (by omega) with z | ⟨i, _, _, z⟩
    · exact z.2
    · rw [z]; rfl
  have e : cE N (prN N h b (nn N h)) := ⟨⟨o 0 (by omega), o 1 (by omega), o 2 (by omega)⟩, fun x x0 x1 => o _ (by omega), fun s s0 s1 => ⟨c3 s 0 s0 s1 (by omega) (by omega), c3 s 1 s0 s1 (by omega) (by omega), c3 s 2 s0 s1 (by omega) (by omega)⟩, fun f k f0 f1 k0 k1 => o _ (by omega)⟩
  have eS := e.nS
  -- a screen: as it was, or with its place's film
  have at4 : ∀ t : Int, 0 ≤ t → t < 10 → (∀ i : Nat, i < nn N h → rk N h i ≠ t) ∧ mS (prN N h b (nn N h)) t 4 = mS N t 4 ∧ mS (prN N h b (nn N h)) t 5 = mS N t 5 ∧ mS (prN N h b (nn N h)) t 6 = mS N t 6 ∨ ∃ i : Nat, i < nn N h ∧ rk N h i = t ∧ mS (prN N h b (nn N h)) t 4 = b i ∧ mS (prN N h b (nn N h)) t 5 = -1 ∧ mS (prN N h b (nn N h)) t 6 = 0 := fun t t0 t1 => by
    rcases at_ t 4 t0 t1 (by omega) (by omega) with z | ⟨i, i1, i2, z⟩
    · left
      refine ⟨z.1, z.2, ?_, ?_⟩
      · rcases at_ t 5 t0 t1 (by omega) (by omega) with y | ⟨i, i1, i2, y⟩
        · exact y.2
        · exact absurd i2 (z.1 i i1)
      · rcases at_ t 6 t0 t1 (by omega) (by omega) with y | ⟨i, i1, i2, y⟩
        · exact y.2
        · exact absurd i2 (z.1 i i1)
    · right
      refine ⟨i, i1, i2, z.trans rfl, ?_, ?_⟩
      · rcases at_ t 5 t0 t1 (by omega) (by omega) with y | ⟨j, j1, j2, y⟩
        · exact absurd i2 (y.1 i i1)
        · rw [y]; rfl
      · rcases at_ t 6 t0 t1 (by omega) (by omega) with y | ⟨j, j1, j2, y⟩
        · exact absurd i2 (y.1 i i1)
        · rw [y]; rfl
  refine ⟨⟨prN_V hV hbb _ (Nat.le_refl _), fun t t0 t1 => ?_, fun t t0 t1 => ?_, ⟨fun h' => ?_, fun f f0 f1 => ?_, fun t t0 t1 => ?_, fun h' f k0 k1 f0 f1 => ?_, fun h' f k0 k1 f0 f1 => ?_, fun k k0 k1 => ?_, fun j hj => ?_⟩, ?_⟩, e⟩
  · rw [o 1 (by omega)] at t1
    rw [o 0 (by omega), o 2 (by omega), c3 t 0 t0 (by omega) (by omega) (by omega)]
    have q := g.w t t0 t1
    rcases at4 t t0 (by omega) with ⟨_, z1, z2, _⟩ | ⟨i, i1, _, z1, z2, _⟩
    · rw [z1, z2]; exact q
    · rw [z1, z2]; have := hbb i i1; omega
  · rw [o 1 (by omega)] at t1
    rw [c7 t t0 (by omega)]
    have q := g.x t t0 t1
    rcases at4 t t0 (by omega) with ⟨_, z1, z2, z3⟩ | ⟨i, i1, _, z1, z2, z3⟩
    · rw [z2, z3]; exact q
    · rw [z2, z3]; omega
  · have : mCn (prN N h b (nn N h)) h' (nS (prN N h b (nn N h))) = mCn N h' (nS N) := by
      unfold mCn
      rw [eS]
      exact zsum_congr fun t ht => by rw [c3 t 0 (by omega) (by omega) (by omega) (by omega)]
    rw [this]; exact g.q.c h'
  · have : mF (prN N h b (nn N h)) f 9 = mF N f 9 := o _ (by omega)
    rw [this, o 3 (by omega)]; exact g.q.t f f0 f1
  · rw [o 1 (by omega)] at t1
    rw [c7 t t0 (by omega)]
    have q := g.q.s t t0 t1
    rcases at4 t t0 (by omega) with ⟨_, z1, z2, z3⟩ | ⟨i, i1, i2, z1, z2, z3⟩
    · rw [z1, z2]; exact q
    · rw [z1, z2]
      refine ⟨fun z => absurd rfl z, fun z => ?_⟩
      have v := hb i i1
      rcases ch0_b hV (h := h) (k := (i : Int)) (by omega) (by omega) with ⟨a, e, e1, e2⟩ | ⟨a, e⟩
      · have := v.2 (by omega)
        rw [i2] at e
        have := q.2 z
        omega
      · rw [i2] at a; exact absurd z a
  · rw [o 0 (by omega)] at k1
    rw [o 2 (by omega)] at f1
    have eP : mP (prN N h b (nn N h)) f h' = mP N f h' := o _ (by omega)
    have p0 := (hV.p f h' f0 (by omega) (by omega) (by omega)).1
    rw [eP]
    refine (mNeed_le p0).mpr fun day hd => ?_
    by_cases z : h' = h
    · subst z
      refine Int.le_trans ?_ (hp f f0 f1)
      -- the screens of the house are its places
      have q := rk_sum N h' (fun t => zb (mS (prN N h' b (nn N h')) t 4 = f))
      have e1 : pCnt b f (nn N h') = zsum (fun k => zb (mS (prN N h' b (nn N h')) (rk N h' k) 4 = f)) (nn N h') := zsum_congr fun k hk => by
        have r := rk_b hV (h := h') (k := (k : Int)) (by omega) (by omega)
        rcases at4 (rk N h' k) r.1 (by omega) with ⟨y, _⟩ | ⟨i, i1, i2, y, _⟩
        · exact absurd rfl (y k hk)
        · have : i = k := Decidable.not_not.mp fun c => rk_ne N h' i1 hk c i2
          subst this
          rw [y]
      rw [e1, q]
      have e2 : mCnt (prN N h' b (nn N h')) h' f day = zsum (fun s => if mS N s 0 = h' then zb (mS (prN N h' b (nn N h')) s 4 = f) else 0) (nS N) := by
        unfold mCnt mCntN
        rw [eS]
        refine zsum_congr fun t ht => ?_
        rw [c3 t 0 (by omega) (by omega) (by omega) (by omega)]
        by_cases c : mS N t 0 = h'
        · rw [if_pos c]
          have sh : mSh (prN N h' b (nn N h')) t day = mS (prN N h' b (nn N h')) t 4 := by
            rcases at4 t (by omega) (by omega) with ⟨y, _⟩ | ⟨i, i1, i2, y1, y2, y3⟩
            · exfalso
              have cn := mCn_lt N h' (a := t) (b := nS N) ht c
              have cb := mCn_b N h' t
              refine y (mCn N h' t).toNat (by unfold nn; omega) ?_
              rw [show (((mCn N h' t).toNat : Nat) : Int) = mCn N h' t by omega, rk_inj N h' ht c]
            · unfold mSh; rw [if_neg (fun w => w.1 y2)]
          rw [sh]
          exact zb_congr ⟨fun w => w.2, fun w => ⟨c, w⟩⟩
        · rw [if_neg c]
          exact (zbF (fun w => c w.1)).symm
      rw [e2]
      exact Int.le_refl _
    · have q := (mNeed_le p0).mp (g.q.p h' f k0 k1 f0 f1) day hd
      refine Int.le_trans (Int.le_of_eq ?_) q
      unfold mCnt mCntN
      rw [eS]
      refine zsum_congr fun t ht => ?_
      rw [c3 t 0 (by omega) (by omega) (by omega) (by omega)]
      rcases at4 t (by omega) (by omega) with ⟨_, z1, z2, z3⟩ | ⟨i, i1, i2, _⟩
      · unfold mSh; rw [z1, z2, z3]
      · have r := (rk_b hV (h := h) (k := (i : Int)) (by omega) (by omega)).2.2
        rw [i2] at r
        exact (zbF (fun w => z (w.1.symm.trans r))).symm.trans (zbF (fun w => z (w.1.symm.trans r)))
  · have : mR (prN N h b (nn N h)) h' f = mR N h' f := o _ (by omega)
    rw [this, o 3 (by omega)]; exact g.q.r h' f k0 k1 f0 f1
  · rw [o _ (by omega), o 3 (by omega)]; exact g.q.a k k0 k1
  · rw [o j (by omega)]; exact g.q.z j hj
  · rw [o 5 (by omega)]; exact g.m
/-- a program that has a gain has its prints -/
theorem pG_prints (hV : mV N) (hQ : mC4 N) {h : Int} (h0 : 0 ≤ h) (h1 : h < 4) {lim t : Int → Int} (g : 0 ≤ pG N h lim t) : ∀ f, 0 ≤ f → f < N 2 → pCnt t f (nn N h) ≤ lim f := fun f f0 f1 => by
  have hf := nF_eq hV
  obtain ⟨n, rfl⟩ := Int.eq_ofNat_of_zero_le f0
  rcases pG1_p hV hQ h0 h1 lim t (f := (n : Int)) f0 f1 with z | z
  · have : pG N h lim t = -1 := pGN_no1 (m := n) z.1 (by omega)
    omega
  · omega
theorem bf_at {s : Int} {x : Nat} (hx : x < nn N (mS N s 0)) (e : rk N (mS N s 0) x = s) (hnn : mCn N (mS N s 0) (nS N) = (nn N (mS N s 0) : Int)) {sn : Nat} (hs : s = sn := by omega) : mCn N (mS N s 0) sn = x := by
  obtain ⟨t, a1, a2, a3, a4⟩ := rk_p N (mS N s 0) (k := (x : Int)) (by omega) (by omega)
  rw [e] at a1
  have : t = sn := by omega
  subst this
  exact a4
theorem bf_next {s : Int} {x sn : Nat} (hx : x < nn N (mS N s 0)) (hno : ∀ k : Nat, k < x → rk N (mS N s 0) k ≠ s) (hne : ¬ rk N (mS N s 0) x = s) (hnn : mCn N (mS N s 0) (nS N) = (nn N (mS N s 0) : Int)) (c0 : 0 ≤ mCn N (mS N s 0) sn) (ct : mCn N (mS N s 0) sn < mCn N (mS N s 0) (nS N)) (rs : rk N (mS N s 0) (mCn N (mS N s 0) sn) = s) : x + 1 < nn N (mS N s 0) := by
  rcases Nat.lt_or_ge (x + 1) (nn N (mS N s 0)) with z | z
  · exact z
  · exfalso
    have e : mCn N (mS N s 0) sn = ((mCn N (mS N s 0) sn).toNat : Int) := by omega
    by_cases q : (mCn N (mS N s 0) sn).toNat = x
    · rw [e, q] at rs; exact hne rs
    · rw [e] at rs; exact hno _ (by omega) rs
end ZQ7

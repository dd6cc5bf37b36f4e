/-! the reference: best gain, best film, best move, program -/
section ZQ7
variable {G : zG} {d : Nat} {σ : zMem} {hm : Nat} {A : Nat → Nat} {N : Int → Int}
noncomputable def bfV (N : Int → Int) (s : Int) : Int := bF N (mS N s 0) (lmP N (mS N s 0)) (mCn N (mS N s 0) s.toNat)
/-- a house's program booked, place by place -/
def prN (N : Int → Int) (h : Int) (b : Int → Int) : Nat → Int → Int
  | 0 => N
  | k + 1 => mBook (prN N h b k) (rk N h k) (b k) (-1) 0 (mS N (rk N h k) 7)
def prC (N : Int → Int) (h : Int) (b : Int → Int) (n : Nat) : Int := zsum (fun k => zb (mS N (rk N h k) 4 ≠ b k ∨ mS N (rk N h k) 5 ≠ -1)) n
noncomputable def oPrV (N : Int → Int) (h : Int) : Int := prC N h (bF N h (lmP N h)) (nn N h)
noncomputable def oPrS (S : zS) (h : Int) : zS := sRec S (prN S.1 h (bF S.1 h (lmP S.1 h)) (nn S.1 h))
theorem rk_ne (N : Int → Int) (h : Int) {i k : Nat} (hi : i < nn N h) (hk : k < nn N h) (e : i ≠ k) : rk N h i ≠ rk N h k := fun z => by
  have ci : (i : Int) < mCn N h (nS N) := by unfold nn at hi; omega
  have ck : (k : Int) < mCn N h (nS N) := by unfold nn at hk; omega
  obtain ⟨s, a1, a2, a3, a4⟩ := rk_p N h (k := (i : Int)) (by omega) ci
  obtain ⟨t, b1, b2, b3, b4⟩ := rk_p N h (k := (k : Int)) (by omega) ck
  rw [a1, b1] at z
  have : s = t := by omega
  subst this
  omega
/-- what a screen has behind n places -/
theorem prN_at (hV : mV N) {h : Int} {b : Int → Int} {n : Nat} (hn : n ≤ nn N h) (t k : Int) (t0 : 0 ≤ t) (t1 : t < 10) (k0 : 0 ≤ k) (k1 : k < 8) : (∀ i : Nat, i < n → rk N h i ≠ t) ∧ mS (prN N h b n) t k = mS N t k ∨ ∃ i : Nat, i < n ∧ rk N h i = t ∧ mS (prN N h b n) t k = (if k = 4 then b i else if k = 5 then -1 else if k = 6 then 0 else mS N t k) := by
  induction n with
  | zero => exact Or.inl ⟨fun i hi => by omega, rfl⟩
  | succ n ih =>
    have i := ih (by omega)
    show _ ∧ mS (mBook (prN N h b n) (rk N h n) (b n) (-1) 0 (mS N (rk N h n) 7)) t k = _ ∨ _
    by_cases c : t = rk N h n
    · right
      refine ⟨n, by omega, c.symm, ?_⟩
      show mS (mBook (prN N h b n) (rk N h n) (b n) (-1) 0 (mS N (rk N h n) 7)) t k = _
      rw [mBook_at _ _ _ _ _ _ _ _ k0 k1, if_pos c]
      have u : mS (prN N h b n) (rk N h n) k = mS N (rk N h n) k := by
        rw [c] at i
        rcases i with z | ⟨j, j1, j2, _⟩
        · exact z.2
        · exact absurd j2 (rk_ne N h (by omega) (by omega) (by omega))
      by_cases c4 : k = 4
      · rw [if_pos c4, if_pos c4]
      · rw [if_neg c4, if_neg c4]
        by_cases c5 : k = 5
        · rw [if_pos c5, if_pos c5]
        · rw [if_neg c5, if_neg c5]
          by_cases c6 : k = 6
          · rw [if_pos c6, if_pos c6]
          · rw [if_neg c6, if_neg c6]
            by_cases c7 : k = 7
            · rw [if_pos c7, c7, c]
            · rw [if_neg c7, u, c]
    · have e : mS (mBook (prN N h b n) (rk N h n) (b n) (-1) 0 (mS N (rk N h n) 7)) t k = mS (prN N h b n) t k := mBook_t c k0 k1
      rcases i with z | ⟨j, j1, j2, j3⟩
      · left
        refine ⟨fun i hi => ?_, e.trans z.2⟩
        by_cases q : i = n
        · subst q; exact fun w => c w.symm
        · exact z.1 i (by omega)
      · exact Or.inr ⟨j, by omega, j2, by show mS (mBook (prN N h b n) (rk N h n) (b n) (-1) 0 (mS N (rk N h n) 7)) t k = _; rw [e]; exact j3⟩
theorem prN_o (hV : mV N) {h : Int} {b : Int → Int} {n : Nat} (hn : n ≤ nn N h) {j : Int} (hj : j < 14 ∨ 94 ≤ j) : prN N h b n j = N j := by
  have hn1 := hV.n
  induction n with
  | zero => rfl
  | succ n ih =>
    have r := rk_b hV (h := h) (k := (n : Int)) (by omega) (by omega)
    show mBook (prN N h b n) (rk N h n) (b n) (-1) 0 (mS N (rk N h n) 7) j = _
    rw [mBook_o _ r.1 (by omega) hj]
    exact ih (by omega)
theorem prN_V (hV : mV N) {h : Int} {b : Int → Int} (hb : ∀ k : Nat, k < nn N h → -1 ≤ b k ∧ b k < N 2) : ∀ n : Nat, n ≤ nn N h → mV (prN N h b n) := by
  have hn1 := hV.n
  intro n
  induction n with
  | zero => intro _; exact hV
  | succ n ih =>
    intro hn
    have r := rk_b hV (h := h) (k := (n : Int)) (by omega) (by omega)
    have q := hV.s (rk N h n) r.1 (by omega)
    have := hb n (by omega)
    exact mBook_V (ih (by omega)) r.1 (by omega) (by omega) (by omega) (by omega) (by omega)
theorem prN_gN {T : Int} (g : gN T N) {h : Int} (h0 : 0 ≤ h) (h1 : h < N 0) {b : Int → Int} (hb : pVc (N 2) (ch0 N h) (nn N h) b) (hp : ∀ f, 0 ≤ f → f < N 2 → pCnt b f (nn N h) ≤ mP N f h) : gN T (prN N h b (nn N h)) ∧ cE N (prN N h b (nn N h)) := by
  have hV := g.v
  have hn := hV.n
  have hs := nS_eq hV
  have q4 := (nn_eq g.q.c h).2
  have hbb : ∀ k : Nat, k < nn N h → -1 ≤ b k ∧ b k < N 2 := fun k hk => by
    have v := hb k hk
    have r := rk_b hV (h := h) (k := (k : Int)) (by omega) (by omega)
    rcases ch0_b hV (h := h) (k := (k : Int)) (by omega) (by omega) with ⟨a, e, e1, e2⟩ | ⟨a, e⟩
    · have := v.2 (by omega)
      have := g.w (rk N h k) r.1 r.2.1
      omega
    · exact v.1 e
  have o : ∀ j, j < 14 ∨ 94 ≤ j → prN N h b (nn N h) j = N j := fun j hj => prN_o hV (Nat.le_refl _) hj
  have at_ := fun t k t0 t1 k0 k1 => prN_at hV (b := b) (Nat.le_refl (nn N h)) t k t0 t1 k0 k1
  have c3 : ∀ t k : Int, 0 ≤ t → t < 10 → 0 ≤ k → k < 4 → mS (prN N h b (nn N h)) t k = mS N t k := fun t k t0 t1 k0 k1 => by
    rcases at_ t k t0 t1 k0 (by omega) with z | ⟨i, _, _, z⟩
    · exact z.2
    · rw [z, if_neg (by omega), if_neg (by omega), if_neg (by omega)]
  have c7 : ∀ t : Int, 0 ≤ t → t < 10 → mS (prN N h b (nn N h)) t 7 = mS N t 7 := fun t t0 t1 => by
    rcases at_ t 7 t0 t1 (by omega) (by omega) with z | ⟨i, _, _, z⟩
    · exact z.2
    · rw [z]; rfl
  have e : cE N (prN N h b (nn N h)) := ⟨⟨o 0 (by omega), o 1 (by omega), o 2 (by omega)⟩, fun x x0 x1 => o _ (by omega), fun s s0 s1 => ⟨c3 s 0 s0 s1 (by omega) (by omega), c3 s 1 s0 s1 (by omega) (by omega), c3 s 2 s0 s1 (by omega) (by omega)⟩, fun f k f0 f1 k0 k1 => o _ (by omega)⟩
  have eS := e.nS
  -- a screen: as it was, or with its place's film
  have at4 : ∀ t : Int, 0 ≤ t → t < 10 → (∀ i : Nat, i < nn N h → rk N h i ≠ t) ∧ mS (prN N h b (nn N h)) t 4 = mS N t 4 ∧ mS (prN N h b (nn N h)) t 5 = mS N t 5 ∧ mS (prN N h b (nn N h)) t 6 = mS N t 6 ∨ ∃ i : Nat, i < nn N h ∧ rk N h i = t ∧ mS (prN N h b (nn N h)) t 4 = b i ∧ mS (prN N h b (nn N h)) t 5 = -1 ∧ mS (prN N h b (nn N h)) t 6 = 0 := fun t t0 t1 => by
    rcases at_ t 4 t0 t1 (by omega) (by omega) with z | ⟨i, i1, i2, z⟩
    · left
      refine ⟨z.1, z.2, ?_, ?_⟩
      · rcases at_ t 5 t0 t1 (by omega) (by omega) with y | ⟨i, i1, i2, y⟩
        · exact y.2
        · exact absurd i2 (z.1 i i1)
      · rcases at_ t 6 t0 t1 (by omega) (by omega) with y | ⟨i, i1, i2, y⟩
        · exact y.2
        · exact absurd i2 (z.1 i i1)
    · right
      refine ⟨i, i1, i2, z.trans rfl, ?_, ?_⟩
      · rcases at_ t 5 t0 t1 (by omega) (by omega) with y | ⟨j, j1, j2, y⟩
        · exact absurd i2 (y.1 i i1)
        · rw [y]; rfl
      · rcases at_ t 6 t0 t1 (by omega) (by omega) with y | ⟨j, j1, j2, y⟩
        · exact absurd i2 (y.1 i i1)
        · rw [y]; rfl
  refine ⟨⟨prN_V hV hbb _ (Nat.le_refl _), fun t t0 t1 => ?_, fun t t0 t1 => ?_, ⟨fun h' => ?_, fun f f0 f1 => ?_, fun t t0 t1 => ?_, fun h' f k0 k1 f0 f1 => ?_, fun h' f k0 k1 f0 f1 => ?_, fun k k0 k1 => ?_, fun j hj => ?_⟩, ?_⟩, e⟩
  · rw [o 1 (by omega)] at t1
    rw [o 0 (by omega), o 2 (by omega), c3 t 0 t0 (by omega) (by omega) (by omega)]
    have q := g.w t t0 t1
    rcases at4 t t0 (by omega) with ⟨_, z1, z2, _⟩ | ⟨i, i1, _, z1, z2, _⟩
    · rw [z1, z2]; exact q
    · rw [z1, z2]; have := hbb i i1; omega
  · rw [o 1 (by omega)] at t1
    rw [c7 t t0 (by omega)]
    have q := g.x t t0 t1
    rcases at4 t t0 (by omega) with ⟨_, z1, z2, z3⟩ | ⟨i, i1, _, z1, z2, z3⟩
    · rw [z2, z3]; exact q
    · rw [z2, z3]; omega
  · have : mCn (prN N h b (nn N h)) h' (nS (prN N h b (nn N h))) = mCn N h' (nS N) := by
      unfold mCn
      rw [eS]
      exact zsum_congr fun t ht => by rw [c3 t 0 (by omega) (by omega) (by omega) (by omega)]
    rw [this]; exact g.q.c h'
  · have : mF (prN N h b (nn N h)) f 9 = mF N f 9 := o _ (by omega)
    rw [this, o 3 (by omega)]; exact g.q.t f f0 f1
  · rw [o 1 (by omega)] at t1
    rw [c7 t t0 (by omega)]
    have q := g.q.s t t0 t1
    rcases at4 t t0 (by omega) with ⟨_, z1, z2, z3⟩ | ⟨i, i1, i2, z1, z2, z3⟩
    · rw [z1, z2]; exact q
    · rw [z1, z2]
      refine ⟨fun z => absurd rfl z, fun z => ?_⟩
      have v := hb i i1
      rcases ch0_b hV (h := h) (k := (i : Int)) (by omega) (by omega) with ⟨a, e, e1, e2⟩ | ⟨a, e⟩
      · have := v.2 (by omega)
        rw [i2] at e
        have := q.2 z
        omega
      · rw [i2] at a; exact absurd z a
  · rw [o 0 (by omega)] at k1
    rw [o 2 (by omega)] at f1
    have eP : mP (prN N h b (nn N h)) f h' = mP N f h' := o _ (by omega)
    have p0 := (hV.p f h' f0 (by omega) (by omega) (by omega)).1
    rw [eP]
    refine (mNeed_le p0).mpr fun day hd => ?_
    by_cases z : h' = h
    · subst z
      refine Int.le_trans ?_ (hp f f0 f1)
      -- the screens of the house are its places
      have q := rk_sum N h' (fun t => zb (mS (prN N h' b (nn N h')) t 4 = f))
      have e1 : pCnt b f (nn N h') = zsum (fun k => zb (mS (prN N h' b (nn N h')) (rk N h' k) 4 = f)) (nn N h') := zsum_congr fun k hk => by
        have r := rk_b hV (h := h') (k := (k : Int)) (by omega) (by omega)
        rcases at4 (rk N h' k) r.1 (by omega) with ⟨y, _⟩ | ⟨i, i1, i2, y, _⟩
        · exact absurd rfl (y k hk)
        · have : i = k := Decidable.not_not.mp fun c => rk_ne N h' i1 hk c i2
          subst this
          rw [y]
      rw [e1, q]
      have e2 : mCnt (prN N h' b (nn N h')) h' f day = zsum (fun s => if mS N s 0 = h' then zb (mS (prN N h' b (nn N h')) s 4 = f) else 0) (nS N) := by
        unfold mCnt mCntN
        rw [eS]
        refine zsum_congr fun t ht => ?_
        rw [c3 t 0 (by omega) (by omega) (by omega) (by omega)]
        by_cases c : mS N t 0 = h'
        · rw [if_pos c]
          have sh : mSh (prN N h' b (nn N h')) t day = mS (prN N h' b (nn N h')) t 4 := by
            rcases at4 t (by omega) (by omega) with ⟨y, _⟩ | ⟨i, i1, i2, y1, y2, y3⟩
            · exfalso
              have cn := mCn_lt N h' (a := t) (b := nS N) ht c
              have cb := mCn_b N h' t
              refine y (mCn N h' t).toNat (by unfold nn; omega) ?_
              rw [show (((mCn N h' t).toNat : Nat) : Int) = mCn N h' t by omega, rk_inj N h' ht c]
            · unfold mSh; rw [if_neg (fun w => w.1 y2)]
          rw [sh]
          exact zb_congr ⟨fun w => w.2, fun w => ⟨c, w⟩⟩
        · rw [if_neg c]
          exact (zbF (fun w => c w.1)).symm
      rw [e2]
      exact Int.le_refl _
    · have q := (mNeed_le p0).mp (g.q.p h' f k0 k1 f0 f1) day hd
      refine Int.le_trans (Int.le_of_eq ?_) q
      unfold mCnt mCntN
      rw [eS]
      refine zsum_congr fun t ht => ?_
      rw [c3 t 0 (by omega) (by omega) (by omega) (by omega)]
      rcases at4 t (by omega) (by omega) with ⟨_, z1, z2, z3⟩ | ⟨i, i1, i2, _⟩
      · unfold mSh; rw [z1, z2, z3]
      · have r := (rk_b hV (h := h) (k := (i : Int)) (by omega) (by omega)).2.2
        rw [i2] at r
        exact (zbF (fun w => z (w.1.symm.trans r))).symm.trans (zbF (fun w => z (w.1.symm.trans r)))
  · have : mR (prN N h b (nn N h)) h' f = mR N h' f := o _ (by omega)
    rw [this, o 3 (by omega)]; exact g.q.r h' f k0 k1 f0 f1
  · rw [o _ (by omega), o 3 (by omega)]; exact g.q.a k k0 k1
  · rw [o j (by omega)]; exact g.q.z j hj
  · rw [o 5 (by omega)]; exact g.m
/-- a program that has a gain has its prints -/
theorem pG_prints (hV : mV N) (hQ : mC4 N) {h : Int} (h0 : 0 ≤ h) (h1 : h < 4) {lim t : Int → Int} (g : 0 ≤ pG N h lim t) : ∀ f, 0 ≤ f → f < N 2 → pCnt t f (nn N h) ≤ lim f := fun f f0 f1 => by
  have hf := nF_eq hV
  obtain ⟨n, rfl⟩ := Int.eq_ofNat_of_zero_le f0
  rcases pG1_p hV hQ h0 h1 lim t (f := (n : Int)) f0 f1 with z | z
  · have : pG N h lim t = -1 := pGN_no1 (m := n) z.1 (by omega)
    omega
  · omega
theorem zt_X12_bestGain {h : Int} (hM : zMo σ hm A) (hN : zia σ (A 0) = N) (hV : mV N) (hW : mW N) (hX : mX N) (hQ : mQ N) (zrh : zrg h) : zE G mX12_bestGain (d + 14) [zR hm, zI h] σ (mop (if 0 ≤ h ∧ h < N 0 then 0 else 1) (bG N h (lmP N h)) hm A σ) := by
  refine zE_of rfl (by simp [zcat]) (Nat.le_of_ble_eq_true rfl) ?_
  show zF G mX12_bestGain (d + 14) 0 [(0, zR hm), (1, zI h)] [] σ _
  have hb := hV.b
  have hn := hV.n
  refine zF_aload_n 1 dX12_bestGain_0 rfl rfl ?_
  refine zF_iconst 2 dX12_bestGain_1 rfl ?_
  refine zF_putI 5 dX12_bestGain_2 rfl pX12_bestGain_89 (Or.inl rfl) hM.1 hM.2.1 ?_
  refine zF_aload_n 6 dX12_bestGain_5 rfl rfl ?_
  refine zF_iload_n 7 dX12_bestGain_6 rfl rfl ?_
  refine zF_callVi 10 (d2 := (d + 13)) (as := [zI h]) dX12_bestGain_7 rfl kX12_241 iX12_isHouse (ci := 12) rfl eX12_isHouse (Nat.le_refl _) hM.1 hM.2.1 rfl rfl (Nat.le_of_ble_eq_true rfl) (zn_X12_isHouse hM (zMo_hN (k := 0) hN hM (by decide) zMo_h1) (by first | decide | assumption | exact hb _ | exact mSh_rg hb _ _ | exact zb_rg _ | (constructor <;> omega)) (by omega) (by omega)) ?_
  refine zF_ifb_eq 21 13 dX12_bestGain_10 rfl rfl (fun c1 => ?_) (fun c1 => ?_)
  · refine zF_aload_n 22 dX12_bestGain_21 rfl rfl ?_
    refine zF_iconst 23 dX12_bestGain_22 rfl ?_
    refine zF_callV 26 (d2 := (d + 13)) (as := [zI 1]) dX12_bestGain_23 rfl kX12_238 iX12_raise (ci := 12) rfl eX12_raise (Nat.le_refl _) hM.1 hM.2.1 rfl rfl (Nat.le_of_ble_eq_true rfl) (zE.mono (zt_X12_raise hM) fun ro σx1 hh1 => ?_)
    obtain ⟨er1, es1⟩ := hh1
    subst er1
    subst es1
    refine ⟨rfl, ?_⟩
    exact zF_ireturn dX12_bestGain_26 rfl (mopT (mSc_hm5 (mSc_hm5 zFr.rf)) (zsi_same _ _ _ _) (by repeat (first | rw [if_pos (by omega)] | rw [if_neg (by omega)])) (by decide))
  · refine zF_aload_n 14 dX12_bestGain_13 rfl rfl ?_
    refine zF_iload_n 15 dX12_bestGain_14 rfl rfl ?_
    refine zF_callV 18 (d2 := (d + 13)) (as := [zI h]) dX12_bestGain_15 rfl kX12_231 iX12_gainIn (ci := 12) rfl eX12_gainIn (Nat.le_refl _) hM.1 hM.2.1 rfl rfl (Nat.le_of_ble_eq_true rfl) (zE.mono (zt_X12_gainIn (σ := (zsi σ hm ((5 : Nat) : Int) 0)) hM (zMo_hN (k := 0) hN hM (by decide) zMo_h1) hV hQ.c (by omega) (by omega)) fun ro σa2 hh2 => ?_)
    obtain ⟨er2, fr2, p2⟩ := hh2
    subst er2
    refine ⟨fr2.1, ?_⟩
    show zF G mX12_bestGain (d + 14) 18 [(0, zR hm), (1, zI h)] [zI (bG N h (lmP N h))] σa2 _
    have hMa2 := zMo_f2 fr2 hM
    have hNa2 : zia σa2 (A 0) = N := mLb_N (σ := (zsi σ hm ((5 : Nat) : Int) 0)) hM (zMo_hN (k := 0) hN hM (by decide) zMo_h1) fr2
    refine zF_goto 26 dX12_bestGain_18 rfl ?_
    exact zF_ireturn dX12_bestGain_26 rfl (mopR ((mSc_hm5 zFr.rf).tr (mLb_sc fr2)) (zFr_F fr2 (mLb_hm hM (by decide)) (zsi_same _ _ _ _)) (by repeat (first | rw [if_pos (by omega)] | rw [if_neg (by omega)])) (rfl))
theorem bf_at {s : Int} {x : Nat} (hx : x < nn N (mS N s 0)) (e : rk N (mS N s 0) x = s) (hnn : mCn N (mS N s 0) (nS N) = (nn N (mS N s 0) : Int)) {sn : Nat} (hs : s = sn := by omega) : mCn N (mS N s 0) sn = x := by
  obtain ⟨t, a1, a2, a3, a4⟩ := rk_p N (mS N s 0) (k := (x : Int)) (by omega) (by omega)
  rw [e] at a1
  have : t = sn := by omega
  subst this
  exact a4
theorem bf_next {s : Int} {x sn : Nat} (hx : x < nn N (mS N s 0)) (hno : ∀ k : Nat, k < x → rk N (mS N s 0) k ≠ s) (hne : ¬ rk N (mS N s 0) x = s) (hnn : mCn N (mS N s 0) (nS N) = (nn N (mS N s 0) : Int)) (c0 : 0 ≤ mCn N (mS N s 0) sn) (ct : mCn N (mS N s 0) sn < mCn N (mS N s 0) (nS N)) (rs : rk N (mS N s 0) (mCn N (mS N s 0) sn) = s) : x + 1 < nn N (mS N s 0) := by
  rcases Nat.lt_or_ge (x + 1) (nn N (mS N s 0)) with z | z
  · exact z
  · exfalso
    have e : mCn N (mS N s 0) sn = ((mCn N (mS N s 0) sn).toNat : Int) := by omega
    by_cases q : (mCn N (mS N s 0) sn).toNat = x
    · rw [e, q] at rs; exact hne rs
    · rw [e] at rs; exact hno _ (by omega) rs
theorem zt_X12_bestFilm {s : Int} (hM : zMo σ hm A) (hN : zia σ (A 0) = N) (hV : mV N) (hW : mW N) (hX : mX N) (hQ : mQ N) (zrs : zrg s) : zE G mX12_bestFilm (d + 14) [zR hm, zI s] σ (mop (if 0 ≤ s ∧ s < N 1 then 0 else 1) (bfV N s) hm A σ) := by
  refine zE_of rfl (by simp [zcat]) (Nat.le_of_ble_eq_true rfl) ?_
  show zF G mX12_bestFilm (d + 14) 0 [(0, zR hm), (1, zI s)] [] σ _
  have hb := hV.b
  have hn := hV.n
  refine zF_aload_n 1 dX12_bestFilm_0 rfl rfl ?_
  refine zF_iconst 2 dX12_bestFilm_1 rfl ?_
  refine zF_putI 5 dX12_bestFilm_2 rfl pX12_bestFilm_89 (Or.inl rfl) hM.1 hM.2.1 ?_
  refine zF_aload_n 6 dX12_bestFilm_5 rfl rfl ?_
  refine zF_iload_n 7 dX12_bestFilm_6 rfl rfl ?_
  refine zF_callVi 10 (d2 := (d + 13)) (as := [zI s]) dX12_bestFilm_7 rfl kX12_256 iX12_isScreen (ci := 12) rfl eX12_isScreen (Nat.le_refl _) hM.1 hM.2.1 rfl rfl (Nat.le_of_ble_eq_true rfl) (zn_X12_isScreen hM (zMo_hN (k := 0) hN hM (by decide) zMo_h1) (by first | decide | assumption | exact hb _ | exact mSh_rg hb _ _ | exact zb_rg _ | (constructor <;> omega)) (by omega) (by omega)) ?_
  refine zF_ifb_ne 19 13 dX12_bestFilm_10 rfl rfl (fun c1 => ?_) (fun c1 => ?_)
  · have qs := hV.s s (by omega) (by omega)
    have qw := hW s (by omega) (by omega)
    have hnn := nn_eq hQ.c (mS N s 0)
    obtain ⟨sn, hsn⟩ := Int.eq_ofNat_of_zero_le (a := s) (by omega)
    have hs := nS_eq hV
    have ct := mCn_lt N (mS N s 0) (a := sn) (b := nS N) (by omega) (by rw [← hsn])
    have cb := mCn_b N (mS N s 0) sn
    have rs : rk N (mS N s 0) (mCn N (mS N s 0) sn) = s := (rk_inj N (mS N s 0) (by omega) (by rw [← hsn])).trans hsn.symm
    refine zF_aload_n 20 dX12_bestFilm_19 rfl rfl ?_
    refine zF_aload_n 21 dX12_bestFilm_20 rfl rfl ?_
    refine zF_iload_n 22 dX12_bestFilm_21 rfl rfl ?_
    refine zF_iconst 23 dX12_bestFilm_22 rfl ?_
    refine zF_callVi 26 (d2 := (d + 13)) (as := [zI s, zI 0]) dX12_bestFilm_23 rfl kX12_119 iX12_of (ci := 12) rfl eX12_of (Nat.le_refl _) hM.1 hM.2.1 rfl rfl (Nat.le_of_ble_eq_true rfl) (zn_X12_of hM (zMo_hN (k := 0) hN hM (by decide) zMo_h1) (by omega) (by omega)) ?_
    refine zF_callV 29 (d2 := (d + 13)) (as := [zI (mS N s 0)]) dX12_bestFilm_26 rfl kX12_225 iX12_layBest (ci := 12) rfl eX12_layBest (Nat.le_refl _) hM.1 hM.2.1 rfl rfl (Nat.le_of_ble_eq_true rfl) (zE.mono (zt_X12_layBest (σ := (zsi σ hm ((5 : Nat) : Int) 0)) hM (zMo_hN (k := 0) hN hM (by decide) zMo_h1) hV hQ.c (by omega) (by omega)) fun ro σa1 hh1 => ?_)
    obtain ⟨er1, fr1, p1⟩ := hh1
    subst er1
    refine ⟨fr1.1, ?_⟩
    show zF G mX12_bestFilm (d + 14) 29 [(0, zR hm), (1, zI s)] [] σa1 _
    have hMa1 := zMo_f2 fr1 hM
    have hNa1 : zia σa1 (A 0) = N := mLb_N (σ := (zsi σ hm ((5 : Nat) : Int) 0)) hM (zMo_hN (k := 0) hN hM (by decide) zMo_h1) fr1
    have hok := bG_ok hV hX hQ (h := (mS N s 0)) (by omega) (by omega) ⟨_, p1.2.2.2.1⟩
    have hbf := p1.2.2.1 hok
    refine zF_iconst 30 dX12_bestFilm_29 rfl ?_
    refine zF_istore_n 31 (ls' := [(2, zI 0), (0, zR hm), (1, zI s)]) dX12_bestFilm_30 rfl (by decide) rfl ?_
    refine zF_locs (ls' := [(2, zI ((0 : Nat) : Int)), (0, zR hm), (1, zI s)]) ⟨zlI rfl (by first | rfl | omega | (push_cast; omega) | exact congrArg (_ + ·) (zbT (by assumption)) | exact congrArg (_ + ·) (zbF (by assumption)) | exact congrArg (_ + ·) (zbT (by omega)) | exact congrArg (_ + ·) (zbF (by omega)) | exact congrArg (_ + ·) (if_pos (by omega)).symm | exact congrArg (_ + ·) (if_neg (by omega)).symm | exact (if_pos (by omega)).symm | exact (if_neg (by omega)).symm | exact zsub_s (if_pos (by omega)).symm | exact zsub_s0 (if_neg (by omega)).symm | exact zadd0 (if_neg (by omega)).symm | exact zadd0 (zbF (by omega)) | exact (Int.sub_zero _).symm), rfl, rfl, trivial⟩ ?_
    refine zF_while (X := Nat) (fun x => nn N (mS N s 0) - x) (fun x σ2 => x < nn N (mS N s 0) ∧ σ2 = σa1 ∧ ∀ k : Nat, k < x → rk N (mS N s 0) k ≠ s) (fun x => [(2, zI ((x : Nat) : Int)), (0, zR hm), (1, zI s)]) ?_ 0 σa1 (⟨by omega, rfl, fun k hk => by omega⟩)
    intro x σ2 hI31 ih31
    show zF G mX12_bestFilm (d + 14) 31 [(2, zI ((x : Nat) : Int)), (0, zR hm), (1, zI s)] [] σ2 _
    obtain ⟨hx, e2, hno⟩ := hI31
    subst e2
    have rb := rk_b hV (h := mS N s 0) (k := (x : Int)) (by omega) (by omega)
    refine zF_aload_n 32 dX12_bestFilm_31 rfl rfl ?_
    refine zF_getR 35 dX12_bestFilm_32 rfl gX12_29 hMa1.1 hMa1.2.1 (zM_9 hMa1).1 ?_
    refine zF_iload_n 36 dX12_bestFilm_35 rfl rfl ?_
    refine zF_iaload 37 dX12_bestFilm_36 rfl (zM_9 hMa1).2.2 (zM_9 hMa1).2.1 (by omega) (by omega) (p1.1.2 _ (by omega) (by omega)) ?_
    refine zF_iload_n 38 dX12_bestFilm_37 rfl rfl ?_
    refine zF_icmp_eq 47 41 dX12_bestFilm_38 rfl rfl (by first | decide | assumption | exact hb _ | exact mSh_rg hb _ _ | exact zb_rg _ | (constructor <;> omega)) (by first | decide | assumption | exact hb _ | exact mSh_rg hb _ _ | exact zb_rg _ | (constructor <;> omega)) (fun c2 => ?_) (fun c2 => ?_)
    · refine zF_aload_n 48 dX12_bestFilm_47 rfl rfl ?_
      refine zF_getR 51 dX12_bestFilm_48 rfl gX12_35 hMa1.1 hMa1.2.1 (zM_11 hMa1).1 ?_
      refine zF_iload_n 52 dX12_bestFilm_51 rfl rfl ?_
      refine zF_iaload 53 dX12_bestFilm_52 rfl (zM_11 hMa1).2.2 (zM_11 hMa1).2.1 (by omega) (by omega) (hbf x (by omega)) ?_
      exact zF_ireturn dX12_bestFilm_53 rfl (mopR ((mSc_hm5 zFr.rf).tr (mLb_sc fr1)) (zFr_F fr1 (mLb_hm hM (by decide)) (zsi_same _ _ _ _)) (by repeat (first | rw [if_pos (by omega)] | rw [if_neg (by omega)])) (by unfold bfV; rw [show s.toNat = sn by omega, bf_at hx (by omega) hnn.1]; first | done | rfl))
    · refine zF_iinc 44 (ls' := [(2, zI (((x : Nat) : Int) + 1)), (0, zR hm), (1, zI s)]) dX12_bestFilm_41 rfl rfl rfl (by decide) rfl ?_
      refine zF_goto 31 dX12_bestFilm_44 rfl ?_
      exact zF_locs (ls' := [(2, zI (((x + 1) : Nat) : Int)), (0, zR hm), (1, zI s)]) ⟨zlI rfl (by first | rfl | omega | (push_cast; omega) | exact congrArg (_ + ·) (zbT (by assumption)) | exact congrArg (_ + ·) (zbF (by assumption)) | exact congrArg (_ + ·) (zbT (by omega)) | exact congrArg (_ + ·) (zbF (by omega)) | exact congrArg (_ + ·) (if_pos (by omega)).symm | exact congrArg (_ + ·) (if_neg (by omega)).symm | exact (if_pos (by omega)).symm | exact (if_neg (by omega)).symm | exact zsub_s (if_pos (by omega)).symm | exact zsub_s0 (if_neg (by omega)).symm | exact zadd0 (if_neg (by omega)).symm | exact zadd0 (zbF (by omega)) | exact (Int.sub_zero _).symm), rfl, rfl, trivial⟩ (ih31 (x + 1) _ (by omega) (⟨bf_next hx hno (by assumption) hnn.1 cb.1 ct rs, rfl, fun k hk => by
        by_cases e : k = x
        · subst e; assumption
        · exact hno k (by omega)⟩))
  · refine zF_aload_n 14 dX12_bestFilm_13 rfl rfl ?_
    refine zF_iconst 15 dX12_bestFilm_14 rfl ?_
    refine zF_callV 18 (d2 := (d + 13)) (as := [zI 1]) dX12_bestFilm_15 rfl kX12_238 iX12_raise (ci := 12) rfl eX12_raise (Nat.le_refl _) hM.1 hM.2.1 rfl rfl (Nat.le_of_ble_eq_true rfl) (zE.mono (zt_X12_raise hM) fun ro σx2 hh2 => ?_)
    obtain ⟨er2, es2⟩ := hh2
    subst er2
    subst es2
    refine ⟨rfl, ?_⟩
    exact zF_ireturn dX12_bestFilm_18 rfl (mopT (mSc_hm5 (mSc_hm5 zFr.rf)) (zsi_same _ _ _ _) (by repeat (first | rw [if_pos (by omega)] | rw [if_neg (by omega)])) (by decide))
theorem mLg_no (hM : zMo σ hm A) {k : Nat} {j : Int} (hk : k ∈ zmf.map (·.1)) (h9 : k ≠ 9) (h10 : k ≠ 10) (h11 : k ≠ 11) (h14 : k ≠ 14) : ¬ mLg hm A (A k) j := fun q => q.elim (zMo_ne hM hk (by decide) h14) (mLb_no hM hk h9 h10 h11)
theorem mLg_hm (hM : zMo σ hm A) {j : Int} (h : j ≠ 12 ∧ j ≠ 13) : ¬ mLg hm A hm j := fun q => q.elim (fun q => zMo_hm1 hM (k := 14) (by decide) zMo_h1 q.symm) (mLb_hm hM h)
theorem mLg_N {σ1 : zMem} (hM : zMo σ hm A) (hN : zia σ (A 0) = N) (f : zFr (mLg hm A) σ σ1) : zia σ1 (A 0) = N := (f.at fun _ => mLg_no hM (by decide) (by decide) (by decide) (by decide) (by decide)).trans hN
theorem g14_st {x : Nat} {σ1 : zMem} {v : Int} (p : ∀ h : Int, 0 ≤ h → h < (x : Int) → zia σ1 (A 14) h = bG N h (lmP N h)) (e : v = bG N x (lmP N x)) : ∀ h : Int, 0 ≤ h → h < ((x + 1 : Nat) : Int) → zia (zsi σ1 (A 14) (x : Int) v) (A 14) h = bG N h (lmP N h) := fun h a b => by
  rw [zia_si]
  by_cases c : h = x
  · rw [if_pos ⟨rfl, c⟩, e, c]
  · rw [if_neg (fun q => c q.2), p h a (by omega)]
theorem mSc_Lg {σ1 : zMem} {v : Int} (f : zFr (mLg hm A) (zsi σ hm ((5 : Nat) : Int) v) σ1) : zFr (mSc hm A) σ σ1 := (mSc_hm5 zFr.rf).tr (mLg_sc f)
theorem zt_X12_bestMove (hM : zMo σ hm A) (hN : zia σ (A 0) = N) (hV : mV N) (hW : mW N) (hX : mX N) (hQ : mQ N) : zE G mX12_bestMove (d + 16) [zR hm] σ (mop 0 (bmV N) hm A σ) := by
  refine zE_of rfl (by simp [zcat]) (Nat.le_of_ble_eq_true rfl) ?_
  show zF G mX12_bestMove (d + 16) 0 [(0, zR hm)] [] σ _
  have hb := hV.b
  have hn := hV.n
  have hf0 := nF_eq hV
  have hh0 := nH_eq hV
  have hM0 : zMo (zsi σ hm ((5 : Nat) : Int) 0) hm A := hM
  have hN0 : zia (zsi σ hm ((5 : Nat) : Int) 0) (A 0) = N := zMo_hN (k := 0) hN hM (by decide) zMo_h1
  refine zF_aload_n 1 dX12_bestMove_0 rfl rfl ?_
  refine zF_iconst 2 dX12_bestMove_1 rfl ?_
  refine zF_putI 5 dX12_bestMove_2 rfl pX12_bestMove_89 (Or.inl rfl) hM.1 hM.2.1 ?_
  refine zF_iconst 6 dX12_bestMove_5 rfl ?_
  refine zF_istore_n 7 (ls' := [(1, zI 0), (0, zR hm)]) dX12_bestMove_6 rfl (by decide) rfl ?_
  refine zF_locs (ls' := [(1, zI ((0 : Nat) : Int)), (0, zR hm)]) ⟨zlI rfl (by first | rfl | omega | (push_cast; omega) | exact congrArg (_ + ·) (zbT (by assumption)) | exact congrArg (_ + ·) (zbF (by assumption)) | exact congrArg (_ + ·) (zbT (by omega)) | exact congrArg (_ + ·) (zbF (by omega)) | exact congrArg (_ + ·) (if_pos (by omega)).symm | exact congrArg (_ + ·) (if_neg (by omega)).symm | exact (if_pos (by omega)).symm | exact (if_neg (by omega)).symm | exact zsub_s (if_pos (by omega)).symm | exact zsub_s0 (if_neg (by omega)).symm | exact zadd0 (if_neg (by omega)).symm | exact zadd0 (zbF (by omega)) | exact (Int.sub_zero _).symm), rfl, trivial⟩ ?_
  refine zF_while (X := Nat) (fun x => nH N - x) (fun x σ2 => x ≤ nH N ∧ zFr (mLg hm A) (zsi σ hm ((5 : Nat) : Int) 0) σ2 ∧ (∀ h : Int, 0 ≤ h → h < (x : Int) → zia σ2 (A 14) h = bG N h (lmP N h)) ∧ ∀ h : Int, 0 ≤ h → h < (x : Int) → -1 ≤ bG N h (lmP N h) ∧ bG N h (lmP N h) ≤ 41575842) (fun x => [(1, zI ((x : Nat) : Int)), (0, zR hm)]) ?_ 0 (zsi σ hm ((5 : Nat) : Int) 0) (⟨by omega, zFr.rf, fun h a b => by omega, fun h a b => by omega⟩)
  intro x σ2 hI7 ih7
  show zF G mX12_bestMove (d + 16) 7 [(1, zI ((x : Nat) : Int)), (0, zR hm)] [] σ2 _
  obtain ⟨hx, frg, ggg, gbg⟩ := hI7
  have hM_σ2 : zMo σ2 hm A := zMo_fr hM0 frg
  have hN_σ2 : zia σ2 (A 0) = N := mLg_N hM0 hN0 frg
  refine zF_iload_n 8 dX12_bestMove_7 rfl rfl ?_
  refine zF_aload_n 9 dX12_bestMove_8 rfl rfl ?_
  refine zF_callVi 12 (d2 := (d + 15)) (as := []) dX12_bestMove_9 rfl kX12_105 iX12_houses (ci := 12) rfl eX12_houses (Nat.le_refl _) hM_σ2.1 hM_σ2.2.1 rfl rfl (Nat.le_of_ble_eq_true rfl) (zn_X12_houses hM_σ2 hN_σ2) ?_
  refine zF_icmp_ge 32 15 dX12_bestMove_12 rfl rfl (by first | decide | assumption | exact hb _ | exact zb_rg _ | (constructor <;> omega)) (by first | decide | assumption | exact hb _ | exact zb_rg _ | (constructor <;> omega)) (fun c1 => ?_) (fun c1 => ?_)
  · refine zF_iconst 33 dX12_bestMove_32 rfl ?_
    refine zF_istore_n 34 (ls' := [(1, zI (-1)), (0, zR hm)]) dX12_bestMove_33 rfl (by decide) rfl ?_
    refine zF_iconst 35 dX12_bestMove_34 rfl ?_
    refine zF_istore_n 36 (ls' := [(2, zI 0), (1, zI (-1)), (0, zR hm)]) dX12_bestMove_35 rfl (by decide) rfl ?_
    refine zF_iconst 37 dX12_bestMove_36 rfl ?_
    refine zF_istore_n 38 (ls' := [(3, zI 0), (2, zI 0), (1, zI (-1)), (0, zR hm)]) dX12_bestMove_37 rfl (by decide) rfl ?_
    refine zF_locs (ls' := [(3, zI ((0 : Nat) : Int)), (2, zI 0), (1, zI (-1)), (0, zR hm)]) ⟨zlI rfl (by first | rfl | omega | (push_cast; omega) | exact congrArg (_ + ·) (zbT (by assumption)) | exact congrArg (_ + ·) (zbF (by assumption)) | exact congrArg (_ + ·) (zbT (by omega)) | exact congrArg (_ + ·) (zbF (by omega)) | exact congrArg (_ + ·) (if_pos (by omega)).symm | exact congrArg (_ + ·) (if_neg (by omega)).symm | exact (if_pos (by omega)).symm | exact (if_neg (by omega)).symm | exact zsub_s (if_pos (by omega)).symm | exact zsub_s0 (if_neg (by omega)).symm | exact zadd0 (if_neg (by omega)).symm | exact zadd0 (zbF (by omega)) | exact (Int.sub_zero _).symm), rfl, rfl, rfl, trivial⟩ ?_
    refine zF_while (X := Int × Int × Nat) (fun x => nF N - x.2.2) (fun x σ3 => x.2.2 ≤ nF N ∧ zFr (mLg hm A) (zsi σ hm ((5 : Nat) : Int) 0) σ3 ∧ (∀ h : Int, 0 ≤ h → h < N 0 → zia σ3 (A 14) h = bG N h (lmP N h)) ∧ bmJ N (100 * (x.2.2 : Int)) x.1 x.2.1 ∧ x.2.1 ≤ 200000000) (fun x => [(3, zI ((x.2.2 : Nat) : Int)), (2, zI x.2.1), (1, zI x.1), (0, zR hm)]) ?_ (-1, 0, 0) σ2 (⟨Nat.zero_le _, frg, fun h a b => ggg h a (by omega), bmJ_0, by show (0 : Int) ≤ 200000000; decide⟩)
    intro ⟨fo, mo, f⟩ σ3 hI38 ih38
    show zF G mX12_bestMove (d + 16) 38 [(3, zI ((f : Nat) : Int)), (2, zI mo), (1, zI fo), (0, zR hm)] [] σ3 _
    obtain ⟨hf, fr3, g143, j3, m3⟩ := hI38
    dsimp only at hf j3 m3
    have g15 : ∀ h : Int, 0 ≤ h → h < N 0 → -1 ≤ bG N h (lmP N h) ∧ bG N h (lmP N h) ≤ 41575842 := fun h a b => gbg h a (by omega)
    have hM_σ3 : zMo σ3 hm A := zMo_fr hM0 fr3
    have hN_σ3 : zia σ3 (A 0) = N := mLg_N hM0 hN0 fr3
    refine zF_iload_n 39 dX12_bestMove_38 rfl rfl ?_
    refine zF_aload_n 40 dX12_bestMove_39 rfl rfl ?_
    refine zF_callVi 43 (d2 := (d + 15)) (as := []) dX12_bestMove_40 rfl kX12_116 iX12_films (ci := 12) rfl eX12_films (Nat.le_refl _) hM_σ3.1 hM_σ3.2.1 rfl rfl (Nat.le_of_ble_eq_true rfl) (zn_X12_films hM_σ3 hN_σ3) ?_
    refine zF_icmp_ge 150 46 dX12_bestMove_43 rfl rfl (by first | decide | assumption | exact hb _ | exact zb_rg _ | (constructor <;> omega)) (by first | decide | assumption | exact hb _ | exact zb_rg _ | (constructor <;> omega)) (fun c2 => ?_) (fun c2 => ?_)
    · refine zF_iload_n 151 dX12_bestMove_150 rfl rfl ?_
      exact zF_ireturn dX12_bestMove_151 rfl (mopR (mSc_Lg fr3) (fr3.2.2.2.2.2 hm _ (mLg_hm hM (by decide)) |>.trans (zsi_same _ _ _ _)) rfl (bmJ_V (bmJ_skip j3 (by omega) (fun f2 p2 q2 v l => by unfold cdM at l ⊢; have := v.1; have := v.2.1; have := v.2.2; omega))))
    · refine zF_iconst 47 dX12_bestMove_46 rfl ?_
      refine zF_istore 49 (ls' := [(4, zI (-1)), (3, zI ((f : Nat) : Int)), (2, zI mo), (1, zI fo), (0, zR hm)]) dX12_bestMove_47 rfl (by decide) rfl ?_
      refine zF_locs (ls' := [(4, zI (((0 : Nat) : Int) - 1)), (3, zI ((f : Nat) : Int)), (2, zI mo), (1, zI fo), (0, zR hm)]) ⟨zlI rfl (by first | rfl | omega | (push_cast; omega) | exact congrArg (_ + ·) (zbT (by assumption)) | exact congrArg (_ + ·) (zbF (by assumption)) | exact congrArg (_ + ·) (zbT (by omega)) | exact congrArg (_ + ·) (zbF (by omega)) | exact congrArg (_ + ·) (if_pos (by omega)).symm | exact congrArg (_ + ·) (if_neg (by omega)).symm | exact (if_pos (by omega)).symm | exact (if_neg (by omega)).symm | exact zsub_s (if_pos (by omega)).symm | exact zsub_s0 (if_neg (by omega)).symm | exact zadd0 (if_neg (by omega)).symm | exact zadd0 (zbF (by omega)) | exact (Int.sub_zero _).symm), rfl, rfl, rfl, rfl, trivial⟩ ?_
      refine zF_while (X := Int × Int × Nat) (fun x => nH N + 1 - x.2.2) (fun x σ4 => x.2.2 ≤ nH N + 1 ∧ zFr (mLg hm A) (zsi σ hm ((5 : Nat) : Int) 0) σ4 ∧ (∀ h : Int, 0 ≤ h → h < N 0 → zia σ4 (A 14) h = bG N h (lmP N h)) ∧ bmJ N (100 * (f : Int) + 10 * (x.2.2 : Int)) x.1 x.2.1 ∧ x.2.1 ≤ 200000000) (fun x => [(4, zI (((x.2.2 : Nat) : Int) - 1)), (3, zI ((f : Nat) : Int)), (2, zI x.2.1), (1, zI x.1), (0, zR hm)]) ?_ (fo, mo, 0) σ3 (⟨Nat.zero_le _, fr3, g143, by show bmJ N (100 * (f : Int) + 10 * ((0 : Nat) : Int)) fo mo; rw [show 100 * (f : Int) + 10 * ((0 : Nat) : Int) = 100 * (f : Int) by omega]; exact j3, m3⟩)
      intro ⟨fo4, mo4, p⟩ σ4 hI49 ih49
      show zF G mX12_bestMove (d + 16) 49 [(4, zI (((p : Nat) : Int) - 1)), (3, zI ((f : Nat) : Int)), (2, zI mo4), (1, zI fo4), (0, zR hm)] [] σ4 _
      obtain ⟨hp, fr4, g144, j4, m4⟩ := hI49
      dsimp only at hp j4 m4
      have hM_σ4 : zMo σ4 hm A := zMo_fr hM0 fr4
      have hN_σ4 : zia σ4 (A 0) = N := mLg_N hM0 hN0 fr4
      refine zF_iload 51 dX12_bestMove_49 rfl rfl ?_
      refine zF_aload_n 52 dX12_bestMove_51 rfl rfl ?_
      refine zF_callVi 55 (d2 := (d + 15)) (as := []) dX12_bestMove_52 rfl kX12_105 iX12_houses (ci := 12) rfl eX12_houses (Nat.le_refl _) hM_σ4.1 hM_σ4.2.1 rfl rfl (Nat.le_of_ble_eq_true rfl) (zn_X12_houses hM_σ4 hN_σ4) ?_
      refine zF_icmp_ge 144 58 dX12_bestMove_55 rfl rfl (by first | decide | assumption | exact hb _ | exact zb_rg _ | (constructor <;> omega)) (by first | decide | assumption | exact hb _ | exact zb_rg _ | (constructor <;> omega)) (fun c3 => ?_) (fun c3 => ?_)
      · refine zF_iinc 147 (ls' := [(3, zI (((f : Nat) : Int) + 1)), (4, zI (((p : Nat) : Int) - 1)), (2, zI mo4), (1, zI fo4), (0, zR hm)]) dX12_bestMove_144 rfl rfl rfl (by decide) rfl ?_
        refine zF_goto 38 dX12_bestMove_147 rfl ?_
        exact zF_locs (ls' := [(3, zI (((f + 1) : Nat) : Int)), (2, zI mo4), (1, zI fo4), (0, zR hm)]) ⟨zlI rfl (by first | rfl | omega | (push_cast; omega) | exact congrArg (_ + ·) (zbT (by assumption)) | exact congrArg (_ + ·) (zbF (by assumption)) | exact congrArg (_ + ·) (zbT (by omega)) | exact congrArg (_ + ·) (zbF (by omega)) | exact congrArg (_ + ·) (if_pos (by omega)).symm | exact congrArg (_ + ·) (if_neg (by omega)).symm | exact (if_pos (by omega)).symm | exact (if_neg (by omega)).symm | exact zsub_s (if_pos (by omega)).symm | exact zsub_s0 (if_neg (by omega)).symm | exact zadd0 (if_neg (by omega)).symm | exact zadd0 (zbF (by omega)) | exact (Int.sub_zero _).symm), rfl, rfl, rfl, trivial⟩ (ih38 (fo4, mo4, (f + 1)) _ (by show nF N - (f + 1) < nF N - f; omega) (⟨by show f + 1 ≤ nF N; omega, fr4, g144, bmJ_skip j4 (by show _ ≤ 100 * ((f + 1 : Nat) : Int); omega) (fun f2 p2 q2 v l => by have l2 : 100 * f2 + 10 * (p2 + 1) + q2 + 1 < 100 * ((f + 1 : Nat) : Int) := l; unfold cdM; have := v.2.1; have := v.2.2; omega), m4⟩))
      · refine zF_iconst 59 dX12_bestMove_58 rfl ?_
        refine zF_istore 61 (ls' := [(5, zI (-1)), (4, zI (((p : Nat) : Int) - 1)), (3, zI ((f : Nat) : Int)), (2, zI mo4), (1, zI fo4), (0, zR hm)]) dX12_bestMove_59 rfl (by decide) rfl ?_
        refine zF_locs (ls' := [(5, zI (((0 : Nat) : Int) - 1)), (4, zI (((p : Nat) : Int) - 1)), (3, zI ((f : Nat) : Int)), (2, zI mo4), (1, zI fo4), (0, zR hm)]) ⟨zlI rfl (by first | rfl | omega | (push_cast; omega) | exact congrArg (_ + ·) (zbT (by assumption)) | exact congrArg (_ + ·) (zbF (by assumption)) | exact congrArg (_ + ·) (zbT (by omega)) | exact congrArg (_ + ·) (zbF (by omega)) | exact congrArg (_ + ·) (if_pos (by omega)).symm | exact congrArg (_ + ·) (if_neg (by omega)).symm | exact (if_pos (by omega)).symm | exact (if_neg (by omega)).symm | exact zsub_s (if_pos (by omega)).symm | exact zsub_s0 (if_neg (by omega)).symm | exact zadd0 (if_neg (by omega)).symm | exact zadd0 (zbF (by omega)) | exact (Int.sub_zero _).symm), rfl, rfl, rfl, rfl, rfl, trivial⟩ ?_
        refine zF_while (X := Int × Int × Nat) (fun x => nH N + 1 - x.2.2) (fun x σ5 => x.2.2 ≤ nH N + 1 ∧ zFr (mLg hm A) (zsi σ hm ((5 : Nat) : Int) 0) σ5 ∧ (∀ h : Int, 0 ≤ h → h < N 0 → zia σ5 (A 14) h = bG N h (lmP N h)) ∧ bmJ N (100 * (f : Int) + 10 * (p : Int) + (x.2.2 : Int)) x.1 x.2.1 ∧ x.2.1 ≤ 200000000) (fun x => [(5, zI (((x.2.2 : Nat) : Int) - 1)), (4, zI (((p : Nat) : Int) - 1)), (3, zI ((f : Nat) : Int)), (2, zI x.2.1), (1, zI x.1), (0, zR hm)]) ?_ (fo4, mo4, 0) σ4 (⟨Nat.zero_le _, fr4, g144, by show bmJ N (100 * (f : Int) + 10 * (p : Int) + ((0 : Nat) : Int)) fo4 mo4; rw [show 100 * (f : Int) + 10 * (p : Int) + ((0 : Nat) : Int) = 100 * (f : Int) + 10 * (p : Int) by omega]; exact j4, m4⟩)
        intro ⟨fo5, mo5, q⟩ σ5 hI61 ih61
        show zF G mX12_bestMove (d + 16) 61 [(5, zI (((q : Nat) : Int) - 1)), (4, zI (((p : Nat) : Int) - 1)), (3, zI ((f : Nat) : Int)), (2, zI mo5), (1, zI fo5), (0, zR hm)] [] σ5 _
        obtain ⟨hq, fr5, g145, j5, m5⟩ := hI61
        dsimp only at hq j5 m5
        have g14 := g145
        have hM_σ5 : zMo σ5 hm A := zMo_fr hM0 fr5
        have hN_σ5 : zia σ5 (A 0) = N := mLg_N hM0 hN0 fr5
        refine zF_iload 63 dX12_bestMove_61 rfl rfl ?_
        refine zF_aload_n 64 dX12_bestMove_63 rfl rfl ?_
        refine zF_callVi 67 (d2 := (d + 15)) (as := []) dX12_bestMove_64 rfl kX12_105 iX12_houses (ci := 12) rfl eX12_houses (Nat.le_refl _) hM_σ5.1 hM_σ5.2.1 rfl rfl (Nat.le_of_ble_eq_true rfl) (zn_X12_houses hM_σ5 hN_σ5) ?_
        refine zF_icmp_ge 138 70 dX12_bestMove_67 rfl rfl (by first | decide | assumption | exact hb _ | exact zb_rg _ | (constructor <;> omega)) (by first | decide | assumption | exact hb _ | exact zb_rg _ | (constructor <;> omega)) (fun c4 => ?_) (fun c4 => ?_)
        · refine zF_iinc 141 (ls' := [(4, zI ((((p : Nat) : Int) - 1) + 1)), (5, zI (((q : Nat) : Int) - 1)), (3, zI ((f : Nat) : Int)), (2, zI mo5), (1, zI fo5), (0, zR hm)]) dX12_bestMove_138 rfl rfl rfl (by decide) rfl ?_
          refine zF_goto 49 dX12_bestMove_141 rfl ?_
          exact zF_locs (ls' := [(4, zI ((((p + 1) : Nat) : Int) - 1)), (3, zI ((f : Nat) : Int)), (2, zI mo5), (1, zI fo5), (0, zR hm)]) ⟨zlI rfl (by first | rfl | omega | (push_cast; omega) | exact congrArg (_ + ·) (zbT (by assumption)) | exact congrArg (_ + ·) (zbF (by assumption)) | exact congrArg (_ + ·) (zbT (by omega)) | exact congrArg (_ + ·) (zbF (by omega)) | exact congrArg (_ + ·) (if_pos (by omega)).symm | exact congrArg (_ + ·) (if_neg (by omega)).symm | exact (if_pos (by omega)).symm | exact (if_neg (by omega)).symm | exact zsub_s (if_pos (by omega)).symm | exact zsub_s0 (if_neg (by omega)).symm | exact zadd0 (if_neg (by omega)).symm | exact zadd0 (zbF (by omega)) | exact (Int.sub_zero _).symm), rfl, rfl, rfl, rfl, trivial⟩ (ih49 (fo5, mo5, (p + 1)) _ (by show nH N + 1 - (p + 1) < nH N + 1 - p; omega) (⟨by show p + 1 ≤ nH N + 1; omega, fr5, g145, bmJ_skip j5 (by show _ ≤ 100 * (f : Int) + 10 * ((p + 1 : Nat) : Int); omega) (fun f2 p2 q2 v l => by unfold cdM; have := v.2.1; have := v.2.2; have l2 : 100 * f2 + 10 * (p2 + 1) + q2 + 1 < 100 * (f : Int) + 10 * ((p + 1 : Nat) : Int) := l; omega), m5⟩))
        · have vv : vT N (f : Int) ((p : Int) - 1) ((q : Int) - 1) := ⟨⟨by omega, by omega⟩, ⟨by omega, by omega⟩, by omega, by omega⟩
          have j50 := j5.1
          refine zF_aload_n 71 dX12_bestMove_70 rfl rfl ?_
          refine zF_iload_n 72 dX12_bestMove_71 rfl rfl ?_
          refine zF_iload 74 dX12_bestMove_72 rfl rfl ?_
          refine zF_iload 76 dX12_bestMove_74 rfl rfl ?_
          refine zF_callVi 79 (d2 := (d + 15)) (as := [zI ((f : Nat) : Int), zI (((p : Nat) : Int) - 1), zI (((q : Nat) : Int) - 1)]) dX12_bestMove_76 rfl kX12_286 iX12_canMove (ci := 12) rfl eX12_canMove (Nat.le_refl _) hM_σ5.1 hM_σ5.2.1 rfl rfl (Nat.le_of_ble_eq_true rfl) (zt_X12_canMove (f := ((f : Nat) : Int)) (p := (((p : Nat) : Int) - 1)) (q := (((q : Nat) : Int) - 1)) hM_σ5 hN_σ5 hV vv) ?_
          refine zF_ifb_eq 94 82 dX12_bestMove_79 rfl rfl (fun c5 => ?_) (fun c5 => ?_)
          · have kcm : ¬ cmP N (f : Int) ((p : Int) - 1) ((q : Int) - 1) := by assumption
            refine zF_iconst 95 dX12_bestMove_94 rfl ?_
            refine zF_istore 97 (ls' := [(6, zI 0), (5, zI (((q : Nat) : Int) - 1)), (4, zI (((p : Nat) : Int) - 1)), (3, zI ((f : Nat) : Int)), (2, zI mo5), (1, zI fo5), (0, zR hm)]) dX12_bestMove_95 rfl (by decide) rfl ?_
            refine zF_iload 99 dX12_bestMove_97 rfl rfl ?_
            refine zF_iload_n 100 dX12_bestMove_99 rfl rfl ?_
            refine zF_icmp_le 123 103 dX12_bestMove_100 rfl rfl (by first | decide | assumption | exact hb _ | exact zb_rg _ | (constructor <;> omega)) (by first | decide | assumption | exact hb _ | exact zb_rg _ | (constructor <;> omega)) (fun c6 => ?_) (fun c6 => ?_)
            · refine zF_iload_n 124 dX12_bestMove_123 rfl rfl ?_
              refine zF_istore_n 125 (ls' := [(1, zI fo5), (6, zI 0), (5, zI (((q : Nat) : Int) - 1)), (4, zI (((p : Nat) : Int) - 1)), (3, zI ((f : Nat) : Int)), (2, zI mo5), (0, zR hm)]) dX12_bestMove_124 rfl (by decide) rfl ?_
              refine zF_iload_n 126 dX12_bestMove_125 rfl rfl ?_
              refine zF_iload 128 dX12_bestMove_126 rfl rfl ?_
              refine zF_max 131 dX12_bestMove_128 rfl kX12_140 (Nat.le_refl _) (by first | decide | assumption | exact hb _ | exact zb_rg _ | (constructor <;> omega)) (by first | decide | assumption | exact hb _ | exact zb_rg _ | (constructor <;> omega)) (Nat.le_of_ble_eq_true rfl) ?_
              refine zF_istore_n 132 (ls' := [(2, zI (max mo5 0)), (1, zI fo5), (6, zI 0), (5, zI (((q : Nat) : Int) - 1)), (4, zI (((p : Nat) : Int) - 1)), (3, zI ((f : Nat) : Int)), (0, zR hm)]) dX12_bestMove_131 rfl (by decide) rfl ?_
              refine zF_iinc 135 (ls' := [(5, zI ((((q : Nat) : Int) - 1) + 1)), (2, zI (max mo5 0)), (1, zI fo5), (6, zI 0), (4, zI (((p : Nat) : Int) - 1)), (3, zI ((f : Nat) : Int)), (0, zR hm)]) dX12_bestMove_132 rfl rfl rfl (by decide) rfl ?_
              refine zF_goto 61 dX12_bestMove_135 rfl ?_
              exact zF_locs (ls' := [(5, zI ((((q + 1) : Nat) : Int) - 1)), (4, zI (((p : Nat) : Int) - 1)), (3, zI ((f : Nat) : Int)), (2, zI (max mo5 0)), (1, zI fo5), (0, zR hm)]) ⟨zlI rfl (by first | rfl | omega | (push_cast; omega) | exact congrArg (_ + ·) (zbT (by assumption)) | exact congrArg (_ + ·) (zbF (by assumption)) | exact congrArg (_ + ·) (zbT (by omega)) | exact congrArg (_ + ·) (zbF (by omega)) | exact congrArg (_ + ·) (if_pos (by omega)).symm | exact congrArg (_ + ·) (if_neg (by omega)).symm | exact (if_pos (by omega)).symm | exact (if_neg (by omega)).symm | exact zsub_s (if_pos (by omega)).symm | exact zsub_s0 (if_neg (by omega)).symm | exact zadd0 (if_neg (by omega)).symm | exact zadd0 (zbF (by omega)) | exact (Int.sub_zero _).symm), rfl, rfl, rfl, rfl, rfl, trivial⟩ (ih61 (fo5, (max mo5 0), (q + 1)) _ (by show nH N + 1 - (q + 1) < nH N + 1 - q; omega) (⟨by show q + 1 ≤ nH N + 1; omega, fr5, g145, by have js := bmJ_step (by omega) vv (show bmJ N (cdM (f : Int) ((p : Int) - 1) ((q : Int) - 1)) fo5 mo5 from (show 100 * (f : Int) + 10 * (p : Int) + (q : Int) = cdM (f : Int) ((p : Int) - 1) ((q : Int) - 1) by unfold cdM; omega) ▸ j5); rw [show bmM N (f : Int) ((p : Int) - 1) ((q : Int) - 1) = 0 from if_neg kcm] at js; rw [if_neg (by omega)] at js; rw [show cdM (f : Int) ((p : Int) - 1) ((q : Int) - 1) + 1 = 100 * (f : Int) + 10 * (p : Int) + ((q + 1 : Nat) : Int) by unfold cdM; omega] at js; first | exact js | (rw [show cdM (f : Int) ((p : Int) - 1) ((q : Int) - 1) = 100 * (f : Int) + 10 * (((p : Int) - 1) + 1) + ((q : Int) - 1) + 1 from rfl] at js; exact js), by show (max mo5 0) ≤ 200000000; omega⟩))
            · refine zF_bipush 105 dX12_bestMove_103 rfl (by decide) ?_
              refine zF_iload_n 106 dX12_bestMove_105 rfl rfl ?_
              refine zF_imul 107 dX12_bestMove_106 rfl ?_
              refine zF_bipush 109 dX12_bestMove_107 rfl (by decide) ?_
              refine zF_iload 111 dX12_bestMove_109 rfl rfl ?_
              refine zF_iconst 112 dX12_bestMove_111 rfl ?_
              refine zF_iadd 113 dX12_bestMove_112 rfl ?_
              refine zF_imul 114 dX12_bestMove_113 rfl ?_
              refine zF_iadd 115 dX12_bestMove_114 rfl ?_
              refine zF_iload 117 dX12_bestMove_115 rfl rfl ?_
              refine zF_iadd 118 dX12_bestMove_117 rfl ?_
              refine zF_iconst 119 dX12_bestMove_118 rfl ?_
              refine zF_iadd 120 dX12_bestMove_119 rfl ?_
              refine zF_goto 124 dX12_bestMove_120 rfl ?_
              refine zF_istore_n 125 (ls' := [(1, zI ((((100 * ((f : Nat) : Int)) + (10 * ((((p : Nat) : Int) - 1) + 1))) + (((q : Nat) : Int) - 1)) + 1)), (6, zI 0), (5, zI (((q : Nat) : Int) - 1)), (4, zI (((p : Nat) : Int) - 1)), (3, zI ((f : Nat) : Int)), (2, zI mo5), (0, zR hm)]) dX12_bestMove_124 rfl (by decide) rfl ?_
              refine zF_iload_n 126 dX12_bestMove_125 rfl rfl ?_
              refine zF_iload 128 dX12_bestMove_126 rfl rfl ?_
              refine zF_max 131 dX12_bestMove_128 rfl kX12_140 (Nat.le_refl _) (by first | decide | assumption | exact hb _ | exact zb_rg _ | (constructor <;> omega)) (by first | decide | assumption | exact hb _ | exact zb_rg _ | (constructor <;> omega)) (Nat.le_of_ble_eq_true rfl) ?_
              refine zF_istore_n 132 (ls' := [(2, zI (max mo5 0)), (1, zI ((((100 * ((f : Nat) : Int)) + (10 * ((((p : Nat) : Int) - 1) + 1))) + (((q : Nat) : Int) - 1)) + 1)), (6, zI 0), (5, zI (((q : Nat) : Int) - 1)), (4, zI (((p : Nat) : Int) - 1)), (3, zI ((f : Nat) : Int)), (0, zR hm)]) dX12_bestMove_131 rfl (by decide) rfl ?_
              refine zF_iinc 135 (ls' := [(5, zI ((((q : Nat) : Int) - 1) + 1)), (2, zI (max mo5 0)), (1, zI ((((100 * ((f : Nat) : Int)) + (10 * ((((p : Nat) : Int) - 1) + 1))) + (((q : Nat) : Int) - 1)) + 1)), (6, zI 0), (4, zI (((p : Nat) : Int) - 1)), (3, zI ((f : Nat) : Int)), (0, zR hm)]) dX12_bestMove_132 rfl rfl rfl (by decide) rfl ?_
              refine zF_goto 61 dX12_bestMove_135 rfl ?_
              exact zF_locs (ls' := [(5, zI ((((q + 1) : Nat) : Int) - 1)), (4, zI (((p : Nat) : Int) - 1)), (3, zI ((f : Nat) : Int)), (2, zI (max mo5 0)), (1, zI ((((100 * ((f : Nat) : Int)) + (10 * ((((p : Nat) : Int) - 1) + 1))) + (((q : Nat) : Int) - 1)) + 1)), (0, zR hm)]) ⟨zlI rfl (by first | rfl | omega | (push_cast; omega) | exact congrArg (_ + ·) (zbT (by assumption)) | exact congrArg (_ + ·) (zbF (by assumption)) | exact congrArg (_ + ·) (zbT (by omega)) | exact congrArg (_ + ·) (zbF (by omega)) | exact congrArg (_ + ·) (if_pos (by omega)).symm | exact congrArg (_ + ·) (if_neg (by omega)).symm | exact (if_pos (by omega)).symm | exact (if_neg (by omega)).symm | exact zsub_s (if_pos (by omega)).symm | exact zsub_s0 (if_neg (by omega)).symm | exact zadd0 (if_neg (by omega)).symm | exact zadd0 (zbF (by omega)) | exact (Int.sub_zero _).symm), rfl, rfl, rfl, rfl, rfl, trivial⟩ (ih61 (((((100 * ((f : Nat) : Int)) + (10 * ((((p : Nat) : Int) - 1) + 1))) + (((q : Nat) : Int) - 1)) + 1), (max mo5 0), (q + 1)) _ (by show nH N + 1 - (q + 1) < nH N + 1 - q; omega) (⟨by show q + 1 ≤ nH N + 1; omega, fr5, g145, by have js := bmJ_step (by omega) vv (show bmJ N (cdM (f : Int) ((p : Int) - 1) ((q : Int) - 1)) fo5 mo5 from (show 100 * (f : Int) + 10 * (p : Int) + (q : Int) = cdM (f : Int) ((p : Int) - 1) ((q : Int) - 1) by unfold cdM; omega) ▸ j5); rw [show bmM N (f : Int) ((p : Int) - 1) ((q : Int) - 1) = 0 from if_neg kcm] at js; rw [if_pos (by omega)] at js; rw [show cdM (f : Int) ((p : Int) - 1) ((q : Int) - 1) + 1 = 100 * (f : Int) + 10 * (p : Int) + ((q + 1 : Nat) : Int) by unfold cdM; omega] at js; first | exact js | (rw [show cdM (f : Int) ((p : Int) - 1) ((q : Int) - 1) = 100 * (f : Int) + 10 * (((p : Int) - 1) + 1) + ((q : Int) - 1) + 1 from rfl] at js; exact js), by show (max mo5 0) ≤ 200000000; omega⟩))
          · have kcm : cmP N (f : Int) ((p : Int) - 1) ((q : Int) - 1) := by assumption
            refine zF_aload_n 83 dX12_bestMove_82 rfl rfl ?_
            refine zF_iload_n 84 dX12_bestMove_83 rfl rfl ?_
            refine zF_iload 86 dX12_bestMove_84 rfl rfl ?_
            refine zF_iload 88 dX12_bestMove_86 rfl rfl ?_
            refine zF_callV 91 (d2 := (d + 15)) (as := [zI ((f : Nat) : Int), zI (((p : Nat) : Int) - 1), zI (((q : Nat) : Int) - 1)]) dX12_bestMove_88 rfl kX12_289 iX12_moreBy (ci := 12) rfl eX12_moreBy (Nat.le_refl _) hM_σ5.1 hM_σ5.2.1 rfl rfl (Nat.le_of_ble_eq_true rfl) (zE.mono (zt_X12_moreBy (σ := σ5) (f := ((f : Nat) : Int)) (p := (((p : Nat) : Int) - 1)) (q := (((q : Nat) : Int) - 1)) hM_σ5 hN_σ5 hV hQ.c ⟨vv.1, vv.2.1, vv.2.2, kcm.1, kcm.2.1, kcm.2.2.1⟩ g14 g15) fun ro σa1 hh1 => ?_)
            obtain ⟨er1, fr1, p1⟩ := hh1
            subst er1
            refine ⟨fr1.1, ?_⟩
            show zF G mX12_bestMove (d + 16) 91 [(5, zI (((q : Nat) : Int) - 1)), (4, zI (((p : Nat) : Int) - 1)), (3, zI ((f : Nat) : Int)), (2, zI mo5), (1, zI fo5), (0, zR hm)] [zI (mbV N ((f : Nat) : Int) (((p : Nat) : Int) - 1) (((q : Nat) : Int) - 1))] σa1 _
            have hMa1 := zMo_f2 fr1 hM_σ5
            have hNa1 : zia σa1 (A 0) = N := mLb_N (σ := σ5) hM_σ5 hN_σ5 fr1
            refine zF_goto 95 dX12_bestMove_91 rfl ?_
            refine zF_istore 97 (ls' := [(6, zI (mbV N ((f : Nat) : Int) (((p : Nat) : Int) - 1) (((q : Nat) : Int) - 1))), (5, zI (((q : Nat) : Int) - 1)), (4, zI (((p : Nat) : Int) - 1)), (3, zI ((f : Nat) : Int)), (2, zI mo5), (1, zI fo5), (0, zR hm)]) dX12_bestMove_95 rfl (by decide) rfl ?_
            have qmb := p1
            refine zF_iload 99 dX12_bestMove_97 rfl rfl ?_
            refine zF_iload_n 100 dX12_bestMove_99 rfl rfl ?_
            refine zF_icmp_le 123 103 dX12_bestMove_100 rfl rfl (by first | decide | assumption | exact hb _ | exact zb_rg _ | (constructor <;> omega)) (by first | decide | assumption | exact hb _ | exact zb_rg _ | (constructor <;> omega)) (fun c7 => ?_) (fun c7 => ?_)
            · refine zF_iload_n 124 dX12_bestMove_123 rfl rfl ?_
              refine zF_istore_n 125 (ls' := [(1, zI fo5), (6, zI (mbV N ((f : Nat) : Int) (((p : Nat) : Int) - 1) (((q : Nat) : Int) - 1))), (5, zI (((q : Nat) : Int) - 1)), (4, zI (((p : Nat) : Int) - 1)), (3, zI ((f : Nat) : Int)), (2, zI mo5), (0, zR hm)]) dX12_bestMove_124 rfl (by decide) rfl ?_
              refine zF_iload_n 126 dX12_bestMove_125 rfl rfl ?_
              refine zF_iload 128 dX12_bestMove_126 rfl rfl ?_
              refine zF_max 131 dX12_bestMove_128 rfl kX12_140 (Nat.le_refl _) (by first | decide | assumption | exact hb _ | exact zb_rg _ | (constructor <;> omega)) (by first | decide | assumption | exact hb _ | exact zb_rg _ | (constructor <;> omega)) (Nat.le_of_ble_eq_true rfl) ?_
              refine zF_istore_n 132 (ls' := [(2, zI (max mo5 (mbV N ((f : Nat) : Int) (((p : Nat) : Int) - 1) (((q : Nat) : Int) - 1)))), (1, zI fo5), (6, zI (mbV N ((f : Nat) : Int) (((p : Nat) : Int) - 1) (((q : Nat) : Int) - 1))), (5, zI (((q : Nat) : Int) - 1)), (4, zI (((p : Nat) : Int) - 1)), (3, zI ((f : Nat) : Int)), (0, zR hm)]) dX12_bestMove_131 rfl (by decide) rfl ?_
              refine zF_iinc 135 (ls' := [(5, zI ((((q : Nat) : Int) - 1) + 1)), (2, zI (max mo5 (mbV N ((f : Nat) : Int) (((p : Nat) : Int) - 1) (((q : Nat) : Int) - 1)))), (1, zI fo5), (6, zI (mbV N ((f : Nat) : Int) (((p : Nat) : Int) - 1) (((q : Nat) : Int) - 1))), (4, zI (((p : Nat) : Int) - 1)), (3, zI ((f : Nat) : Int)), (0, zR hm)]) dX12_bestMove_132 rfl rfl rfl (by decide) rfl ?_
              refine zF_goto 61 dX12_bestMove_135 rfl ?_
              exact zF_locs (ls' := [(5, zI ((((q + 1) : Nat) : Int) - 1)), (4, zI (((p : Nat) : Int) - 1)), (3, zI ((f : Nat) : Int)), (2, zI (max mo5 (mbV N ((f : Nat) : Int) (((p : Nat) : Int) - 1) (((q : Nat) : Int) - 1)))), (1, zI fo5), (0, zR hm)]) ⟨zlI rfl (by first | rfl | omega | (push_cast; omega) | exact congrArg (_ + ·) (zbT (by assumption)) | exact congrArg (_ + ·) (zbF (by assumption)) | exact congrArg (_ + ·) (zbT (by omega)) | exact congrArg (_ + ·) (zbF (by omega)) | exact congrArg (_ + ·) (if_pos (by omega)).symm | exact congrArg (_ + ·) (if_neg (by omega)).symm | exact (if_pos (by omega)).symm | exact (if_neg (by omega)).symm | exact zsub_s (if_pos (by omega)).symm | exact zsub_s0 (if_neg (by omega)).symm | exact zadd0 (if_neg (by omega)).symm | exact zadd0 (zbF (by omega)) | exact (Int.sub_zero _).symm), rfl, rfl, rfl, rfl, rfl, trivial⟩ (ih61 (fo5, (max mo5 (mbV N ((f : Nat) : Int) (((p : Nat) : Int) - 1) (((q : Nat) : Int) - 1))), (q + 1)) _ (by show nH N + 1 - (q + 1) < nH N + 1 - q; omega) (⟨by show q + 1 ≤ nH N + 1; omega, (fr5.tr (fr1.wk fun _ _ q => Or.inr q)), (fun h a b => (fr1.2.2.2.2.2 _ _ (mLb_no hM (by decide) (by decide) (by decide) (by decide))).trans (g145 h a b)), by have js := bmJ_step (by omega) vv (show bmJ N (cdM (f : Int) ((p : Int) - 1) ((q : Int) - 1)) fo5 mo5 from (show 100 * (f : Int) + 10 * (p : Int) + (q : Int) = cdM (f : Int) ((p : Int) - 1) ((q : Int) - 1) by unfold cdM; omega) ▸ j5); rw [show bmM N (f : Int) ((p : Int) - 1) ((q : Int) - 1) = mbV N (f : Int) ((p : Int) - 1) ((q : Int) - 1) from if_pos kcm] at js; rw [if_neg (by omega)] at js; rw [show cdM (f : Int) ((p : Int) - 1) ((q : Int) - 1) + 1 = 100 * (f : Int) + 10 * (p : Int) + ((q + 1 : Nat) : Int) by unfold cdM; omega] at js; first | exact js | (rw [show cdM (f : Int) ((p : Int) - 1) ((q : Int) - 1) = 100 * (f : Int) + 10 * (((p : Int) - 1) + 1) + ((q : Int) - 1) + 1 from rfl] at js; exact js), by show (max mo5 (mbV N ((f : Nat) : Int) (((p : Nat) : Int) - 1) (((q : Nat) : Int) - 1))) ≤ 200000000; omega⟩))
            · refine zF_bipush 105 dX12_bestMove_103 rfl (by decide) ?_
              refine zF_iload_n 106 dX12_bestMove_105 rfl rfl ?_
              refine zF_imul 107 dX12_bestMove_106 rfl ?_
              refine zF_bipush 109 dX12_bestMove_107 rfl (by decide) ?_
              refine zF_iload 111 dX12_bestMove_109 rfl rfl ?_
              refine zF_iconst 112 dX12_bestMove_111 rfl ?_
              refine zF_iadd 113 dX12_bestMove_112 rfl ?_
              refine zF_imul 114 dX12_bestMove_113 rfl ?_
              refine zF_iadd 115 dX12_bestMove_114 rfl ?_
              refine zF_iload 117 dX12_bestMove_115 rfl rfl ?_
              refine zF_iadd 118 dX12_bestMove_117 rfl ?_
              refine zF_iconst 119 dX12_bestMove_118 rfl ?_
              refine zF_iadd 120 dX12_bestMove_119 rfl ?_
              refine zF_goto 124 dX12_bestMove_120 rfl ?_
              refine zF_istore_n 125 (ls' := [(1, zI ((((100 * ((f : Nat) : Int)) + (10 * ((((p : Nat) : Int) - 1) + 1))) + (((q : Nat) : Int) - 1)) + 1)), (6, zI (mbV N ((f : Nat) : Int) (((p : Nat) : Int) - 1) (((q : Nat) : Int) - 1))), (5, zI (((q : Nat) : Int) - 1)), (4, zI (((p : Nat) : Int) - 1)), (3, zI ((f : Nat) : Int)), (2, zI mo5), (0, zR hm)]) dX12_bestMove_124 rfl (by decide) rfl ?_
              refine zF_iload_n 126 dX12_bestMove_125 rfl rfl ?_
              refine zF_iload 128 dX12_bestMove_126 rfl rfl ?_
              refine zF_max 131 dX12_bestMove_128 rfl kX12_140 (Nat.le_refl _) (by first | decide | assumption | exact hb _ | exact zb_rg _ | (constructor <;> omega)) (by first | decide | assumption | exact hb _ | exact zb_rg _ | (constructor <;> omega)) (Nat.le_of_ble_eq_true rfl) ?_
              refine zF_istore_n 132 (ls' := [(2, zI (max mo5 (mbV N ((f : Nat) : Int) (((p : Nat) : Int) - 1) (((q : Nat) : Int) - 1)))), (1, zI ((((100 * ((f : Nat) : Int)) + (10 * ((((p : Nat) : Int) - 1) + 1))) + (((q : Nat) : Int) - 1)) + 1)), (6, zI (mbV N ((f : Nat) : Int) (((p : Nat) : Int) - 1) (((q : Nat) : Int) - 1))), (5, zI (((q : Nat) : Int) - 1)), (4, zI (((p : Nat) : Int) - 1)), (3, zI ((f : Nat) : Int)), (0, zR hm)]) dX12_bestMove_131 rfl (by decide) rfl ?_
              refine zF_iinc 135 (ls' := [(5, zI ((((q : Nat) : Int) - 1) + 1)), (2, zI (max mo5 (mbV N ((f : Nat) : Int) (((p : Nat) : Int) - 1) (((q : Nat) : Int) - 1)))), (1, zI ((((100 * ((f : Nat) : Int)) + (10 * ((((p : Nat) : Int) - 1) + 1))) + (((q : Nat) : Int) - 1)) + 1)), (6, zI (mbV N ((f : Nat) : Int) (((p : Nat) : Int) - 1) (((q : Nat) : Int) - 1))), (4, zI (((p : Nat) : Int) - 1)), (3, zI ((f : Nat) : Int)), (0, zR hm)]) dX12_bestMove_132 rfl rfl rfl (by decide) rfl ?_
              refine zF_goto 61 dX12_bestMove_135 rfl ?_
              exact zF_locs (ls' := [(5, zI ((((q + 1) : Nat) : Int) - 1)), (4, zI (((p : Nat) : Int) - 1)), (3, zI ((f : Nat) : Int)), (2, zI (max mo5 (mbV N ((f : Nat) : Int) (((p : Nat) : Int) - 1) (((q : Nat) : Int) - 1)))), (1, zI ((((100 * ((f : Nat) : Int)) + (10 * ((((p : Nat) : Int) - 1) + 1))) + (((q : Nat) : Int) - 1)) + 1)), (0, zR hm)]) ⟨zlI rfl (by first | rfl | omega | (push_cast; omega) | exact congrArg (_ + ·) (zbT (by assumption)) | exact congrArg (_ + ·) (zbF (by assumption)) | exact congrArg (_ + ·) (zbT (by omega)) | exact congrArg (_ + ·) (zbF (by omega)) | exact congrArg (_ + ·) (if_pos (by omega)).symm | exact congrArg (_ + ·) (if_neg (by omega)).symm | exact (if_pos (by omega)).symm | exact (if_neg (by omega)).symm | exact zsub_s (if_pos (by omega)).symm | exact zsub_s0 (if_neg (by omega)).symm | exact zadd0 (if_neg (by omega)).symm | exact zadd0 (zbF (by omega)) | exact (Int.sub_zero _).symm), rfl, rfl, rfl, rfl, rfl, trivial⟩ (ih61 (((((100 * ((f : Nat) : Int)) + (10 * ((((p : Nat) : Int) - 1) + 1))) + (((q : Nat) : Int) - 1)) + 1), (max mo5 (mbV N ((f : Nat) : Int) (((p : Nat) : Int) - 1) (((q : Nat) : Int) - 1))), (q + 1)) _ (by show nH N + 1 - (q + 1) < nH N + 1 - q; omega) (⟨by show q + 1 ≤ nH N + 1; omega, (fr5.tr (fr1.wk fun _ _ q => Or.inr q)), (fun h a b => (fr1.2.2.2.2.2 _ _ (mLb_no hM (by decide) (by decide) (by decide) (by decide))).trans (g145 h a b)), by have js := bmJ_step (by omega) vv (show bmJ N (cdM (f : Int) ((p : Int) - 1) ((q : Int) - 1)) fo5 mo5 from (show 100 * (f : Int) + 10 * (p : Int) + (q : Int) = cdM (f : Int) ((p : Int) - 1) ((q : Int) - 1) by unfold cdM; omega) ▸ j5); rw [show bmM N (f : Int) ((p : Int) - 1) ((q : Int) - 1) = mbV N (f : Int) ((p : Int) - 1) ((q : Int) - 1) from if_pos kcm] at js; rw [if_pos (by omega)] at js; rw [show cdM (f : Int) ((p : Int) - 1) ((q : Int) - 1) + 1 = 100 * (f : Int) + 10 * (p : Int) + ((q + 1 : Nat) : Int) by unfold cdM; omega] at js; first | exact js | (rw [show cdM (f : Int) ((p : Int) - 1) ((q : Int) - 1) = 100 * (f : Int) + 10 * (((p : Int) - 1) + 1) + ((q : Int) - 1) + 1 from rfl] at js; exact js), by show (max mo5 (mbV N ((f : Nat) : Int) (((p : Nat) : Int) - 1) (((q : Nat) : Int) - 1))) ≤ 200000000; omega⟩))
  · refine zF_aload_n 16 dX12_bestMove_15 rfl rfl ?_
    refine zF_getR 19 dX12_bestMove_16 rfl gX12_38 hM_σ2.1 hM_σ2.2.1 (zM_14 hM_σ2).1 ?_
    refine zF_iload_n 20 dX12_bestMove_19 rfl rfl ?_
    refine zF_aload_n 21 dX12_bestMove_20 rfl rfl ?_
    refine zF_iload_n 22 dX12_bestMove_21 rfl rfl ?_
    refine zF_callV 25 (d2 := (d + 15)) (as := [zI ((x : Nat) : Int)]) dX12_bestMove_22 rfl kX12_231 iX12_gainIn (ci := 12) rfl eX12_gainIn (Nat.le_refl _) hM_σ2.1 hM_σ2.2.1 rfl rfl (Nat.le_of_ble_eq_true rfl) (zE.mono (zt_X12_gainIn (σ := σ2) hM_σ2 hN_σ2 hV hQ.c (by omega) (by omega)) fun ro σa2 hh2 => ?_)
    obtain ⟨er2, fr2, p2⟩ := hh2
    subst er2
    refine ⟨fr2.1, ?_⟩
    show zF G mX12_bestMove (d + 16) 25 [(1, zI ((x : Nat) : Int)), (0, zR hm)] [zI (bG N ((x : Nat) : Int) (lmP N ((x : Nat) : Int))), zI ((x : Nat) : Int), zR (A 14)] σa2 _
    have hMa2 := zMo_f2 fr2 hM_σ2
    have hNa2 : zia σa2 (A 0) = N := mLb_N (σ := σ2) hM_σ2 hN_σ2 fr2
    have gb2 := bG_r hV hQ.c (by omega) (by omega) p2
    refine zF_iastore 26 dX12_bestMove_25 rfl (zM_14 hMa2).2.2 (zM_14 hMa2).2.1 (by omega) (by omega) ?_
    refine zF_iinc 29 (ls' := [(1, zI (((x : Nat) : Int) + 1)), (0, zR hm)]) dX12_bestMove_26 rfl rfl rfl (by decide) rfl ?_
    refine zF_goto 7 dX12_bestMove_29 rfl ?_
    exact zF_locs (ls' := [(1, zI (((x + 1) : Nat) : Int)), (0, zR hm)]) ⟨zlI rfl (by first | rfl | omega | (push_cast; omega) | exact congrArg (_ + ·) (zbT (by assumption)) | exact congrArg (_ + ·) (zbF (by assumption)) | exact congrArg (_ + ·) (zbT (by omega)) | exact congrArg (_ + ·) (zbF (by omega)) | exact congrArg (_ + ·) (if_pos (by omega)).symm | exact congrArg (_ + ·) (if_neg (by omega)).symm | exact (if_pos (by omega)).symm | exact (if_neg (by omega)).symm | exact zsub_s (if_pos (by omega)).symm | exact zsub_s0 (if_neg (by omega)).symm | exact zadd0 (if_neg (by omega)).symm | exact zadd0 (zbF (by omega)) | exact (Int.sub_zero _).symm), rfl, trivial⟩ (ih7 (x + 1) _ (by omega) (⟨by omega, zFr_si (Or.inl rfl) (frg.tr (fr2.wk fun _ _ q => Or.inr q)), g14_st (fun h a b => (fr2.2.2.2.2.2 _ _ (mLb_no hM (by decide) (by decide) (by decide) (by decide))).trans (ggg h a b)) rfl, fun h a b => by
        by_cases c : h = (x : Int)
        · rw [c]; exact gb2
        · exact gbg h a (by omega)⟩))
end ZQ7

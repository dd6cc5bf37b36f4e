/-! the reference: the best programs asked for -/
section ZQ5
variable {G : zG} {d : Nat} {σ : zMem} {hm : Nat} {A : Nat → Nat} {N : Int → Int}
def lmP (N : Int → Int) (h : Int) : Int → Int := fun f => mP N f h
def limD (N : Int → Int) (h f v : Int) : Int → Int := fun g => if g = f then mP N f h + v else mP N g h
theorem rk_sum (N : Int → Int) (h : Int) (y : Int → Int) : zsum (fun k => y (rk N h k)) (nn N h) = zsum (fun s => if mS N s 0 = h then y s else 0) (nS N) := by
  have key : ∀ n : Nat, n ≤ nS N → zsum (fun k => y (rk N h k)) (mCn N h n).toNat = zsum (fun s => if mS N s 0 = h then y s else 0) n := by
    intro n
    induction n with
    | zero => intro _; rfl
    | succ n ih =>
      intro hn
      have i := ih (by omega)
      have b := mCn_b N h n
      show _ = zsum (fun s => if mS N s 0 = h then y s else 0) n + (if mS N n 0 = h then y n else 0)
      rw [mCn_s]
      by_cases c : mS N n 0 = h
      · rw [← zbT c, if_pos c, ← i, show (mCn N h n + 1).toNat = (mCn N h n).toNat + 1 by omega]
        show zsum _ _ + y (rk N h ((mCn N h n).toNat : Int)) = _
        rw [show (((mCn N h n).toNat : Nat) : Int) = mCn N h n by omega, rk_inj N h (by omega) c]
      · rw [← zbF c, if_neg c, ← i, Int.add_zero, Int.add_zero]
  exact key _ (Nat.le_refl _)
theorem pG_ok (hV : mV N) (hQ : mC4 N) {h : Int} (h0 : 0 ≤ h) (h1 : h < 4) {lim t : Int → Int} (e : ∀ f, 0 ≤ f → f < N 2 → pCnt t f (nn N h) ≤ lim f) : 0 ≤ pG N h lim t := by
  have hf := nF_eq hV
  have key : ∀ m : Nat, m ≤ nF N → 0 ≤ pGN N h lim t m := by
    intro m
    induction m with
    | zero => intro _; exact Int.le_refl _
    | succ m ih =>
      intro hm
      have a := ih (by omega)
      have b := pG1_p hV hQ h0 h1 lim t (f := (m : Int)) (by omega) (by omega)
      have c := e m (by omega) (by omega)
      unfold pGN
      rw [if_neg (by omega)]
      omega
  exact key _ (Nat.le_refl _)
/-- the present bookings of the held screens can be had -/
theorem bG_ok (hV : mV N) (hX : mX N) (hQ : mQ N) {h : Int} (h0 : 0 ≤ h) (h1 : h < N 0) (hx : ∃ b, pMax N h (lmP N h) (ch0 N h) b) : 0 ≤ bG N h (lmP N h) := by
  have hn := hV.n
  obtain ⟨b, hb⟩ := hx
  rw [← bG_eq hb]
  have v := iT_v hV (h := h) (t := iT N h) (fun k _ _ => rfl)
  refine Int.le_trans (pG_ok hV hQ.c h0 (by omega) fun f f0 f1 => ?_) (hb.2 _ v.1)
  have q := (mNeed_le (hV.p f h f0 (by omega) (by omega) (by omega)).1).mp (hQ.p h f h0 h1 f0 f1) 0 (by omega)
  refine Int.le_trans ?_ q
  have e : pCnt (iT N h) f (nn N h) = zsum (fun s => if mS N s 0 = h then zb ((if mS N s 7 = 1 then mS N s 4 else -1) = f) else 0) (nS N) := rk_sum N h (fun s => zb ((if mS N s 7 = 1 then mS N s 4 else -1) = f))
  rw [e]
  have hs := nS_eq hV
  have le : ∀ n : Nat, n ≤ nS N → zsum (fun s => if mS N s 0 = h then zb ((if mS N s 7 = 1 then mS N s 4 else -1) = f) else 0) n ≤ mCntN N h f ((0 : Nat) : Int) n := by
    intro n
    induction n with
    | zero => intro _; exact Int.le_refl _
    | succ n ih =>
      intro hn2
      have i := ih (by omega)
      show _ + (if mS N n 0 = h then zb ((if mS N n 7 = 1 then mS N n 4 else -1) = f) else 0) ≤ mCntN N h f ((0 : Nat) : Int) n + zb (mS N n 0 = h ∧ mSh N n ((0 : Nat) : Int) = f)
      have g := zb_ge (mS N n 0 = h ∧ mSh N n ((0 : Nat) : Int) = f)
      by_cases c : mS N n 0 = h
      · rw [if_pos c]
        by_cases c7 : mS N n 7 = 1
        · rw [if_pos c7]
          have h5 := (hX n (by omega) (by omega)).2 c7
          have sh : mSh N n ((0 : Nat) : Int) = mS N n 4 := by unfold mSh; rw [if_neg (fun z => z.1 h5)]
          rw [sh, zb_congr (p := mS N n 0 = h ∧ mS N n 4 = f) (q := mS N n 4 = f) ⟨fun z => z.2, fun z => ⟨c, z⟩⟩]
          omega
        · rw [if_neg c7, ← zbF (p := (-1 : Int) = f) (by omega)]; omega
      · rw [if_neg c]; omega
  exact le _ (Nat.le_refl _)
def mHs (N : Int → Int) (h f : Int) (n : Nat) : Int := zsum (fun s => zb (mS N s 0 = h ∧ mS N s 7 = 1 ∧ mS N s 4 = f)) n
theorem mHs_b (N : Int → Int) (h f : Int) (n : Nat) : 0 ≤ mHs N h f n ∧ mHs N h f n ≤ n := by
  have a := zsum_ge (f := fun s => zb (mS N s 0 = h ∧ mS N s 7 = 1 ∧ mS N s 4 = f)) (n := n) (a := 0) fun i _ => zb_ge _
  have b := zsum_le (f := fun s => zb (mS N s 0 = h ∧ mS N s 7 = 1 ∧ mS N s 4 = f)) (n := n) (a := 1) fun i _ => zb_le _
  unfold mHs
  omega
abbrev cmP (N : Int → Int) (f p q : Int) : Prop := p ≠ q ∧ 0 < mP N f p ∧ mP N f q < 9 ∧ (p = -1 ∨ mHs N p f (nS N) < mP N f p)
noncomputable def mbV (N : Int → Int) (f p q : Int) : Int := (if p = -1 then 0 else bG N p (limD N p f (-1)) - bG N p (lmP N p)) + (if q = -1 then 0 else bG N q (limD N q f 1) - bG N q (lmP N q))
theorem pG_lim {h : Int} {lim lim' t : Int → Int} (hV : mV N) (e : ∀ f, 0 ≤ f → f < N 2 → lim f = lim' f) : pG N h lim t = pG N h lim' t := by
  have hf := nF_eq hV
  have key : ∀ m : Nat, m ≤ nF N → pGN N h lim t m = pGN N h lim' t m := by
    intro m
    induction m with
    | zero => intro _; rfl
    | succ m ih =>
      intro hm
      have g : pG1 N h lim t m = pG1 N h lim' t m := by unfold pG1; rw [e m (by omega) (by omega)]
      unfold pGN
      rw [ih (by omega), g]
  exact key _ (Nat.le_refl _)
theorem pMax_lim {h : Int} {lim lim' ch : Int → Int} (hV : mV N) (e : ∀ f, 0 ≤ f → f < N 2 → lim f = lim' f) {b : Int} (x : pMax N h lim ch b) : pMax N h lim' ch b := by
  obtain ⟨⟨t, t1, t2⟩, x2⟩ := x
  exact ⟨⟨t, t1, by rw [← pG_lim hV e]; exact t2⟩, fun u hu => by rw [← pG_lim hV e]; exact x2 u hu⟩
/-- prints aside, everything that a program's gain asks is the same -/
def pE (N N' : Int → Int) : Prop := ∀ j, ¬ (154 ≤ j ∧ j < 184) → N' j = N j
theorem pMax_pE {N' : Int → Int} (hV : mV N) (hQ : mC4 N) (o : pE N N') {h : Int} (h0 : 0 ≤ h) (h1 : h < 4) {lim : Int → Int} {b : Int} (x : pMax N' h lim (ch0 N' h) b) : pMax N h lim (ch0 N h) b := by
  have hn := hV.n
  have hs := nS_eq hV
  have hf := nF_eq hV
  have i : ∀ j, j < 154 ∨ 184 ≤ j → N' j = N j := fun j hj => o j (by omega)
  have eS : nS N' = nS N := by unfold nS; rw [i 1 (by omega)]
  have eF : nF N' = nF N := by unfold nF; rw [i 2 (by omega)]
  have sS : ∀ s k : Int, s < 10 → 0 ≤ k → k < 8 → mS N' s k = mS N s k := fun s k s1 k0 k1 => i _ (by omega)
  have cn : ∀ n : Nat, n ≤ 10 → mCn N' h n = mCn N h n := fun n hn2 => zsum_congr fun s hs2 => by rw [sS s 0 (by omega) (by omega) (by omega)]
  have en : nn N' h = nn N h := by unfold nn; rw [eS, cn _ hs.2]
  have er : ∀ k, rk N' h k = rk N h k := fun k => by
    unfold rk
    rw [eS]
    have key : ∀ n : Nat, n ≤ 10 → rkN N' h n k = rkN N h n k := by
      intro n
      induction n with
      | zero => intro _; rfl
      | succ n ih =>
        intro hn2
        unfold rkN
        rw [sS n 0 (by omega) (by omega) (by omega), cn n (by omega), ih (by omega)]
    exact key _ hs.2
  have q4 := (nn_eq hQ h).2
  have r4 : ∀ k : Nat, k < nn N h → 0 ≤ rk N h k ∧ rk N h k < 10 := fun k hk => by
    have := rk_b hV (h := h) (k := (k : Int)) (by omega) (by omega)
    omega
  have ec : ∀ k : Nat, k < nn N h → ch0 N' h k = ch0 N h k := fun k hk => by
    have := r4 k hk
    unfold ch0
    rw [er, sS _ 7 (by omega) (by omega) (by omega), sS _ 4 (by omega) (by omega) (by omega)]
  have ev : ∀ t, pVc (N' 2) (ch0 N' h) (nn N' h) t ↔ pVc (N 2) (ch0 N h) (nn N h) t := fun t => by
    rw [en, i 2 (by omega)]
    exact ⟨fun z k hk => by rw [← ec k hk]; exact z k hk, fun z k hk => by rw [ec k hk]; exact z k hk⟩
  have eg : ∀ t, pG N' h lim t = pG N h lim t := fun t => by
    have key : ∀ m : Nat, m ≤ nF N → pGN N' h lim t m = pGN N h lim t m := by
      intro m
      induction m with
      | zero => intro _; rfl
      | succ m ih =>
        intro hm
        have fF : ∀ k, 0 ≤ k → k < 10 → mF N' m k = mF N m k := fun k k0 k1 => i _ (by omega)
        have eR : mR N' h m = mR N h m := i _ (by omega)
        have eI : mIdx N' h m = mIdx N h m := by unfold mIdx; rw [eR, fF 3 (by omega) (by omega)]
        have mi := mIdx_b hV h0 h1 (f := (m : Int)) (by omega) (by omega)
        have er2 : pRoom N' h t m (nn N' h) = pRoom N h t m (nn N h) := by
          rw [en]
          refine zsum_congr fun k hk => ?_
          have := r4 k hk
          unfold mCap
          rw [er, sS _ 1 (by omega) (by omega) (by omega), sS _ 2 (by omega) (by omega) (by omega)]
        have eH : mH N' h 0 = mH N h 0 := i _ (by omega)
        have eT : pTk N' h t m = pTk N h t m := by
          unfold pTk
          rw [er2, eH, mDem_congr (fF 0 (by omega) (by omega)) (fF 1 (by omega) (by omega)) (fF 8 (by omega) (by omega)) (i 3 (by omega))]
        have eSh : ∀ x, mShare N' h m x = mShare N h m x := fun x => by
          unfold mShare
          rw [eI, fF (4 + mIdx N h m) (by omega) (by omega), fF 2 (by omega) (by omega)]
        have g : pG1 N' h lim t m = pG1 N h lim t m := by unfold pG1; rw [en, eT, eSh]
        unfold pGN
        rw [ih (by omega), g]
    unfold pG
    rw [eF]
    exact key _ (Nat.le_refl _)
  obtain ⟨⟨t, t1, t2⟩, x2⟩ := x
  exact ⟨⟨t, (ev t).mp t1, by rw [← eg]; exact t2⟩, fun u hu => by rw [← eg]; exact x2 u ((ev u).mpr hu)⟩
end ZQ5

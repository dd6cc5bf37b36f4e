/-! the reference: the best programs asked for -/
section ZQ5
variable {G : zG} {d : Nat} {σ : zMem} {hm : Nat} {A : Nat → Nat} {N : Int → Int}
def lmP (N : Int → Int) (h : Int) : Int → Int := fun f => mP N f h
theorem rk_sum (N : Int → Int) (h : Int) (y : Int → Int) : zsum (fun k => y (rk N h k)) (nn N h) = zsum (fun s => if mS N s 0 = h then y s else 0) (nS N) := by
  have key : ∀ n : Nat, n ≤ nS N → zsum (fun k => y (rk N h k)) (mCn N h n).toNat = zsum (fun s => if mS N s 0 = h then y s else 0) n := by
    intro n
    induction n with
    | zero => intro _; rfl
    | succ n ih =>
      intro hn
      have i := ih (by omega)
      have b := mCn_b N h n
      show _ = zsum (fun s => if mS N s 0 = h then y s else 0) n + (if mS N n 0 = h then y n else 0)
      rw [mCn_s]
      by_cases c : mS N n 0 = h
      · rw [← zbT c, if_pos c, ← i, show (mCn N h n + 1).toNat = (mCn N h n).toNat + 1 by omega]
        show zsum _ _ + y (rk N h ((mCn N h n).toNat : Int)) = _
        rw [show (((mCn N h n).toNat : Nat) : Int) = mCn N h n by omega, rk_inj N h (by omega) c]
      · rw [← zbF c, if_neg c, ← i, Int.add_zero, Int.add_zero]
  exact key _ (Nat.le_refl _)
theorem pG_ok (hV : mV N) (hQ : mC4 N) {h : Int} (h0 : 0 ≤ h) (h1 : h < 4) {lim t : Int → Int} (e : ∀ f, 0 ≤ f → f < N 2 → pCnt t f (nn N h) ≤ lim f) : 0 ≤ pG N h lim t := by
  have hf := nF_eq hV
  have key : ∀ m : Nat, m ≤ nF N → 0 ≤ pGN N h lim t m := by
    intro m
    induction m with
    | zero => intro _; exact Int.le_refl _
    | succ m ih =>
      intro hm
      have a := ih (by omega)
      have b := pG1_p hV hQ h0 h1 lim t (f := (m : Int)) (by omega) (by omega)
      have c := e m (by omega) (by omega)
      unfold pGN
      rw [if_neg (by omega)]
      omega
  exact key _ (Nat.le_refl _)
/-- the present bookings of the held screens can be had -/
theorem bG_ok (hV : mV N) (hX : mX N) (hQ : mQ N) {h : Int} (h0 : 0 ≤ h) (h1 : h < N 0) (hx : ∃ b, pMax N h (lmP N h) (ch0 N h) b) : 0 ≤ bG N h (lmP N h) := by
  have hn := hV.n
  obtain ⟨b, hb⟩ := hx
  rw [← bG_eq hb]
  have v := iT_v hV (h := h) (t := iT N h) (fun k _ _ => rfl)
  refine Int.le_trans (pG_ok hV hQ.c h0 (by omega) fun f f0 f1 => ?_) (hb.2 _ v.1)
  have q := (mNeed_le (hV.p f h f0 (by omega) (by omega) (by omega)).1).mp (hQ.p h f h0 h1 f0 f1) 0 (by omega)
  refine Int.le_trans ?_ q
  have e : pCnt (iT N h) f (nn N h) = zsum (fun s => if mS N s 0 = h then zb ((if mS N s 7 = 1 then mS N s 4 else -1) = f) else 0) (nS N) := rk_sum N h (fun s => zb ((if mS N s 7 = 1 then mS N s 4 else -1) = f))
  rw [e]
  have hs := nS_eq hV
  have le : ∀ n : Nat, n ≤ nS N → zsum (fun s => if mS N s 0 = h then zb ((if mS N s 7 = 1 then mS N s 4 else -1) = f) else 0) n ≤ mCntN N h f ((0 : Nat) : Int) n := by
    intro n
    induction n with
    | zero => intro _; exact Int.le_refl _
    | succ n ih =>
      intro hn2
      have i := ih (by omega)
      show _ + (if mS N n 0 = h then zb ((if mS N n 7 = 1 then mS N n 4 else -1) = f) else 0) ≤ mCntN N h f ((0 : Nat) : Int) n + zb (mS N n 0 = h ∧ mSh N n ((0 : Nat) : Int) = f)
      have g := zb_ge (mS N n 0 = h ∧ mSh N n ((0 : Nat) : Int) = f)
      by_cases c : mS N n 0 = h
      · rw [if_pos c]
        by_cases c7 : mS N n 7 = 1
        · rw [if_pos c7]
          have h5 := (hX n (by omega) (by omega)).2 c7
          have sh : mSh N n ((0 : Nat) : Int) = mS N n 4 := by unfold mSh; rw [if_neg (fun z => z.1 h5)]
          rw [sh, zb_congr (p := mS N n 0 = h ∧ mS N n 4 = f) (q := mS N n 4 = f) ⟨fun z => z.2, fun z => ⟨c, z⟩⟩]
          omega
        · rw [if_neg c7, ← zbF (p := (-1 : Int) = f) (by omega)]; omega
      · rw [if_neg c]; omega
  exact le _ (Nat.le_refl _)
end ZQ5

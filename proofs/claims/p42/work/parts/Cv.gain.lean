/-! a house booked by whole weeks: its takings less the shares are the gain of its program -/
section ZQ7
variable {N : Int → Int} {h : Int}
/-- what is booked now -/
def nowT (N : Int → Int) (h : Int) : Int → Int := fun k => mS N (rk N h k) 4
def whl (N : Int → Int) (h : Int) : Prop := ∀ s, 0 ≤ s → s < N 1 → mS N s 0 = h → mS N s 5 = -1
theorem whl_sh (w : whl N h) {s d : Int} (s0 : 0 ≤ s) (s1 : s < N 1) (e : mS N s 0 = h) : mSh N s d = mS N s 4 := by
  unfold mSh
  rw [if_neg (fun z => z.1 (w s s0 s1 e))]
theorem cFi_gs (hV : mV N) (f : Int) : cFiN N h f (nS N) = zsum (fun d => gsN N h f d (nS N)) 7 := by
  unfold cFiN gsN
  rw [zsum_swap (fun d s => if mS N s 0 = h ∧ mSh N s d = f then gv N s d else 0)]
  refine zsum_congr fun s hs => ?_
  by_cases c : mS N s 0 = h
  · rw [if_pos c]
    unfold cFvN
    refine zsum_congr fun d _ => ?_
    by_cases q : mSh N s d = f
    · rw [if_pos q, if_pos ⟨c, q⟩]
    · rw [if_neg q, if_neg (fun z => q z.2)]
  · rw [if_neg c]
    exact ((zsum_congr fun d _ => if_neg (fun z => c z.1)).trans (zsum_0 7)).symm
theorem zsum_const (c : Int) (n : Nat) : zsum (fun _ => c) n = n * c := by
  have a := zsum_mul (fun _ => 1) c n
  rw [zsum_one] at a
  rw [← a]
  exact zsum_congr fun _ _ => by omega
theorem pRoom_cp (hV : mV N) (w : whl N h) (f d : Int) : pRoom N h (nowT N h) f (nn N h) = cpN N h f d (nS N) := by
  have hs := nS_eq hV
  unfold pRoom cpN nowT
  rw [rk_sum N h (fun s => if mS N s 4 = f then mCap N s else 0)]
  refine zsum_congr fun s hs2 => ?_
  by_cases c : mS N s 0 = h
  · rw [if_pos c, whl_sh w (by omega) (by omega) c]
    by_cases q : mS N s 4 = f
    · rw [if_pos q, if_pos ⟨c, q⟩]
    · rw [if_neg q, if_neg (fun z => q z.2)]
  · rw [if_neg c, if_neg (fun z => c z.1)]
theorem cFi_tk (hV : mV N) (w : whl N h) {f : Int} (f0 : 0 ≤ f) (f1 : f < N 2) : cFi N h f = pTk N h (nowT N h) f := by
  have hn := hV.n
  have hs := nS_eq hV
  have D := mDem_b hV f0 (by omega) (mAge N f).toNat
  have e : mDem N f = mDemN N f (mAge N f).toNat := rfl
  have C : 0 ≤ pRoom N h (nowT N h) f (nn N h) := by
    rw [pRoom_cp hV w f 0]
    exact (zsum_ge0 fun i hi => by
      show 0 ≤ (if mS N i 0 = h ∧ mSh N i 0 = f then mCap N i else 0)
      have := (mCap_0 hV (s := (i : Int)) (by omega) (by omega)).1
      split <;> omega).1
  unfold cFi pTk
  rw [cFi_gs hV]
  congr 1
  rw [show zsum (fun d => gsN N h f d (nS N)) 7 = zsum (fun _ => min (mDem N f) (pRoom N h (nowT N h) f (nn N h))) 7 from zsum_congr fun d _ => by
    rw [gs_all hV f0 f1, ← pRoom_cp hV w f d]
    omega, zsum_const]
  rfl
theorem pCnt_now (hV : mV N) (w : whl N h) (f : Int) : pCnt (nowT N h) f (nn N h) = mCnt N h f 0 := by
  have hs := nS_eq hV
  unfold pCnt mCnt mCntN nowT
  rw [rk_sum N h (fun s => zb (mS N s 4 = f))]
  refine zsum_congr fun s hs2 => ?_
  by_cases c : mS N s 0 = h
  · rw [if_pos c, whl_sh w (by omega) (by omega) c]
    by_cases q : mS N s 4 = f
    · rw [← zbT q, ← zbT ⟨c, q⟩]
    · rw [← zbF q, ← zbF (fun z => q z.2)]
  · rw [if_neg c, ← zbF (fun z => c z.1)]
theorem pG1_now (hV : mV N) (hQ : mQ N) (w : whl N h) (h0 : 0 ≤ h) (h1 : h < N 0) {f : Int} (f0 : 0 ≤ f) (f1 : f < N 2) : pG1 N h (lmP N h) (nowT N h) f = cFi N h f - mShare N h f (cFi N h f) := by
  have hn := hV.n
  have hs := nS_eq hV
  have e1 := pCnt_now hV w f
  have e2 : mCnt N h f 0 ≤ mNeed N h f := zmax_i (f := fun day => mCnt N h f day) (n := 7) (i := 0) (by omega)
  have e3 := hQ.p h f h0 h1 f0 f1
  have e4 : lmP N h f = mP N f h := rfl
  rw [cFi_tk hV w f0 f1]
  unfold pG1
  rw [if_neg (by omega)]
  by_cases c : pCnt (nowT N h) f (nn N h) = 0
  · rw [if_pos c]
    have rm : pRoom N h (nowT N h) f (nn N h) = 0 := by
      unfold pRoom
      refine (zsum_congr fun k hk => ?_).trans (zsum_0 _)
      have z := zsum_zb (f := fun k => zb (nowT N h k = f)) (fun i _ => zb_ge _) (by unfold pCnt at c; omega) hk
      refine if_neg fun q => ?_
      have : zb (nowT N h k = f) = 1 := (zbT q).symm
      have z2 : zb (nowT N h k = f) ≤ 0 := z
      omega
    have D := mDem_b hV f0 (by omega) (mAge N f).toNat
    have e : mDem N f = mDemN N f (mAge N f).toNat := rfl
    have t0 : pTk N h (nowT N h) f = 0 := by
      unfold pTk
      rw [rm, show min (mDem N f) 0 = 0 by omega]
      omega
    rw [t0, mShare_0 hV f0 (by omega)]
    rfl
  · rw [if_neg c]
/-- the gain of what is booked now -/
theorem pG_now (hV : mV N) (hQ : mQ N) (w : whl N h) (h0 : 0 ≤ h) (h1 : h < N 0) : pG N h (lmP N h) (nowT N h) = cHouseN N h (nS N) - cShN N h (nF N) := by
  have hn := hV.n
  have hf := nF_eq hV
  have key : ∀ n : Nat, n ≤ nF N → pGN N h (lmP N h) (nowT N h) n = zsum (fun f => cFi N h f) n - cShN N h n ∧ 0 ≤ zsum (fun f => cFi N h f) n - cShN N h n := by
    intro n
    induction n with
    | zero => intro _; exact ⟨rfl, Int.le_refl _⟩
    | succ n ih =>
      intro hn2
      obtain ⟨i1, i2⟩ := ih (by omega)
      have g := pG1_now hV hQ w h0 h1 (f := (n : Int)) (by omega) (by omega)
      have c := cFi_b hV h0 (show h < 4 by omega) (n : Int)
      have s := mShare_le hV h0 (show h < 4 by omega) (f := (n : Int)) (by omega) (by omega) c.1 c.2
      have e1 : zsum (fun f => cFi N h f) (n + 1) = zsum (fun f => cFi N h f) n + cFi N h n := rfl
      have e2 : cShN N h (n + 1) = cShN N h n + mShare N h n (cFi N h n) := rfl
      unfold pGN
      rw [if_neg (by omega)]
      omega
  have k := (key (nF N) (Nat.le_refl _)).1
  rw [cFi_sum hV] at k
  exact k
end ZQ7

/-! the reference's sums are the class's -/
section ZS2
variable {N gg : Int → Int}
theorem zsum_add (f g : Int → Int) (n : Nat) : zsum (fun i => f i + g i) n = zsum f n + zsum g n := by
  induction n with
  | zero => rfl
  | succ n ih => show zsum (fun i => f i + g i) n + (f n + g n) = zsum f n + f n + (zsum g n + g n); rw [ih]; omega
theorem zsum_mul (f : Int → Int) (c : Int) (n : Nat) : zsum (fun i => f i * c) n = zsum f n * c := by
  induction n with
  | zero => show (0 : Int) = 0 * c; rw [Int.zero_mul]
  | succ n ih => show zsum (fun i => f i * c) n + f n * c = (zsum f n + f n) * c; rw [ih, Int.add_mul]
theorem zsum_0 (n : Nat) : zsum (fun _ => 0) n = 0 := by
  induction n with
  | zero => rfl
  | succ n ih => show zsum (fun _ => 0) n + 0 = 0; rw [ih]; rfl
theorem zsum_hit {j : Int} {y : Int} {m : Nat} (h0 : 0 ≤ j) (h1 : j < m) : zsum (fun h => if j = h then y else 0) m = y := by
  induction m with
  | zero => omega
  | succ m ih =>
    show zsum (fun h => if j = h then y else 0) m + (if j = (m : Int) then y else 0) = y
    by_cases e : j = (m : Int)
    · rw [if_pos e]
      have : zsum (fun h => if j = h then y else 0) m = zsum (fun _ => 0) m := zsum_congr fun i hi => if_neg (by omega)
      rw [this, zsum_0]
      omega
    · rw [if_neg e, ih (by omega)]
      omega
theorem zsum_split {I y : Int → Int} {m : Nat} : ∀ {n : Nat}, (∀ i : Nat, i < n → 0 ≤ I i ∧ I i < m) → zsum (fun h => zsum (fun s => if I s = h then y s else 0) n) m = zsum y n := by
  intro n
  induction n with
  | zero => intro _; exact zsum_0 m
  | succ n ih =>
    intro h
    show zsum (fun h => zsum (fun s => if I s = h then y s else 0) n + (if I n = h then y n else 0)) m = zsum y n + y n
    rw [zsum_add, ih fun i hi => h i (by omega), zsum_hit (h n (by omega)).1 (h n (by omega)).2]
theorem gG_eq (hg : gOK N gg) {s : Int} (h0 : 0 ≤ s) (h1 : s < 10) : gG gg s 7 = vSn N s 0 7 := zsum_congr fun i hi => by
  show gg (7 * s + i) = gv N s (0 + i)
  rw [hg s i h0 h1 (by omega) (by omega), Int.zero_add]
theorem gTake_eq (hg : gOK N gg) {s : Int} (h0 : 0 ≤ s) (h1 : s < 10) : gTake N gg s = cTake N s := by
  unfold gTake cTake
  rw [gG_eq hg h0 h1]
theorem gBy_all (hg : gOK N gg) {s : Int} (h0 : 0 ≤ s) (h1 : s < 10) : gBy N gg s (-1) = cTake N s := by
  unfold gBy cTake
  congr 1
  refine zsum_congr fun i hi => ?_
  show (if (-1 : Int) = -1 ∨ mSh N s i = -1 then gg (7 * s + i) else 0) = gv N s (0 + i)
  rw [if_pos (Or.inl rfl), hg s i h0 h1 (by omega) (by omega), Int.zero_add]
theorem gByN_eq (hg : gOK N gg) {s f : Int} (h0 : 0 ≤ s) (h1 : s < 10) (f0 : 0 ≤ f) : gByN N gg s f 7 = cFvN N s f 7 := zsum_congr fun i hi => by
  by_cases c : mSh N s i = f
  · rw [if_pos (Or.inr c), if_pos c, hg s i h0 h1 (by omega) (by omega)]
  · rw [if_neg (by omega), if_neg c]
theorem gIn_house (hV : mV N) (hg : gOK N gg) {h : Int} (h0 : 0 ≤ h) : gIn N gg h (-1) = cHouseN N h (nS N) := zsum_congr fun s hs => by
  have := nS_eq hV
  by_cases c : mS N s 0 = h
  · rw [if_pos (Or.inr c), if_pos c, gBy_all hg (by omega) (by omega)]
  · rw [if_neg (by omega), if_neg c]
theorem gIn_all (hV : mV N) (hg : gOK N gg) : gIn N gg (-1) (-1) = cAllN N (nS N) := zsum_congr fun s hs => by
  have := nS_eq hV
  show (if (-1 : Int) = -1 ∨ mS N s 0 = -1 then gBy N gg s (-1) else 0) = cTake N s
  rw [if_pos (Or.inl rfl), gBy_all hg (by omega) (by omega)]
theorem gIn_film (hV : mV N) (hg : gOK N gg) {h f : Int} (h0 : 0 ≤ h) (f0 : 0 ≤ f) : gIn N gg h f = cFi N h f := by
  have hn := nS_eq hV
  unfold cFi cFiN
  rw [← zsum_mul]
  refine zsum_congr fun s hs => ?_
  by_cases c : mS N s 0 = h
  · rw [if_pos (Or.inr c), if_pos c]
    show gByN N gg s f 7 * mPrice N s = cFvN N s f 7 * mH N h 0
    rw [gByN_eq hg (by omega) (by omega) f0]
    show _ * mH N (mS N s 0) 0 = _
    rw [c]
  · rw [if_neg (by omega), if_neg c, Int.zero_mul]
theorem gIn_films (hV : mV N) (hW : mW N) (hg : gOK N gg) {f : Int} (f0 : 0 ≤ f) : gIn N gg (-1) f = cFt N f := by
  have hn := nS_eq hV
  have hh := nH_eq hV
  have e : cFt N f = zsum (fun h => zsum (fun s => if mS N s 0 = h then cFvN N s f 7 * mPrice N s else 0) (nS N)) (nH N) := zsum_congr fun h _ => by
    show cFiN N h f (nS N) * mH N h 0 = _
    unfold cFiN
    rw [← zsum_mul]
    refine zsum_congr fun s _ => ?_
    by_cases c : mS N s 0 = h
    · rw [if_pos c, if_pos c]
      show _ = _ * mH N (mS N s 0) 0
      rw [c]
    · rw [if_neg c, if_neg c, Int.zero_mul]
  rw [e, zsum_split fun i hi => ?_]
  · refine zsum_congr fun s hs => ?_
    show (if (-1 : Int) = -1 ∨ mS N s 0 = -1 then gBy N gg s f else 0) = cFvN N s f 7 * mPrice N s
    rw [if_pos (Or.inl rfl)]
    show gByN N gg s f 7 * mPrice N s = _
    rw [gByN_eq hg (by omega) (by omega) f0]
  · have a := hV.s i (by omega) (by omega)
    have b := (hW i (by omega) (by omega)).1
    omega
theorem mRent_eq {h : Int} (h0 : 0 ≤ h) : mRent N h = cRentN N h (nS N) := zsum_congr fun s hs => by
  by_cases c : mS N s 0 = h
  · rw [if_pos (Or.inr c), if_pos c]
  · rw [if_neg (by omega), if_neg c]
theorem mRent_all (hV : mV N) (hW : mW N) : mRent N (-1) = zsum (fun h => cRentN N h (nS N)) (nH N) := by
  have hn := nS_eq hV
  have hh := nH_eq hV
  have e : zsum (fun h => cRentN N h (nS N)) (nH N) = zsum (fun s => mS N s 3) (nS N) := zsum_split fun i hi => by
    have a := hV.s i (by omega) (by omega)
    have b := (hW i (by omega) (by omega)).1
    omega
  rw [e]
  refine zsum_congr fun s hs => ?_
  show (if (-1 : Int) = -1 ∨ mS N s 0 = -1 then mS N s 3 else 0) = _
  rw [if_pos (Or.inl rfl)]
theorem zmax_0 {f : Int → Int} {n : Nat} (h : zmax f n = 0) {i : Nat} (hi : i < n) : f i ≤ 0 := by
  induction n with
  | zero => omega
  | succ n ih =>
    have h1 : max (zmax f n) (f n) = 0 := h
    have h2 := zmax_ge (f := f) (n := n)
    by_cases e : i = n
    · subst e; omega
    · exact ih (by omega) (by omega)
theorem zsum_zb {f : Int → Int} {n : Nat} (h0 : ∀ i : Nat, i < n → 0 ≤ f i) (h : zsum f n ≤ 0) {i : Nat} (hi : i < n) : f i ≤ 0 := by
  induction n with
  | zero => omega
  | succ n ih =>
    have h1 : zsum f n + f n ≤ 0 := h
    have h2 := zsum_ge (f := f) (n := n) (a := 0) fun j hj => h0 j (by omega)
    have h3 := h0 n (by omega)
    by_cases e : i = n
    · subst e; omega
    · exact ih (fun j hj => h0 j (by omega)) (by omega) (by omega)
/-- a film that no screen of a house shows takes nothing there -/
theorem cFi_none (hV : mV N) {h f : Int} (e : ¬ 0 < mNeed N h f) : cFi N h f = 0 := by
  have hn := nS_eq hV
  have b := mNeed_b hV h f 7
  have z : mNeedN N h f 7 = 0 := by unfold mNeed at e; omega
  have : cFiN N h f (nS N) = zsum (fun _ => 0) (nS N) := zsum_congr fun s hs => by
    by_cases c : mS N s 0 = h
    · rw [if_pos c]
      have : cFvN N s f 7 = zsum (fun _ => 0) 7 := zsum_congr fun dd hd => by
        refine if_neg fun q => ?_
        have a1 := zmax_0 (f := fun day => mCnt N h f day) z hd
        have a2 := zsum_zb (f := fun s => zb (mS N s 0 = h ∧ mSh N s dd = f)) (n := nS N) (fun i _ => zb_ge _) a1 hs
        have a3 : zb (mS N s 0 = h ∧ mSh N s dd = f) = 1 := (zbT ⟨c, q⟩).symm
        have a4 : zb (mS N s 0 = h ∧ mSh N s dd = f) ≤ 0 := a2
        omega
      rw [this, zsum_0]
    · rw [if_neg c]
  unfold cFi
  rw [this, zsum_0, Int.zero_mul]
theorem mShare_0 (hV : mV N) {h f : Int} (f0 : 0 ≤ f) (f1 : f < 6) : mShare N h f 0 = 0 := by
  have q := hV.f f f0 f1
  unfold mShare
  rw [Int.zero_mul]
  show max (0 / 100) _ = 0
  omega
theorem gShare_eq (hV : mV N) (hg : gOK N gg) {h f : Int} (h0 : 0 ≤ h) (f0 : 0 ≤ f) (f1 : f < 6) : gShare N gg h f = mShare N h f (cFi N h f) := by
  unfold gShare
  split
  · rw [gIn_film hV hg h0 f0]
  · rename_i e
    rw [cFi_none hV e, mShare_0 hV f0 f1]
theorem gShares_eq (hV : mV N) (hg : gOK N gg) {h : Int} (h0 : 0 ≤ h) : gShares N gg h = cShN N h (nF N) := zsum_congr fun f hf => by
  have := nF_eq hV
  exact gShare_eq hV hg h0 (by omega) (by omega)
end ZS2

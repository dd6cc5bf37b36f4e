/-! the sums that the law compares -/
section ZQ3
variable {N : Int → Int} {T : Int}
/-- guests laid by size: together they are what is wanted, or what there is -/
theorem zgreedy {c : Int → Int} {n : Nat} (hc : ∀ i : Nat, i < n → 0 ≤ c i) : ∀ (k : Nat) (I : Int → Prop) [DecidablePred I] (D : Int), zsum (fun s => zb (I s)) n ≤ k → zsum (fun s => if I s then max 0 (min (D - zsum (fun o => if I o ∧ o ≠ s ∧ (c s < c o ∨ (c o = c s ∧ o < s)) then c o else 0) n) (c s)) else 0) n = max 0 (min D (zsum (fun s => if I s then c s else 0) n)) := by
  intro k
  induction k with
  | zero =>
    intro I _ D h
    have no : ∀ i : Nat, i < n → ¬ I i := fun i hi z => by
      have := zsum_zb (f := fun s => zb (I s)) (fun i _ => zb_ge _) (by omega) hi
      have e : zb (I i) = 1 := (zbT z).symm
      have t : zb (I i) ≤ 0 := this
      omega
    rw [show zsum (fun s => if I s then max 0 (min (D - zsum (fun o => if I o ∧ o ≠ s ∧ (c s < c o ∨ (c o = c s ∧ o < s)) then c o else 0) n) (c s)) else 0) n = 0 from (zsum_congr fun i hi => if_neg (no i hi)).trans (zsum_0 n), show zsum (fun s => if I s then c s else 0) n = 0 from (zsum_congr fun i hi => if_neg (no i hi)).trans (zsum_0 n)]
    omega
  | succ k ih =>
    intro I _ D h
    by_cases ex : ∃ f : Nat, f < n ∧ I f
    · obtain ⟨m, hm, Im, first⟩ := zleast (n := n) (S := fun i => I i) (r := fun i => c i) ex
      have cnt := zsum_upd (f := fun s => zb (I s)) (g := fun s => zb (I s ∧ s ≠ (m : Int))) (j := m) (n := n) hm (fun i hi ne => by
        show zb (I i ∧ (i : Int) ≠ (m : Int)) = zb (I i)
        by_cases z : I i
        · rw [← zbT z, ← zbT ⟨z, fun e => ne (by omega)⟩]
        · rw [← zbF z, ← zbF (fun w => z w.1)])
      have e1 : zb (I m) = 1 := (zbT Im).symm
      have e2 : zb (I m ∧ (m : Int) ≠ (m : Int)) = 0 := (zbF (fun w => w.2 rfl)).symm
      have cnt2 : zsum (fun s => zb (I s ∧ s ≠ (m : Int))) n = zsum (fun s => zb (I s)) n + (zb (I m ∧ (m : Int) ≠ (m : Int)) - zb (I m)) := cnt
      have key := ih (fun s => I s ∧ s ≠ (m : Int)) (D - c m) (by omega)
      have gm : zsum (fun o => if I o ∧ o ≠ (m : Int) ∧ (c m < c o ∨ (c o = c m ∧ o < (m : Int))) then c o else 0) n = 0 := (zsum_congr fun i hi => if_neg (fun z => first i hi z.1 (by
        rcases z.2.2 with w | w
        · exact Or.inl w
        · exact Or.inr ⟨w.1, by omega⟩))).trans (zsum_0 n)
      have gs : ∀ s : Nat, s < n → I s → s ≠ m → zsum (fun o => if I o ∧ o ≠ (s : Int) ∧ (c s < c o ∨ (c o = c s ∧ o < (s : Int))) then c o else 0) n = zsum (fun o => if (I o ∧ o ≠ (m : Int)) ∧ o ≠ (s : Int) ∧ (c s < c o ∨ (c o = c s ∧ o < (s : Int))) then c o else 0) n + c m := fun s hs Is ne => by
        have u := zsum_upd (f := fun o => if (I o ∧ o ≠ (m : Int)) ∧ o ≠ (s : Int) ∧ (c s < c o ∨ (c o = c s ∧ o < (s : Int))) then c o else 0) (g := fun o => if I o ∧ o ≠ (s : Int) ∧ (c s < c o ∨ (c o = c s ∧ o < (s : Int))) then c o else 0) (j := m) (n := n) hm (fun i hi ni => by
          have nn : (i : Int) ≠ (m : Int) := fun e => ni (by omega)
          by_cases z : I i ∧ (i : Int) ≠ (s : Int) ∧ (c s < c i ∨ (c i = c s ∧ (i : Int) < (s : Int)))
          · show (if _ then _ else _) = (if _ then _ else _)
            rw [if_pos z, if_pos ⟨⟨z.1, nn⟩, z.2⟩]
          · show (if _ then _ else _) = (if _ then _ else _)
            rw [if_neg z, if_neg (fun w => z ⟨w.1.1, w.2⟩)])
        have fs := first s hs Is
        have v1 : (if I m ∧ (m : Int) ≠ (s : Int) ∧ (c s < c m ∨ (c m = c s ∧ (m : Int) < (s : Int))) then c m else 0) = c m := if_pos ⟨Im, by omega, by
          by_cases w : c s < c m
          · exact Or.inl w
          · refine Or.inr ⟨?_, ?_⟩
            · have : ¬ c m < c s := fun z => fs (Or.inl z)
              omega
            · have a1 : c m = c s := by
                have : ¬ c m < c s := fun z => fs (Or.inl z)
                omega
              have : ¬ s < m := fun z => fs (Or.inr ⟨a1.symm, z⟩)
              omega⟩
        have v2 : (if (I m ∧ (m : Int) ≠ (m : Int)) ∧ (m : Int) ≠ (s : Int) ∧ (c s < c m ∨ (c m = c s ∧ (m : Int) < (s : Int))) then c m else 0) = 0 := if_neg (fun w => w.1.2 rfl)
        have u2 : zsum (fun o => if I o ∧ o ≠ (s : Int) ∧ (c s < c o ∨ (c o = c s ∧ o < (s : Int))) then c o else 0) n = zsum (fun o => if (I o ∧ o ≠ (m : Int)) ∧ o ≠ (s : Int) ∧ (c s < c o ∨ (c o = c s ∧ o < (s : Int))) then c o else 0) n + ((if I m ∧ (m : Int) ≠ (s : Int) ∧ (c s < c m ∨ (c m = c s ∧ (m : Int) < (s : Int))) then c m else 0) - (if (I m ∧ (m : Int) ≠ (m : Int)) ∧ (m : Int) ≠ (s : Int) ∧ (c s < c m ∨ (c m = c s ∧ (m : Int) < (s : Int))) then c m else 0)) := u
        rw [u2, v1, v2]
        omega
      have lhs := zsum_upd (f := fun s => if I s ∧ s ≠ (m : Int) then max 0 (min (D - c m - zsum (fun o => if (I o ∧ o ≠ (m : Int)) ∧ o ≠ s ∧ (c s < c o ∨ (c o = c s ∧ o < s)) then c o else 0) n) (c s)) else 0) (g := fun s => if I s then max 0 (min (D - zsum (fun o => if I o ∧ o ≠ s ∧ (c s < c o ∨ (c o = c s ∧ o < s)) then c o else 0) n) (c s)) else 0) (j := m) (n := n) hm (fun i hi ni => by
        show (if _ then _ else _) = (if _ then _ else _)
        by_cases z : I i
        · rw [if_pos z, if_pos ⟨z, fun e => ni (by omega)⟩, gs i hi z ni]
          congr 2
          omega
        · rw [if_neg z, if_neg (fun w => z w.1)])
      have rhs := zsum_upd (f := fun s => if I s ∧ s ≠ (m : Int) then c s else 0) (g := fun s => if I s then c s else 0) (j := m) (n := n) hm (fun i hi ni => by
        show (if _ then _ else _) = (if _ then _ else _)
        by_cases z : I i
        · rw [if_pos z, if_pos ⟨z, fun e => ni (by omega)⟩]
        · rw [if_neg z, if_neg (fun w => z w.1)])
      have l1 : (if I m then max 0 (min (D - zsum (fun o => if I o ∧ o ≠ (m : Int) ∧ (c m < c o ∨ (c o = c m ∧ o < (m : Int))) then c o else 0) n) (c m)) else 0) = max 0 (min D (c m)) := by rw [if_pos Im, gm, Int.sub_zero]
      have l2 : (if I m ∧ (m : Int) ≠ (m : Int) then max 0 (min (D - c m - zsum (fun o => if (I o ∧ o ≠ (m : Int)) ∧ o ≠ (m : Int) ∧ (c m < c o ∨ (c o = c m ∧ o < (m : Int))) then c o else 0) n) (c m)) else 0) = 0 := if_neg (fun w => w.2 rfl)
      have r1 : (if I m then c m else 0) = c m := if_pos Im
      have r2 : (if I m ∧ (m : Int) ≠ (m : Int) then c m else 0) = 0 := if_neg (fun w => w.2 rfl)
      have s0 : 0 ≤ zsum (fun s => if I s ∧ s ≠ (m : Int) then c s else 0) n := (zsum_ge0 fun i hi => by
        show 0 ≤ (if I i ∧ (i : Int) ≠ (m : Int) then c i else 0)
        split
        · exact hc i hi
        · exact Int.le_refl _).1
      have cm := hc m hm
      rw [show zsum (fun s => if I s then max 0 (min (D - zsum (fun o => if I o ∧ o ≠ s ∧ (c s < c o ∨ (c o = c s ∧ o < s)) then c o else 0) n) (c s)) else 0) n = _ from lhs, key, show zsum (fun s => if I s then c s else 0) n = _ from rhs]
      show _ + ((if I m then _ else 0) - (if _ then _ else 0)) = max 0 (min D (_ + ((if I m then c m else 0) - (if _ then c m else 0))))
      rw [l1, l2, r1, r2]
      omega
    · have no : ∀ i : Nat, i < n → ¬ I i := fun i hi z => ex ⟨i, hi, z⟩
      rw [show zsum (fun s => if I s then max 0 (min (D - zsum (fun o => if I o ∧ o ≠ s ∧ (c s < c o ∨ (c o = c s ∧ o < s)) then c o else 0) n) (c s)) else 0) n = 0 from (zsum_congr fun i hi => if_neg (no i hi)).trans (zsum_0 n), show zsum (fun s => if I s then c s else 0) n = 0 from (zsum_congr fun i hi => if_neg (no i hi)).trans (zsum_0 n)]
      omega
theorem mCap_0 (hV : mV N) {s : Int} (s0 : 0 ≤ s) (s1 : s < 10) : 0 ≤ mCap N s ∧ mCap N s ≤ 3000 := by
  have q := hV.s s s0 s1
  unfold mCap
  refine ⟨Int.mul_nonneg (by omega) (by omega), ?_⟩
  exact Int.le_trans (Int.mul_le_mul_of_nonneg_left (show mS N s 2 ≤ 6 by omega) (by omega)) (by omega)
/-- the guests of a house's film on a day -/
def gsN (N : Int → Int) (h f d : Int) (n : Nat) : Int := zsum (fun s => if mS N s 0 = h ∧ mSh N s d = f then gv N s d else 0) n
def cpN (N : Int → Int) (h f d : Int) (n : Nat) : Int := zsum (fun s => if mS N s 0 = h ∧ mSh N s d = f then mCap N s else 0) n
theorem gs_all (hV : mV N) {h f d : Int} (f0 : 0 ≤ f) (f1 : f < N 2) : gsN N h f d (nS N) = max 0 (min (mDem N f) (cpN N h f d (nS N))) := by
  have hn := hV.n
  have hs := nS_eq hV
  have g := zgreedy (c := fun s => mCap N s) (n := nS N) (fun i hi => (mCap_0 hV (by omega) (by omega)).1) (nS N) (fun s => mS N s 0 = h ∧ mSh N s d = f) (mDem N f) (by
    have := zsum_le (f := fun s => zb (mS N s 0 = h ∧ mSh N s d = f)) (n := nS N) (a := 1) fun i _ => zb_le _
    omega)
  refine Eq.trans (zsum_congr fun i hi => ?_) g
  by_cases c : mS N i 0 = h ∧ mSh N i d = f
  · rw [if_pos c, if_pos c]
    unfold gv
    rw [if_pos (by rw [c.2]; omega), c.2]
    congr 3
    unfold gvS
    refine zsum_congr fun o ho => ?_
    by_cases z : (mS N o 0 = h ∧ mSh N o d = f) ∧ (o : Int) ≠ (i : Int) ∧ (mCap N i < mCap N o ∨ (mCap N o = mCap N i ∧ (o : Int) < (i : Int)))
    · rw [if_pos z, if_pos ⟨z.2.1, z.1.1.trans c.1.symm, z.2.2, z.1.2.trans c.2.symm⟩]
    · rw [if_neg z, if_neg (fun w => z ⟨⟨w.2.1.trans c.1, w.2.2.2.trans c.2⟩, w.1, w.2.2.1⟩)]
  · rw [if_neg c, if_neg c]
theorem gv_cap (hV : mV N) {s d : Int} (s0 : 0 ≤ s) (s1 : s < 10) : 0 ≤ gv N s d ∧ gv N s d ≤ mS N s 1 * mS N s 2 ∧ (mSh N s d < 0 → gv N s d = 0) := by
  have c := (mCap_0 hV s0 s1).1
  have e : mCap N s = mS N s 1 * mS N s 2 := rfl
  unfold gv
  refine ⟨?_, ?_, fun h => if_neg (by omega)⟩
  · split <;> omega
  · rw [← e]; split <;> omega
theorem vSn_7 (s : Int) (n : Nat) : zsum (fun d => gv N s d) n = vSn N s 0 n := zsum_congr fun i _ => by
  show gv N s i = gv N s (0 + (i : Int))
  rw [Int.zero_add]
theorem cTake_e (s : Int) : zsum (fun d => gv N s d) 7 * mH N (mS N s 0) 0 = cTake N s := by rw [vSn_7]; rfl
theorem cFv_sum (hV : mV N) {s : Int} : zsum (fun f => cFvN N s f 7) (nF N) = vSn N s 0 7 := by
  have hf := nF_eq hV
  unfold cFvN
  rw [zsum_swap (fun f d => if mSh N s d = f then gv N s d else 0), ← vSn_7]
  refine zsum_congr fun i _ => ?_
  by_cases c : 0 ≤ mSh N s i ∧ mSh N s i < N 2
  · exact zsum_hit (by omega) (by omega)
  · have e : gv N s i = 0 := if_neg (fun z => c ⟨z.2.2.1, z.2.2.2⟩)
    rw [e]
    refine Eq.trans (zsum_congr fun f _ => ?_) (zsum_0 _)
    show (if _ then _ else _) = (0 : Int)
    split <;> rfl
theorem cFi_sum (hV : mV N) (h : Int) : zsum (fun f => cFi N h f) (nF N) = cHouseN N h (nS N) := by
  unfold cFi cFiN
  rw [zsum_mul (fun f => zsum (fun s => if mS N s 0 = h then cFvN N s f 7 else 0) (nS N)), zsum_swap (fun f s => if mS N s 0 = h then cFvN N s f 7 else 0), ← zsum_mul]
  unfold cHouseN
  refine zsum_congr fun s _ => ?_
  by_cases c : mS N s 0 = h
  · rw [if_pos c, show zsum (fun f => if mS N s 0 = h then cFvN N s f 7 else 0) (nF N) = zsum (fun f => cFvN N s f 7) (nF N) from zsum_congr fun f _ => if_pos c, cFv_sum hV]
    show vSn N s 0 7 * mH N h 0 = vSn N s 0 7 * mH N (mS N s 0) 0
    rw [c]
  · rw [if_neg c, show zsum (fun f => if mS N s 0 = h then cFvN N s f 7 else 0) (nF N) = 0 from (zsum_congr fun f _ => if_neg c).trans (zsum_0 _)]
    omega
theorem cHouse_all (hV : mV N) (hW : mW N) : zsum (fun h => cHouseN N h (nS N)) (nH N) = cAllN N (nS N) := by
  have hh := nH_eq hV
  have hs := nS_eq hV
  unfold cHouseN cAllN
  exact zsum_split (I := fun s => mS N s 0) (y := fun s => cTake N s) fun i hi => by
    have a := hV.s i (by omega) (by omega)
    have b := hW i (by omega) (by omega)
    exact ⟨a.1, by show mS N i 0 < _; omega⟩
theorem cFt_all (hV : mV N) (hW : mW N) : zsum (fun f => cFt N f) (nF N) = cAllN N (nS N) := by
  unfold cFt cFtN
  rw [zsum_swap (fun f h => cFi N h f), ← cHouse_all hV hW]
  exact zsum_congr fun h _ => cFi_sum hV h
theorem cTake_b (hV : mV N) {s : Int} (s0 : 0 ≤ s) (s1 : s < 10) : 0 ≤ cTake N s ∧ cTake N s ≤ 2079000 := by
  have q := hV.s s s0 s1
  have a := vSn_b hV s0 s1 0 7
  have p := hV.h (mS N s 0) q.1 q.2.1
  unfold cTake
  refine ⟨Int.mul_nonneg a.1 p.1, ?_⟩
  have h1 : vSn N s 0 7 * mPrice N s ≤ 21000 * mPrice N s := Int.mul_le_mul_of_nonneg_right (by omega) p.1
  have h2 : mPrice N s ≤ 99 := p.2.1
  omega
theorem cAll_b (hV : mV N) (n : Nat) (hn : n ≤ nS N) : 0 ≤ cAllN N n ∧ cAllN N n ≤ 2079000 * n := by
  have hs := nS_eq hV
  have a := zsum_ge (f := fun s => cTake N s) (n := n) (a := 0) fun i hi => (cTake_b hV (by omega) (by omega)).1
  have b := zsum_le (f := fun s => cTake N s) (n := n) (a := 2079000) fun i hi => (cTake_b hV (by omega) (by omega)).2
  unfold cAllN
  omega
theorem cHouse_b (hV : mV N) (h : Int) (n : Nat) (hn : n ≤ nS N) : 0 ≤ cHouseN N h n ∧ cHouseN N h n ≤ 2079000 * n := by
  have hs := nS_eq hV
  have a := zsum_ge (f := fun s => if mS N s 0 = h then cTake N s else 0) (n := n) (a := 0) fun i hi => by
    have := cTake_b hV (s := i) (by omega) (by omega)
    show 0 ≤ (if mS N i 0 = h then cTake N i else 0)
    split <;> omega
  have b := zsum_le (f := fun s => if mS N s 0 = h then cTake N s else 0) (n := n) (a := 2079000) fun i hi => by
    have := cTake_b hV (s := i) (by omega) (by omega)
    show (if mS N i 0 = h then cTake N i else 0) ≤ 2079000
    split <;> omega
  unfold cHouseN
  omega
theorem cSh_b (hV : mV N) {h : Int} (h0 : 0 ≤ h) (h1 : h < 4) (n : Nat) (hn : n ≤ nF N) : 0 ≤ cShN N h n ∧ cShN N h n ≤ zsum (fun f => cFi N h f) n := by
  have hf := nF_eq hV
  have g : ∀ i : Nat, i < n → 0 ≤ mShare N h i (cFi N h i) ∧ mShare N h i (cFi N h i) ≤ cFi N h i := fun i hi => by
    have c := cFi_b hV h0 h1 (i : Int)
    exact mShare_le hV h0 h1 (by omega) (by omega) c.1 c.2
  exact ⟨(zsum_ge0 fun i hi => (g i hi).1).1, zsum_mono fun i hi => (g i hi).2⟩
theorem cSh_house (hV : mV N) {h : Int} (h0 : 0 ≤ h) (h1 : h < 4) : 0 ≤ cShN N h (nF N) ∧ cShN N h (nF N) ≤ cHouseN N h (nS N) := by
  have := cSh_b hV h0 h1 (nF N) (Nat.le_refl _)
  rw [cFi_sum hV] at this
  exact this
theorem cnt_le (hQ : mQ N) {h f d : Int} (h0 : 0 ≤ h) (h1 : h < N 0) (f0 : 0 ≤ f) (f1 : f < N 2) (d0 : 0 ≤ d) (d1 : d < 7) : zsum (fun s => zb (mS N s 0 = h ∧ mSh N s d = f)) (nS N) ≤ mP N f h := by
  obtain ⟨k, ek⟩ := Int.eq_ofNat_of_zero_le d0
  subst ek
  have a : mCnt N h f (k : Int) ≤ mNeed N h f := zmax_i (f := fun day => mCnt N h f day) (n := 7) (by omega)
  have b := hQ.p h f h0 h1 f0 f1
  exact Int.le_trans a b
end ZQ3

/-! a week closed: bounds, and that it keeps what every call keeps -/
section ZK2
variable {N : Int → Int}
def fe (N : Int → Int) : Prop := 0 ≤ N 4 ∧ N 4 ≤ 999
theorem zsum_mono {f g : Int → Int} : ∀ {n : Nat}, (∀ i : Nat, i < n → f i ≤ g i) → zsum f n ≤ zsum g n := fun {n} => by
  induction n with
  | zero => intro _; exact Int.le_refl _
  | succ n ih =>
    intro h
    have a := ih fun i hi => h i (by omega)
    have b := h n (by omega)
    show zsum f n + f n ≤ zsum g n + g n
    omega
theorem zsum_swap (F : Int → Int → Int) (m : Nat) : ∀ n : Nat, zsum (fun f => zsum (fun s => F f s) n) m = zsum (fun s => zsum (fun f => F f s) m) n := fun n => by
  induction n with
  | zero => exact zsum_0 m
  | succ n ih =>
    show zsum (fun f => zsum (fun s => F f s) n + F f n) m = zsum (fun s => zsum (fun f => F f s) m) n + zsum (fun f => F f n) m
    rw [zsum_add, ih]
theorem zsum_one_le {x y : Int} (h : 0 ≤ y) (m : Nat) : zsum (fun f => if x = f then y else 0) m ≤ y := by
  by_cases c : 0 ≤ x ∧ x < (m : Int)
  · rw [zsum_hit c.1 c.2]; exact Int.le_refl _
  · rw [show zsum (fun f => if x = f then y else 0) m = zsum (fun _ => 0) m from zsum_congr fun i hi => if_neg (by omega), zsum_0]; exact h
theorem zsum_part_le {I y : Int → Int} {m n : Nat} (h : ∀ i : Nat, i < n → 0 ≤ y i) : zsum (fun f => zsum (fun i => if I i = f then y i else 0) n) m ≤ zsum y n := by
  rw [zsum_swap (fun f i => if I i = f then y i else 0)]
  exact zsum_mono fun i hi => zsum_one_le (h i hi) m
theorem cFv_s (hV : mV N) {s : Int} (s0 : 0 ≤ s) (s1 : s < 10) (m : Nat) : 0 ≤ zsum (fun f => cFvN N s f 7) m ∧ zsum (fun f => cFvN N s f 7) m ≤ 21000 := by
  have a := zsum_part_le (I := fun day => mSh N s day) (y := fun day => gv N s day) (m := m) (n := 7) fun i _ => (gv_b hV s0 s1 i).1
  have b := zsum_le (f := fun day => gv N s day) (n := 7) (a := 3000) fun i _ => (gv_b hV s0 s1 i).2
  have c := zsum_ge (f := fun f => cFvN N s f 7) (n := m) (a := 0) fun i _ => (cFv_b hV s0 s1 i 7).1
  have e : zsum (fun f => cFvN N s f 7) m = zsum (fun f => zsum (fun i => if mSh N s i = f then gv N s i else 0) 7) m := rfl
  omega
theorem cFi_all (hV : mV N) : zsum (fun h => zsum (fun f => cFi N h f) (nF N)) (nH N) ≤ 20790000 := by
  have hs := nS_eq hV
  have e : ∀ h : Int, zsum (fun f => cFi N h f) (nF N) = zsum (fun s => if mS N s 0 = h then zsum (fun f => cFvN N s f 7) (nF N) * mPrice N s else 0) (nS N) := fun h => by
    have e1 : ∀ f : Int, cFi N h f = zsum (fun s => if mS N s 0 = h then cFvN N s f 7 * mPrice N s else 0) (nS N) := fun f => by
      show cFiN N h f (nS N) * mH N h 0 = _
      unfold cFiN
      rw [← zsum_mul]
      refine zsum_congr fun s _ => ?_
      by_cases c : mS N s 0 = h
      · rw [if_pos c, if_pos c]
        show _ = _ * mH N (mS N s 0) 0
        rw [c]
      · rw [if_neg c, if_neg c, Int.zero_mul]
    rw [zsum_congr (g := fun f => zsum (fun s => if mS N s 0 = h then cFvN N s f 7 * mPrice N s else 0) (nS N)) (fun f _ => e1 f), zsum_swap (fun f s => if mS N s 0 = h then cFvN N s f 7 * mPrice N s else 0)]
    refine zsum_congr fun s _ => ?_
    by_cases c : mS N s 0 = h
    · rw [if_pos c]
      exact (zsum_congr fun f _ => if_pos c).trans (zsum_mul _ _ _)
    · rw [if_neg c]
      exact (zsum_congr fun f _ => if_neg c).trans (zsum_0 _)
  rw [zsum_congr (g := fun h => zsum (fun s => if mS N s 0 = h then zsum (fun f => cFvN N s f 7) (nF N) * mPrice N s else 0) (nS N)) (fun h _ => e h)]
  have pb : ∀ i : Nat, i < nS N → 0 ≤ zsum (fun f => cFvN N i f 7) (nF N) * mPrice N i ∧ zsum (fun f => cFvN N i f 7) (nF N) * mPrice N i ≤ 21000 * 99 := fun i hi => by
    have a := cFv_s hV (s := (i : Int)) (by omega) (by omega) (nF N)
    have b := mPrice_b hV (s := (i : Int)) (by omega) (by omega)
    exact ⟨Int.mul_nonneg a.1 b.1, Int.mul_le_mul a.2 b.2 b.1 (by omega)⟩
  have a := zsum_part_le (I := fun s => mS N s 0) (y := fun s => zsum (fun f => cFvN N s f 7) (nF N) * mPrice N s) (m := nH N) (n := nS N) fun i hi => (pb i hi).1
  have b := zsum_le (f := fun s => zsum (fun f => cFvN N s f 7) (nF N) * mPrice N s) (n := nS N) (a := 21000 * 99) fun i hi => (pb i hi).2
  omega
theorem clA_b (hV : mV N) (hW : mW N) (hf : fe N) {T : Int} (m : 0 ≤ N 5 ∧ N 5 ≤ T) (hT : T ≤ 20000) (k : Int) : 0 ≤ clA N k ∧ clA N k ≤ 20790000 := by
  have hs := nS_eq hV
  have hh := nH_eq hV
  have hff := nF_eq hV
  unfold clA
  by_cases c0 : k = 0
  · rw [if_pos c0, ← gIn_all hV (gOK_ex hV)]
    exact gIn_b hV (gOK_V hV (gOK_ex hV)) (-1) (-1) (nS N) hs.2
  rw [if_neg c0]
  by_cases c1 : k = 1
  · rw [if_pos c1]
    have b : ∀ h f : Nat, h < nH N → f < nF N → 0 ≤ mShare N h f (cFi N h f) ∧ mShare N h f (cFi N h f) ≤ cFi N h f := fun h f hh2 hf2 => mShare_le hV (h := (h : Int)) (f := (f : Int)) (by omega) (by omega) (by omega) (by omega) (cFi_b hV (ho := (h : Int)) (by omega) (by omega) _).1 (cFi_b hV (ho := (h : Int)) (by omega) (by omega) _).2
    have a := zsum_mono (f := fun h => cShN N h (nF N)) (g := fun h => zsum (fun f => cFi N h f) (nF N)) (n := nH N) fun h hh2 => zsum_mono (f := fun f => mShare N h f (cFi N h f)) fun f hf2 => (b h f hh2 hf2).2
    have g := zsum_ge (f := fun h => cShN N h (nF N)) (n := nH N) (a := 0) fun h hh2 => by
      have := zsum_ge (f := fun f => mShare N h f (cFi N h f)) (n := nF N) (a := 0) fun f hf2 => (b h f hh2 hf2).1
      show 0 ≤ zsum (fun f => mShare N h f (cFi N h f)) (nF N)
      omega
    have e := cFi_all hV
    omega
  rw [if_neg c1]
  by_cases c2 : k = 2
  · rw [if_pos c2]
    have a := zsum_ge (f := fun s => if (-1 : Int) = -1 ∨ mS N s 0 = -1 then mS N s 3 else 0) (n := nS N) (a := 0) fun i hi => by have := hV.s i (by omega) (by omega); split <;> omega
    have b := zsum_le (f := fun s => if (-1 : Int) = -1 ∨ mS N s 0 = -1 then mS N s 3 else 0) (n := nS N) (a := 9999) fun i hi => by have := hV.s i (by omega) (by omega); split <;> omega
    have e : mRent N (-1) = zsum (fun s => if (-1 : Int) = -1 ∨ mS N s 0 = -1 then mS N s 3 else 0) (nS N) := rfl
    omega
  · rw [if_neg c2]
    have a : 0 ≤ N 4 * N 5 := Int.mul_nonneg hf.1 m.1
    have b : N 4 * N 5 ≤ 999 * 20000 := Int.mul_le_mul hf.2 (by omega) m.1 (by omega)
    omega
theorem mV_208 {N' : Int → Int} (hV : mV N) (a : ∀ j, j < 208 → N' j = N j) (b : ∀ j, zrg (N' j)) : mV N' := mV_mid hV (fun j hj => a j (by omega)) (fun j h0 h1 => a j (by omega)) (fun f k f0 f1 k0 k1 => a _ (by omega)) (fun f f0 f1 => by rw [show mF N' f 8 = mF N f 8 from a _ (by omega)]; have := hV.f f f0 f1; omega) (fun h f h0 h1 f0 f1 => by rw [show mR N' h f = mR N h f from a _ (by omega)]; exact hV.r h f h0 h1 f0 f1) b
theorem zrg_set {j v : Int} (b : ∀ i, zrg (N i)) (h : zrg v) : ∀ i, zrg (mSet N j v i) := fun i => by
  unfold mSet; split
  · exact h
  · exact b i
theorem clB_s {f : Int} : ∀ n : Nat, clB N f n = mF N f 8 ∨ (mF N f 8 = -1 ∧ clB N f n = N 3) := by
  intro n
  induction n with
  | zero => exact Or.inl rfl
  | succ n ih =>
    show (if 0 < mNeed N n f ∧ clB N f n = -1 then N 3 else clB N f n) = _ ∨ (_ ∧ (if 0 < mNeed N n f ∧ clB N f n = -1 then N 3 else clB N f n) = _)
    by_cases c : 0 < mNeed N n f ∧ clB N f n = -1
    · rw [if_pos c]
      rcases ih with e | e
      · exact Or.inr ⟨e.symm.trans c.2, rfl⟩
      · exact Or.inr ⟨e.1, rfl⟩
    · rw [if_neg c]; exact ih
theorem kfF_8 {x t n : Nat} {f : Int} : kfF N x t n f 8 = mF N f 8 ∨ (mF N f 8 = -1 ∧ kfF N x t n f 8 = N 3) := by
  unfold kfF
  rw [if_neg (by omega), if_pos rfl]
  by_cases a : f < (x : Int)
  · rw [if_pos a]; exact clB_s _
  · rw [if_neg a]
    by_cases b : f = (x : Int)
    · rw [if_pos b]; exact clB_s _
    · rw [if_neg b]; exact Or.inl rfl
theorem kfF_k {x t n : Nat} {f k : Int} (h : k < 8) : kfF N x t n f k = mF N f k := by
  unfold kfF
  rw [if_neg (by omega), if_neg (by omega)]
theorem kfG_8 {x n : Nat} (hx : x < 6) : kfG N x 1 n (94 + 10 * (x : Int) + 8) = clB N x n := by
  refine Eq.trans (kfG_F (N := N) (x := x) (t := 1) (n := n) (f := x) (k := 8) (by omega) (by omega) (by omega) (by omega)) ?_
  unfold kfF
  rw [if_neg (by omega), if_pos rfl, if_neg (by omega), if_pos rfl]
def amR (N : Int → Int) : Prop := ∀ k, 0 ≤ clA N k ∧ clA N k ≤ 20790000
theorem kwN_b (hV : mV N) (hQ : mQ N) (ha : amR N) (x : Nat) (hx : x ≤ 4) : ∀ j, zrg (kwN N (clA N) x j) := fun j => by
  have hn := hV.n
  unfold kwN
  by_cases c : 208 ≤ j ∧ j < 208 + (x : Int)
  · rw [if_pos c]
    have a := hQ.a (j - 208) (by omega) (by omega)
    rw [show 208 + (j - 208) = j by omega] at a
    have b := ha (j - 208)
    constructor <;> omega
  rw [if_neg c]
  by_cases c : 212 ≤ j ∧ j < 216
  · rw [if_pos c]
    have b := ha (j - 212)
    constructor <;> omega
  rw [if_neg c]
  split
  · decide
  · split
    · exact hV.b _
    · exact hV.b _
theorem kfG_b (hV : mV N) (hW : mW N) (hQ : mQ N) (ha : amR N) (x t n : Nat) : ∀ j, zrg (kfG N x t n j) := fun j => by
  have hn := hV.n
  unfold kfG
  by_cases c : 94 ≤ j ∧ j < 154
  · rw [if_pos c]
    have a := cFt_b hV hW (f := (j - 94) / 10) (by omega)
    have b := hQ.t ((j - 94) / 10) (by omega) (by omega)
    have q := hV.f ((j - 94) / 10) (by omega) (by omega)
    by_cases k8 : (j - 94) % 10 = 8
    · rw [k8]
      rcases kfF_8 (N := N) (x := x) (t := t) (n := n) (f := (j - 94) / 10) with e | ⟨_, e⟩ <;> rw [e] <;> constructor <;> omega
    · unfold kfF
      by_cases k9 : (j - 94) % 10 = 9
      · rw [if_pos k9]
        split
        · constructor <;> omega
        · constructor <;> omega
      · rw [if_neg k9, if_neg k8]; exact hV.b _
  rw [if_neg c]
  by_cases c2 : 184 ≤ j ∧ j < 208
  · rw [if_pos c2]
    have r := hV.r ((j - 184) / 6) ((j - 184) % 6) (by omega) (by omega) (by omega) (by omega)
    have z1 := zb_ge (0 < mNeed N ((j - 184) / 6) ((j - 184) % 6))
    have z2 := zb_le (0 < mNeed N ((j - 184) / 6) ((j - 184) % 6))
    unfold kfR
    split
    · constructor <;> omega
    · constructor <;> omega
  rw [if_neg c2]
  exact kwN_b hV hQ ha 4 (by omega) j
theorem kfG_V (hV : mV N) (hW : mW N) (hQ : mQ N) (ha : amR N) (x t n : Nat) : mV (kfG N x t n) := mV_mid hV (kfG_agr x t n) (fun j h0 h1 => (kfG_o (by omega)).trans (kwN_a (by omega))) (fun f k f0 f1 k0 k1 => (kfG_F f0 f1 k0 (by omega)).trans (kfF_k k1)) (fun f f0 f1 => by
    have hn := hV.n
    have q := hV.f f f0 f1
    rw [kfG_F f0 f1 (by omega) (by omega)]
    rcases kfF_8 (N := N) (x := x) (t := t) (n := n) (f := f) with e | ⟨_, e⟩ <;> rw [e] <;> omega) (fun h f h0 h1 f0 f1 => by
    have r := hV.r h f h0 h1 f0 f1
    have r2 := hQ.r h f h0 h1 f0 f1
    have z1 := zb_ge (0 < mNeed N h f)
    have z2 := zb_le (0 < mNeed N h f)
    rw [kfG_R h0 h1 f0 f1]
    unfold kfR
    split <;> omega) (kfG_b hV hW hQ ha x t n)
theorem mDem_age {N' : Int → Int} {f : Int} (e0 : mF N' f 0 = mF N f 0) (e1 : mF N' f 1 = mF N f 1) (ea : mAge N' f = mAge N f) : mDem N' f = mDem N f := by
  have k : ∀ n : Nat, mDemN N' f n = mDemN N f n := fun n => by
    induction n with
    | zero => exact e0
    | succ n ih => show mDemN N' f n * mF N' f 1 / 100 = mDemN N f n * mF N f 1 / 100; rw [ih, e1]
  unfold mDem
  rw [ea, k]
theorem mid_dem {N' : Int → Int} (hV : mV N) {f : Int} (f0 : 0 ≤ f) (f1 : f < 6) (e3 : N' 3 = N 3) (ek : ∀ k, 0 ≤ k → k < 8 → mF N' f k = mF N f k) (e8 : mF N' f 8 = mF N f 8 ∨ (mF N f 8 = -1 ∧ mF N' f 8 = N 3)) : mDem N' f = mDem N f := by
  refine mDem_age (ek 0 (by omega) (by omega)) (ek 1 (by omega) (by omega)) ?_
  have hn := hV.n
  unfold mAge
  rw [e3]
  rcases e8 with e | ⟨e, e'⟩
  · rw [e]
  · rw [e, e', if_neg (by omega), if_pos rfl]; omega
theorem kfG_dem (hV : mV N) {x t n : Nat} {f : Int} (f0 : 0 ≤ f) (f1 : f < 6) : mDem (kfG N x t n) f = mDem N f := mid_dem hV f0 f1 (kfG_agr x t n 3 (by omega)) (fun k k0 k1 => (kfG_F f0 f1 k0 (by omega)).trans (kfF_k k1)) (by rw [kfG_F f0 f1 (by omega) (by omega)]; exact kfF_8)
theorem agr.cE {N' : Int → Int} (a : agr N N') (h : ∀ f k, 0 ≤ f → f < 6 → 0 ≤ k → k < 8 → mF N' f k = mF N f k) : cE N N' := ⟨⟨a 0 (by omega), a 1 (by omega), a 2 (by omega)⟩, fun h h0 h1 => a.H h1 (by omega), fun s s0 s1 => ⟨a.S s1 (by omega), a.S s1 (by omega), a.S s1 (by omega)⟩, h⟩
theorem agr.W {N' : Int → Int} (a : agr N N') (hV : mV N) (hW : mW N) : mW N' := fun s s0 s1 => by
  have hn := hV.n
  rw [a 1 (by omega)] at s1
  rw [a.S (k := 0) (by omega) (by omega), a.S (k := 4) (by omega) (by omega), a.S (k := 5) (by omega) (by omega), a 0 (by omega), a 2 (by omega)]
  exact hW s s0 s1
theorem agr.X {N' : Int → Int} (a : agr N N') (hV : mV N) (hX : mX N) : mX N' := fun s s0 s1 => by
  have hn := hV.n
  rw [a 1 (by omega)] at s1
  rw [a.S (k := 5) (by omega) (by omega), a.S (k := 6) (by omega) (by omega), a.S (k := 7) (by omega) (by omega)]
  exact hX s s0 s1
theorem mid_gv {N' : Int → Int} (hV : mV N) (a : agr N N') (h : ∀ f k, 0 ≤ f → f < 6 → 0 ≤ k → k < 8 → mF N' f k = mF N f k) (hd : ∀ f, 0 ≤ f → f < N 2 → mDem N' f = mDem N f) {s : Int} (s0 : 0 ≤ s) (s1 : s < 10) (day : Int) : gv N' s day = gv N s day := gv_congr hV (a.cE h) (fun s k s0 s1 k0 k1 => a.S s1 (by omega)) hd s day s0 s1
theorem kfG_gOK (hV : mV N) {x t n : Nat} {gg : Int → Int} (h : gOK N gg) : gOK (kfG N x t n) gg := fun s dd a b c e => by
  have hn := hV.n
  rw [mid_gv hV (kfG_agr x t n) (fun f k f0 f1 k0 k1 => (kfG_F f0 f1 k0 (by omega)).trans (kfF_k k1)) (fun f f0 f1 => kfG_dem hV f0 (by omega)) a b]
  exact h s dd a b c e
theorem hFl_b (hV : mV N) {s : Int} (s0 : 0 ≤ s) (s1 : s < 10) : -1 ≤ hFl N s ∧ hFl N s < 6 := by
  have := mSh_b hV s0 s1 6
  unfold hFl
  split <;> omega
theorem hdN_b (N : Int → Int) (y : Nat) : 0 ≤ zsum (fun s => zb (mHold N s)) y ∧ zsum (fun s => zb (mHold N s)) y ≤ y := by
  have a := zsum_ge (f := fun s => zb (mHold N s)) (n := y) (a := 0) fun i _ => zb_ge _
  have b := zsum_le (f := fun s => zb (mHold N s)) (n := y) (a := 1) fun i _ => zb_le _
  omega
theorem hsS_b (hV : mV N) {y : Nat} {s : Int} (s0 : 0 ≤ s) (s1 : s < 10) : (hsS N y s 4 = hFl N s ∨ hsS N y s 4 = mS N s 4) ∧ (hsS N y s 5 = -1 ∨ hsS N y s 5 = mS N s 5) ∧ (hsS N y s 6 = 0 ∨ hsS N y s 6 = mS N s 6) ∧ (hsS N y s 7 = zb (mHold N s) ∨ hsS N y s 7 = mS N s 7) := by
  by_cases c : s < (y : Int)
  · refine ⟨Or.inl ?_, Or.inl ?_, Or.inl ?_, Or.inl ?_⟩
    · unfold hsS; rw [if_pos (by omega), if_pos rfl]
    · unfold hsS; rw [if_pos (by omega), if_neg (by omega), if_pos rfl]
    · unfold hsS; rw [if_pos (by omega), if_neg (by omega), if_neg (by omega), if_pos rfl]
    · unfold hsS; rw [if_pos (by omega), if_neg (by omega), if_neg (by omega), if_neg (by omega)]
  · refine ⟨Or.inr ?_, Or.inr ?_, Or.inr ?_, Or.inr ?_⟩ <;> exact if_neg (fun z => c z.1)
theorem hsS_k {y : Nat} {s k : Int} (h : k < 4) : hsS N y s k = mS N s k := if_neg (fun z => by omega)
theorem hsG_b (hV : mV N) (hW : mW N) (hQ : mQ N) (ha : amR N) (y : Nat) (hy : y ≤ 10) : ∀ j, zrg (hsG N y j) := fun j => by
  unfold hsG
  by_cases c : 14 ≤ j ∧ j < 94
  · rw [if_pos c]
    unfold hsS
    split
    · have a := hFl_b hV (s := (j - 14) / 8) (by omega) (by omega)
      split
      · constructor <;> omega
      · split
        · decide
        · split
          · decide
          · exact zb_rg _
    · exact hV.b _
  · rw [if_neg c]
    split
    · have := hdN_b N y
      constructor <;> omega
    · exact kfG_b hV hW hQ ha _ _ _ j
theorem clN_S {s k : Int} (s0 : 0 ≤ s) (s1 : s < 10) (k0 : 0 ≤ k) (k1 : k < 8) : mS (clN N) s k = hsS N (nS N) s k := by
  refine Eq.trans ?_ (hsG_S s0 s1 k0 k1)
  show clN N (14 + 8 * s + k) = hsG N (nS N) (14 + 8 * s + k)
  unfold clN
  rw [if_neg (by omega), if_neg (by omega)]
theorem clN_o {j : Int} (h3 : j ≠ 3) (h5 : j ≠ 5) (h : j < 14 ∨ 94 ≤ j) (h2 : j ≠ 216) : clN N j = kfG N (nF N) 0 0 j := by
  unfold clN
  rw [if_neg h3, if_neg h5, hsG_o h h2]
theorem clN_lo {j : Int} (h3 : j ≠ 3) (h5 : j ≠ 5) (h : j < 14) : clN N j = N j := (clN_o h3 h5 (Or.inl h) (by omega)).trans (kfG_agr _ _ _ _ (by omega))
theorem clN_F {f k : Int} (f0 : 0 ≤ f) (f1 : f < 6) (k0 : 0 ≤ k) (k1 : k < 10) : mF (clN N) f k = kfF N (nF N) 0 0 f k := (clN_o (by omega) (by omega) (by omega) (by omega)).trans (kfG_F f0 f1 k0 k1)
theorem clN_R {h f : Int} (h0 : 0 ≤ h) (h1 : h < 4) (f0 : 0 ≤ f) (f1 : f < 6) : mR (clN N) h f = kfR N (nF N) 0 h f := (clN_o (by omega) (by omega) (by omega) (by omega)).trans (kfG_R h0 h1 f0 f1)
theorem clN_P {j : Int} (h0 : 154 ≤ j) (h1 : j < 184) : clN N j = N j := (clN_o (by omega) (by omega) (by omega) (by omega)).trans ((kfG_o (by omega)).trans (kwN_a (by omega)))
theorem clN_3 : clN N 3 = N 3 + 1 := if_pos rfl
theorem clN_5 : clN N 5 = 0 := by unfold clN; rw [if_neg (by omega), if_pos rfl]
theorem clN_hi {j : Int} (h : 208 ≤ j) (h2 : j ≠ 216) : clN N j = kwN N (clA N) 4 j := (clN_o (by omega) (by omega) (by omega) h2).trans (kfG_o (by omega))
theorem clN_216 : clN N 216 = zsum (fun s => zb (mHold N s)) (nS N) := by
  unfold clN
  rw [if_neg (by omega), if_neg (by omega)]
  unfold hsG
  rw [if_neg (by omega), if_pos rfl]
theorem clN_cE : cE N (clN N) := ⟨⟨clN_lo (by omega) (by omega) (by omega), clN_lo (by omega) (by omega) (by omega), clN_lo (by omega) (by omega) (by omega)⟩, fun h h0 h1 => clN_lo (by omega) (by omega) (by omega), fun s s0 s1 => ⟨(clN_S s0 s1 (by omega) (by omega)).trans (hsS_k (by omega)), (clN_S s0 s1 (by omega) (by omega)).trans (hsS_k (by omega)), (clN_S s0 s1 (by omega) (by omega)).trans (hsS_k (by omega))⟩, fun f k f0 f1 k0 k1 => (clN_F f0 f1 k0 (by omega)).trans (kfF_k k1)⟩
theorem hFl_p {s : Int} (h : hFl N s ≠ -1) : mHold N s ∧ hFl N s = mSh N s 6 := by
  by_cases c : mHold N s
  · exact ⟨c, if_pos c⟩
  · exact absurd (if_neg c) h
theorem clN_sh (hV : mV N) {s : Nat} (hs : s < nS N) (day : Int) : mSh (clN N) s day = hFl N s := by
  have e := nS_eq hV
  have e5 : mS (clN N) s 5 = -1 := by
    rw [clN_S (by omega) (by omega) (by omega) (by omega)]
    unfold hsS
    rw [if_pos (by omega), if_neg (by omega), if_pos rfl]
  have e4 : mS (clN N) s 4 = hFl N s := by
    rw [clN_S (by omega) (by omega) (by omega) (by omega)]
    unfold hsS
    rw [if_pos (by omega), if_pos rfl]
  unfold mSh
  rw [if_neg (fun z => z.1 e5), e4]
theorem clN_need (hV : mV N) {h f : Int} (f0 : 0 ≤ f) : mNeed (clN N) h f ≤ mNeed N h f := by
  have hs := nS_eq hV
  have b : 0 ≤ mNeed N h f := zmax_ge
  refine zmax_le b fun i hi => ?_
  refine Int.le_trans ?_ (zmax_i (f := fun day => mCnt N h f day) (n := 7) (i := 6) (by omega))
  unfold mCnt mCntN
  rw [show nS (clN N) = nS N from clN_cE.nS]
  refine zsum_mono fun s hs2 => ?_
  rw [clN_sh hV hs2, clN_S (by omega) (by omega) (by omega) (by omega), hsS_k (by omega)]
  by_cases c : mS N s 0 = h ∧ hFl N s = f
  · have p := hFl_p (N := N) (s := (s : Int)) (by omega)
    rw [← zbT c, ← zbT (p := mS N s 0 = h ∧ mSh N s ((6 : Nat) : Int) = f) ⟨c.1, p.2.symm.trans c.2⟩]
    exact Int.le_refl _
  · rw [← zbF c]; exact zb_ge _
theorem gN_cl {T : Int} (g : gN T N) (hf : fe N) (h3 : N 3 < 60) (hT : T ≤ 20000) : gN T (clN N) := by
  have hV := g.v
  have hW := g.w
  have hX := g.x
  have hQ := g.q
  have hn := hV.n
  have hs := nS_eq hV
  have ha : amR N := fun k => clA_b hV hW hf g.m hT k
  have e0 : clN N 0 = N 0 := clN_lo (by omega) (by omega) (by omega)
  have e1 : clN N 1 = N 1 := clN_lo (by omega) (by omega) (by omega)
  have e2 : clN N 2 = N 2 := clN_lo (by omega) (by omega) (by omega)
  have eb : ∀ j, zrg (clN N j) := fun j => by
    unfold clN
    split
    · constructor <;> omega
    · split
      · decide
      · exact hsG_b hV hW hQ ha _ hs.2 j
  have S4 : ∀ s : Int, 0 ≤ s → s < N 1 → mS (clN N) s 4 = hFl N s ∧ mS (clN N) s 5 = -1 ∧ mS (clN N) s 6 = 0 ∧ mS (clN N) s 7 = zb (mHold N s) := fun s s0 s1 => by
    rw [clN_S s0 (by omega) (by omega) (by omega), clN_S s0 (by omega) (by omega) (by omega), clN_S s0 (by omega) (by omega) (by omega), clN_S s0 (by omega) (by omega) (by omega)]
    refine ⟨?_, ?_, ?_, ?_⟩
    · unfold hsS; rw [if_pos (by omega), if_pos rfl]
    · unfold hsS; rw [if_pos (by omega), if_neg (by omega), if_pos rfl]
    · unfold hsS; rw [if_pos (by omega), if_neg (by omega), if_neg (by omega), if_pos rfl]
    · unfold hsS; rw [if_pos (by omega), if_neg (by omega), if_neg (by omega), if_neg (by omega)]
  refine ⟨⟨by rw [e0, e1, e2, clN_3]; omega, eb, fun s s0 s1 => ?_, fun f f0 f1 => ?_, fun f k f0 f1 k0 k1 => ?_, fun h h0 h1 => ?_, fun h f h0 h1 f0 f1 => ?_, fun f p f0 f1 p0 p1 => ?_⟩, fun s s0 s1 => ?_, fun s s0 s1 => ?_, ⟨fun h => ?_, fun f f0 f1 => ?_, fun s s0 s1 => ?_, fun h f h0 h1 f0 f1 => ?_, fun h f h0 h1 f0 f1 => ?_, fun k k0 k1 => ?_, fun j hj => ?_⟩, ?_⟩
  · have q := hV.s s s0 s1
    have b := hFl_b hV s0 s1
    have z1 := zb_ge (mHold N s)
    have z2 := zb_le (mHold N s)
    rw [clN_S s0 s1 (by omega) (by omega), clN_S s0 s1 (by omega) (by omega), clN_S s0 s1 (by omega) (by omega), clN_S s0 s1 (by omega) (by omega), clN_S s0 s1 (by omega) (by omega), clN_S s0 s1 (by omega) (by omega), clN_S s0 s1 (by omega) (by omega), clN_S s0 s1 (by omega) (by omega), hsS_k (by omega), hsS_k (by omega), hsS_k (by omega), hsS_k (by omega)]
    obtain ⟨w4, w5, w6, w7⟩ := hsS_b hV (y := nS N) s0 s1
    omega
  · have q := hV.f f f0 f1
    rw [clN_F f0 f1 (by omega) (by omega), clN_F f0 f1 (by omega) (by omega), clN_F f0 f1 (by omega) (by omega), clN_F f0 f1 (by omega) (by omega), clN_F f0 f1 (by omega) (by omega), kfF_k (by omega), kfF_k (by omega), kfF_k (by omega), kfF_k (by omega), e2, clN_3]
    rcases kfF_8 (N := N) (x := nF N) (t := 0) (n := 0) (f := f) with e | ⟨_, e⟩ <;> rw [e] <;> omega
  · rw [clN_F f0 f1 (by omega) (by omega), kfF_k (by omega)]; exact hV.t f k f0 f1 k0 k1
  · have a0 : mH (clN N) h 0 = mH N h 0 := clN_lo (by omega) (by omega) (by omega)
    have a1 : mH (clN N) h 1 = mH N h 1 := clN_lo (by omega) (by omega) (by omega)
    rw [a0, a1]; exact hV.h h h0 h1
  · have r := hV.r h f h0 h1 f0 f1
    have r2 := hQ.r h f h0 h1 f0 f1
    have z1 := zb_ge (0 < mNeed N h f)
    have z2 := zb_le (0 < mNeed N h f)
    rw [clN_R h0 h1 f0 f1, clN_3]
    unfold kfR
    split <;> omega
  · rw [show mP (clN N) f p = mP N f p from clN_P (by omega) (by omega)]; exact hV.p f p f0 f1 p0 p1
  · rw [e1] at s1
    have w := hW s s0 s1
    obtain ⟨a4, a5, a6, a7⟩ := S4 s s0 s1
    rw [clN_S s0 (by omega) (by omega) (by omega), hsS_k (by omega), a4, a5, e0, e2]
    refine ⟨w.1, ?_, by omega⟩
    by_cases c : hFl N s = -1
    · omega
    · rw [(hFl_p c).2]
      unfold mSh
      split <;> omega
  · rw [e1] at s1
    obtain ⟨a4, a5, a6, a7⟩ := S4 s s0 s1
    rw [a5, a6]
    exact ⟨⟨fun _ => rfl, fun _ => rfl⟩, fun _ => rfl⟩
  · have : mCn (clN N) h (nS (clN N)) = mCn N h (nS N) := by
      unfold mCn
      rw [show nS (clN N) = nS N from clN_cE.nS]
      exact zsum_congr fun t ht => by rw [clN_S (by omega) (by omega) (by omega) (by omega), hsS_k (by omega)]
    rw [this]; exact hQ.c h
  · have b := hQ.t f f0 f1
    have a := cFt_b hV hW f0
    rw [clN_F f0 f1 (by omega) (by omega), clN_3]
    unfold kfF
    rw [if_pos rfl]
    split <;> omega
  · rw [e1] at s1
    obtain ⟨a4, a5, a6, a7⟩ := S4 s s0 s1
    rw [a4, a5, a7]
    refine ⟨fun z => absurd rfl z, fun z => ?_⟩
    have c : mHold N s := Decidable.byContradiction fun c => by rw [← zbF c] at z; omega
    have b := mSh_b hV s0 (by omega) 6
    have c1 := c.1
    rw [show hFl N s = mSh N s 6 from if_pos c]
    omega
  · rw [e0] at h1
    rw [e2] at f1
    rw [show mP (clN N) f h = mP N f h from clN_P (by omega) (by omega)]
    exact Int.le_trans (clN_need hV f0) (hQ.p h f h0 h1 f0 f1)
  · have r2 := hQ.r h f h0 h1 f0 f1
    have z1 := zb_ge (0 < mNeed N h f)
    have z2 := zb_le (0 < mNeed N h f)
    rw [clN_R h0 h1 f0 f1, clN_3]
    unfold kfR
    split <;> omega
  · have a := hQ.a k k0 k1
    have b := ha k
    rw [clN_hi (by omega) (by omega), clN_3]
    unfold kwN
    rw [if_pos (by omega), show 208 + k - 208 = k by omega]
    omega
  · have z := hQ.z j hj
    rw [clN_o (by omega) (by omega) (by omega) (by omega)]
    unfold kfG kwN
    rw [if_neg (by omega), if_neg (by omega), if_neg (by omega), if_neg (by omega), if_neg (by omega), if_neg (by omega)]
    exact z
  · rw [clN_5]; have := g.m; omega
end ZK2

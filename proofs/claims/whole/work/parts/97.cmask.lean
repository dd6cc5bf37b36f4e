/-! the class: a query's masks -/
section ZCY
variable {G : zG} {d : Nat} {σ σ0 σ1 : zMem} {B : Nat → Nat} {N : Int → Int} {t : Int → Int} {L : Nat} {s : tS} {F : tS → qS}
theorem qVal_rg : -10 < (qVal t L s).1 ∧ (qVal t L s).1 ≤ 99999 := by
  unfold qVal
  by_cases c : tKd t L s = 2
  · rw [if_pos c]
    have := tNumV_b (t := t) (L := L) (s := s) (lo := 0) (hi := 99999) (by decide)
    constructor <;> omega
  · rw [if_neg c]
    by_cases k : qIx t L s < 9
    · rw [if_pos k]; constructor <;> omega
    · rw [if_neg k]; exact ⟨by show (-10 : Int) < 0; decide, by show (0 : Int) ≤ 99999; decide⟩
theorem qPv_r {v x : Int} (hV : mV N) (h0 : 0 ≤ x) (h1 : x < 10) (v0 : -10 < v) (v1 : v ≤ 99999) : zrg (qPv (qPn N x) v) := by
  unfold qPv
  by_cases c : 0 ≤ v
  · rw [if_pos c]; omega
  · rw [if_neg c]; exact qPn_r hV h0 h1 _ (by omega) (by omega)
theorem m1024 {m n : Nat} (h : m < 2 ^ n) (hn : n ≤ 10) : m < 1024 := Nat.lt_of_lt_of_le h (Nat.pow_le_pow_right (n := 2) (by decide) hn)
theorem mB_s1 {m x : Nat} {P : Nat → Prop} (hm : m < 2 ^ x) (h : ∀ k, k < x → (m.testBit k = true ↔ P k)) (hx : P x) : m ||| 2 ^ x < 2 ^ (x + 1) ∧ ∀ k, k < x + 1 → ((m ||| 2 ^ x).testBit k = true ↔ P k) := by
  have e : 2 ^ (x + 1) = 2 ^ x * 2 := Nat.pow_succ 2 x
  have p := Nat.one_le_two_pow (n := x)
  refine ⟨Nat.or_lt_two_pow (by omega) (by omega), fun k hk => ?_⟩
  rw [Nat.testBit_or, Nat.testBit_two_pow]
  by_cases q : k = x
  · subst q; simp [hx]
  · have q2 : ¬ x = k := fun z => q z.symm
    rw [decide_eq_false q2, Bool.or_false]
    exact h k (by omega)
theorem mB_s0 {m x : Nat} {P : Nat → Prop} (hm : m < 2 ^ x) (h : ∀ k, k < x → (m.testBit k = true ↔ P k)) (hx : ¬ P x) : m < 2 ^ (x + 1) ∧ ∀ k, k < x + 1 → (m.testBit k = true ↔ P k) := by
  have e : 2 ^ (x + 1) = 2 ^ x * 2 := Nat.pow_succ 2 x
  have p := Nat.one_le_two_pow (n := x)
  refine ⟨by omega, fun k hk => ?_⟩
  by_cases q : k = x
  · subst q
    rw [Nat.testBit_lt_two_pow hm]
    exact ⟨fun z => absurd z (by decide), fun z => absurd z hx⟩
  · exact h k (by omega)
/-- the codes leave a truth value -/
def qT1 (l : List Int) : Prop := ∀ pv, ∃ v, qW pv l v
/-- a mask that says of each screen what the codes say -/
def mOK (N : Int → Int) (l : List Int) (m : Nat) : Prop := ∀ k : Nat, k < nS N → (m.testBit k = true ↔ qH N l (k : Int) = 1)
theorem qH_is {l : List Int} {x v : Int} (h : qW (qPn N x) l v) : qH N l x = v := by
  unfold qH; rw [h.2.1]; rfl
theorem qH_1 {l : List Int} {x : Int} (h : qT1 l) : qH N l x = 0 ∨ qH N l x = 1 := (qH_w (N := N) (x := x) h).1
theorem qT1_and {a b : List Int} (h : qT1 a) (k : qT1 b) : qT1 (a ++ b ++ [-24]) := fun pv => by
  obtain ⟨v, hv⟩ := h pv
  obtain ⟨w, hw⟩ := k pv
  exact ⟨_, qW_and hv hw⟩
theorem qT1_or {a b : List Int} (h : qT1 a) (k : qT1 b) : qT1 (a ++ b ++ [-25]) := fun pv => by
  obtain ⟨v, hv⟩ := h pv
  obtain ⟨w, hw⟩ := k pv
  exact ⟨_, qW_or hv hw⟩
theorem mOK_and {a b : List Int} {m n : Nat} (ha : qT1 a) (hb : qT1 b) (h : mOK N a m) (k : mOK N b n) : mOK N (a ++ b ++ [-24]) (m &&& n) := fun i hi => by
  rw [qH_is (qW_and (qH_w ha) (qH_w hb)), Nat.testBit_and, Bool.and_eq_true, h i hi, k i hi]
  have u := qH_1 (N := N) (x := (i : Int)) ha
  have v := qH_1 (N := N) (x := (i : Int)) hb
  constructor <;> intro z <;> omega
theorem mOK_or {a b : List Int} {m n : Nat} (ha : qT1 a) (hb : qT1 b) (h : mOK N a m) (k : mOK N b n) : mOK N (a ++ b ++ [-25]) (m ||| n) := fun i hi => by
  rw [qH_is (qW_or (qH_w ha) (qH_w hb)), Nat.testBit_or, Bool.or_eq_true, h i hi, k i hi]
  have u := qH_1 (N := N) (x := (i : Int)) ha
  have v := qH_1 (N := N) (x := (i : Int)) hb
  constructor <;> intro z <;> omega
theorem mOK_not {a : List Int} {m : Nat} (ha : qT1 a) (h : mOK N a m) : mOK N (a ++ [-23]) (m ^^^ (2 ^ nS N - 1)) := fun i hi => by
  rw [qH_is (qW_not (qH_w ha)), Nat.testBit_xor, Nat.testBit_two_pow_sub_one, decide_eq_true hi]
  have u := qH_1 (N := N) (x := (i : Int)) ha
  have q := h i hi
  cases e : m.testBit i
  · rw [e] at q
    have : ¬ qH N a (i : Int) = 1 := fun z => absurd (q.mpr z) (by decide)
    exact ⟨fun _ => by omega, fun _ => rfl⟩
  · rw [e] at q
    have : qH N a (i : Int) = 1 := q.mp rfl
    exact ⟨fun z => absurd z (by decide), fun z => by omega⟩
/-- what a reader of truth values of the class's does -/
def qMS (G : zG) (M : zMeth) (K : Nat) (B : Nat → Nat) (N t : Int → Int) (L : Nat) (as : List zV) (F : tS → qS) : Prop :=
  ∀ (e : Nat) (σ : zMem) (s : tS), K ≤ e → cQt σ B → cM σ B → cR N σ B → cTk σ B t L → cTs σ B t L s → zE G M e (zR (B 40) :: as) σ (fun ro σ1 => ∃ m : Nat, ro = .inl (some (zI ((m : Nat) : Int))) ∧ zFr (PTk B) σ σ1 ∧ cTs σ1 B t L (F s).2 ∧ m < 2 ^ nS N ∧ ((F s).2.2 = 0 → mOK N (F s).1 m))
/-- where a test's reading stands: what is found, the conjunction, the place -/
def qTr (N t : Int → Int) (L : Nat) (F : tS → qS) (s : tS) (m1 m2 : Nat) (u : tS) : Prop := ∃ (Y c : List Int) (i j : Nat),
  ((m1 = 0 ∧ qTest t L F s = qTestL t L F j (qConjL t L F i (c, u))) ∨ (qTest t L F s = qTestL t L F j (Y ++ (qConjL t L F i (c, u)).1 ++ [-25], (qConjL t L F i (c, u)).2) ∧ (u.2 = 0 → qT1 Y ∧ mOK N Y m1))) ∧
  (u.2 = 0 → 200 ≤ i + u.1 ∧ 200 ≤ j + u.1 ∧ qT1 c ∧ mOK N c m2)
theorem qConjL_n {i : Nat} {c : List Int} {u : tS} (h : ¬ tWd t L (zsbi 28) u) : qConjL t L F i (c, u) = (c, u) := by
  cases i with
  | zero => rfl
  | succ i => exact if_neg h
theorem qTestL_n {i : Nat} {c : List Int} {u : tS} (h : ¬ tWd t L (zsbi 29) u) : qTestL t L F i (c, u) = (c, u) := by
  cases i with
  | zero => rfl
  | succ i => exact if_neg h
theorem qTr_0 {m : Nat} (hI : qI t L F) (hs : s.1 ≤ L) (h : (F s).2.2 = 0 → mOK N (F s).1 m) : qTr N t L F s 0 m (F s).2 :=
  ⟨[], (F s).1, 200, 200, Or.inl ⟨rfl, rfl⟩, fun z => ⟨by omega, by omega, ((hI s hs).2 z).2.2.2, h z⟩⟩
theorem qTr_and {m1 m2 m3 : Nat} {u : tS} (hL : L ≤ 200) (hI : qI t L F) (hu : u.1 ≤ L) (T : qTr N t L F s m1 m2 u) (hw : tWd t L (zsbi 28) u) (h3 : (F (tAdv t L u)).2.2 = 0 → mOK N (F (tAdv t L u)).1 m3) : qTr N t L F s m1 (m2 &&& m3) (F (tAdv t L u)).2 := by
  obtain ⟨Y, c, i, j, h1, h2⟩ := T
  have u0 := tWd_0 hw
  have ap := tAdv_p (t := t) hu u0 (tWd_k hw)
  have bF := hI (tAdv t L u) ap.2
  have q := h2 u0
  cases i with
  | zero => omega
  | succ i =>
    have e : qConjL t L F (i + 1) (c, u) = qConjL t L F i (c ++ (F (tAdv t L u)).1 ++ [-24], (F (tAdv t L u)).2) := if_pos hw
    rw [e] at h1
    refine ⟨Y, c ++ (F (tAdv t L u)).1 ++ [-24], i, j, ?_, fun z => ?_⟩
    · rcases h1 with h1 | h1
      · exact Or.inl h1
      · exact Or.inr ⟨h1.1, fun _ => h1.2 u0⟩
    · have r := (bF.2 z).2.2.2
      exact ⟨by omega, by omega, qT1_and q.2.2.1 r, mOK_and q.2.2.1 r q.2.2.2 (h3 z)⟩
theorem qTr_X {m1 m2 : Nat} {u : tS} (T : qTr N t L F s m1 m2 u) (hn : ¬ tWd t L (zsbi 28) u) : ∃ (X : List Int) (j : Nat), qTest t L F s = qTestL t L F j (X, u) ∧ (u.2 = 0 → 200 ≤ j + u.1 ∧ qT1 X ∧ mOK N X (m1 ||| m2)) := by
  obtain ⟨Y, c, i, j, h1, h2⟩ := T
  rw [qConjL_n hn] at h1
  rcases h1 with h1 | h1
  · refine ⟨c, j, h1.2, fun z => ?_⟩
    have q := h2 z
    refine ⟨q.2.1, q.2.2.1, ?_⟩
    rw [h1.1, Nat.zero_or]
    exact q.2.2.2
  · refine ⟨Y ++ c ++ [-25], j, h1.1, fun z => ?_⟩
    have q := h2 z
    have y := h1.2 z
    exact ⟨q.2.1, qT1_or y.1 q.2.2.1, mOK_or y.1 q.2.2.1 y.2 q.2.2.2⟩
theorem qTr_or {m1 m2 m3 : Nat} {u : tS} (hL : L ≤ 200) (hI : qI t L F) (hu : u.1 ≤ L) (T : qTr N t L F s m1 m2 u) (hn : ¬ tWd t L (zsbi 28) u) (hw : tWd t L (zsbi 29) u) (h3 : (F (tAdv t L u)).2.2 = 0 → mOK N (F (tAdv t L u)).1 m3) : qTr N t L F s (m1 ||| m2) m3 (F (tAdv t L u)).2 := by
  obtain ⟨X, j, e, h⟩ := qTr_X T hn
  have u0 := tWd_0 hw
  have ap := tAdv_p (t := t) hu u0 (tWd_k hw)
  have bF := hI (tAdv t L u) ap.2
  have q := h u0
  cases j with
  | zero => omega
  | succ j =>
    have e2 : qTestL t L F (j + 1) (X, u) = qTestL t L F j (X ++ (qConj t L F (tAdv t L u)).1 ++ [-25], (qConj t L F (tAdv t L u)).2) := if_pos hw
    rw [e2] at e
    refine ⟨X, (F (tAdv t L u)).1, 200, j, Or.inr ⟨e, fun _ => ⟨q.2.1, q.2.2⟩⟩, fun z => ?_⟩
    have r := (bF.2 z).2.2.2
    exact ⟨by omega, by omega, r, h3 z⟩
theorem qTr_end {m1 m2 : Nat} {u : tS} (T : qTr N t L F s m1 m2 u) (hn : ¬ tWd t L (zsbi 28) u) (hw : ¬ tWd t L (zsbi 29) u) : (qTest t L F s).2 = u ∧ ((qTest t L F s).2.2 = 0 → mOK N (qTest t L F s).1 (m1 ||| m2)) := by
  obtain ⟨X, j, e, h⟩ := qTr_X T hn
  rw [qTestL_n hw] at e
  rw [e]
  exact ⟨rfl, fun z => (h z).2.2⟩
theorem tWd_end {u : tS} {w : List Int} (h : L ≤ u.1) (hu : u.1 ≤ L) : ¬ tWd t L w u := fun z => by
  have u0 := tWd_0 z
  have ap := tAdv_p (t := t) hu u0 (tWd_k z)
  omega
theorem zt_X7_allScreens (hq : cQt σ B) (hB : cM σ B) (hR : cR N σ B) (hV : mV N) : zP1 G mX7_allScreens d [zR (B 40)] σ ((2 ^ nS N - 1 : Nat) : Int) := by
  refine zE_of rfl (by simp [zcat]) (Nat.le_of_ble_eq_true rfl) ?_
  show zF G mX7_allScreens d 0 [(0, zR (B 40))] [] σ _
  have hb := hV.b
  have hn := hV.n
  have hnS := nS_eq hV
  refine zF_iconst 1 dX7_allScreens_0 rfl ?_
  refine zF_aload_n 2 dX7_allScreens_1 rfl rfl ?_
  refine zF_getR 5 dX7_allScreens_2 rfl gX7_15 hq.1 hq.2.1 hq.2.2.2.1 ?_
  refine zF_getI 8 dX7_allScreens_5 rfl gX7_60 (by decide) (by decide) hB.ch.1 hB.ch.2.1 hR.c.1.2.1 ?_
  refine zF_ishl 9 dX7_allScreens_8 rfl ?_
  refine zF_I (b := ((2 ^ nS N : Nat) : Int)) (by rw [hnS.1]; exact m10_shl ⟨nS N, by omega⟩) ?_
  refine zF_iconst 10 dX7_allScreens_9 rfl ?_
  refine zF_isub 11 dX7_allScreens_10 rfl ?_
  exact zF_iretP dX7_allScreens_11 rfl (by have := Nat.one_le_two_pow (n := nS N); omega)
def fBt (m : Nat) (x : Int) : Int := (((m.testBit x.toNat).toNat : Nat) : Int)
theorem zt_X7_leastIn {m : Nat} (hq : cQt σ B) (hB : cM σ B) (hR : cR N σ B) (hV : mV N) (hm10 : m < 1024) : zP1 G mX7_leastIn d [zR (B 40), zI ((m : Nat) : Int)] σ (qFst (fBt m) (nS N) 0) := by
  refine zE_of rfl (by simp [zcat]) (Nat.le_of_ble_eq_true rfl) ?_
  show zF G mX7_leastIn d 0 [(0, zR (B 40)), (1, zI ((m : Nat) : Int))] [] σ _
  have hb := hV.b
  have hn := hV.n
  have hnS := nS_eq hV
  refine zF_iconst 1 dX7_leastIn_0 rfl ?_
  refine zF_istore_n 2 (ls' := [(2, zI 0), (0, zR (B 40)), (1, zI ((m : Nat) : Int))]) dX7_leastIn_1 rfl (by decide) rfl ?_
  refine zF_locs (ls' := [(2, zI ((0 : Nat) : Int)), (0, zR (B 40)), (1, zI ((m : Nat) : Int))]) ⟨zlI rfl (by first | rfl | omega | (push_cast; omega) | exact congrArg (_ + ·) (zbT (by assumption)) | exact congrArg (_ + ·) (zbF (by assumption)) | exact congrArg (_ + ·) (zbT (by omega)) | exact congrArg (_ + ·) (zbF (by omega)) | exact congrArg (_ + ·) (if_pos (by omega)).symm | exact congrArg (_ + ·) (if_neg (by omega)).symm | exact (if_pos (by omega)).symm | exact (if_neg (by omega)).symm | exact zsub_s (if_pos (by omega)).symm | exact zsub_s0 (if_neg (by omega)).symm | exact zadd0 (if_neg (by omega)).symm | exact zadd0 (zbF (by omega)) | exact (Int.sub_zero _).symm), rfl, rfl, trivial⟩ ?_
  refine zF_while (X := Nat) (fun x => nS N - x) (fun x σ2 => x ≤ nS N ∧ σ2 = σ ∧ qFst (fBt m) (nS N) 0 = qFst (fBt m) (nS N - x) x) (fun x => [(2, zI ((x : Nat) : Int)), (0, zR (B 40)), (1, zI ((m : Nat) : Int))]) ?_ 0 σ (⟨Nat.zero_le _, rfl, by rw [Nat.sub_zero]⟩)
  intro x σ2 hI2 ih2
  show zF G mX7_leastIn d 2 [(2, zI ((x : Nat) : Int)), (0, zR (B 40)), (1, zI ((m : Nat) : Int))] [] σ2 _
  obtain ⟨hxn, e2, hfs⟩ := hI2
  subst e2
  have hb1 : (m.testBit x).toNat ≤ 1 := Bool.toNat_le _
  refine zF_iload_n 3 dX7_leastIn_2 rfl rfl ?_
  refine zF_aload_n 4 dX7_leastIn_3 rfl rfl ?_
  refine zF_getR 7 dX7_leastIn_4 rfl gX7_15 hq.1 hq.2.1 hq.2.2.2.1 ?_
  refine zF_getI 10 dX7_leastIn_7 rfl gX7_60 (by decide) (by decide) hB.ch.1 hB.ch.2.1 hR.c.1.2.1 ?_
  refine zF_icmp_ge 29 13 dX7_leastIn_10 rfl rfl (by first | decide | assumption | exact hb _ | exact mSh_rg hb _ _ | exact zb_rg _ | (constructor <;> omega)) (by first | decide | assumption | exact hb _ | exact mSh_rg hb _ _ | exact zb_rg _ | (constructor <;> omega)) (fun c1 => ?_) (fun c1 => ?_)
  · refine zF_iconst 30 dX7_leastIn_29 rfl ?_
    exact zF_iretP dX7_leastIn_30 rfl ((by rw [hfs, show nS N - x = 0 by omega]; rfl))
  · refine zF_iload_n 14 dX7_leastIn_13 rfl rfl ?_
    refine zF_iload_n 15 dX7_leastIn_14 rfl rfl ?_
    refine zF_ishr 16 dX7_leastIn_15 rfl ?_
    refine zF_iconst 17 dX7_leastIn_16 rfl ?_
    refine zF_iand 18 dX7_leastIn_17 rfl ?_
    refine zF_I (b := (((m.testBit x).toNat : Nat) : Int)) (m10_shr ⟨m, hm10⟩ ⟨x, by omega⟩) ?_
    refine zF_if_eq 23 21 dX7_leastIn_18 rfl rfl (by first | decide | assumption | exact hb _ | exact mSh_rg hb _ _ | exact zb_rg _ | (constructor <;> omega)) (fun c2 => ?_) (fun c2 => ?_)
    · refine zF_iinc 26 (ls' := [(2, zI (((x : Nat) : Int) + 1)), (0, zR (B 40)), (1, zI ((m : Nat) : Int))]) dX7_leastIn_23 rfl rfl rfl (by decide) rfl ?_
      refine zF_goto 2 dX7_leastIn_26 rfl ?_
      exact zF_locs (ls' := [(2, zI (((x + 1) : Nat) : Int)), (0, zR (B 40)), (1, zI ((m : Nat) : Int))]) ⟨zlI rfl (by first | rfl | omega | (push_cast; omega) | exact congrArg (_ + ·) (zbT (by assumption)) | exact congrArg (_ + ·) (zbF (by assumption)) | exact congrArg (_ + ·) (zbT (by omega)) | exact congrArg (_ + ·) (zbF (by omega)) | exact congrArg (_ + ·) (if_pos (by omega)).symm | exact congrArg (_ + ·) (if_neg (by omega)).symm | exact (if_pos (by omega)).symm | exact (if_neg (by omega)).symm | exact zsub_s (if_pos (by omega)).symm | exact zsub_s0 (if_neg (by omega)).symm | exact zadd0 (if_neg (by omega)).symm | exact zadd0 (zbF (by omega)) | exact (Int.sub_zero _).symm), rfl, rfl, trivial⟩ (ih2 (x + 1) _ (by omega) (⟨by omega, rfl, by rw [hfs, show nS N - x = (nS N - (x + 1)) + 1 by omega]; exact if_neg (by unfold fBt; rw [Int.toNat_natCast]; omega)⟩))
    · refine zF_iload_n 22 dX7_leastIn_21 rfl rfl ?_
      exact zF_iretP dX7_leastIn_22 rfl ((by rw [hfs, show nS N - x = (nS N - (x + 1)) + 1 by omega]; exact (if_pos (by unfold fBt; rw [Int.toNat_natCast]; omega)).symm))
theorem zq_readComparison (hG : zOS G) (hO : zOPr G) (hV : mV N) (hW : mW N) (hX : mX N) : qMS G mX7_readComparison 7 B N t L [] (qCmp t L) := by
  intro e σ s he hq hB hR hT hs
  obtain ⟨d, rfl⟩ : ∃ d, e = d + 7 := ⟨e - 7, by omega⟩
  refine zE_of rfl (by simp [zcat]) (Nat.le_of_ble_eq_true rfl) ?_
  show zF G mX7_readComparison (d + 7) 0 [(0, zR (B 40))] [] σ _
  have eb := hs.2.2.2.2.2.2.2.2
  have hi := hB.inj
  have hb := hV.b
  have hn := hV.n
  have hnS := nS_eq hV
  refine zF_aload_n 1 dX7_readComparison_0 rfl rfl ?_
  refine zF_callV 4 (d2 := (d + 6)) (as := []) dX7_readComparison_1 rfl kX7_95 iX7_readValue (ci := 7) rfl eX7_readValue (Nat.le_refl _) hq.1 hq.2.1 rfl rfl (Nat.le_of_ble_eq_true rfl) (zE.mono (zt_X7_readValue (σ := σ) hG hO hq hB hR hT hs) fun ro σa1 hh1 => ?_)
  obtain ⟨er1, fr1, p1⟩ := hh1
  subst er1
  refine ⟨fr1.1, ?_⟩
  show zF G mX7_readComparison (d + 7) 4 [(0, zR (B 40))] [zI ((qVal t L s).1)] σa1 _
  have hB1a := cM_fr hB fr1
  have hR1a := PTk_cR hB.inj fr1 hR
  have hT1a := cTk_ad hT fr1
  have hq1a := cQt_fr hq fr1
  have hs1a : cTs σa1 B t L (qVal t L s).2 := p1
  have eb1 := hs1a.2.2.2.2.2.2.2.2
  refine zF_istore_n 5 (ls' := [(1, zI ((qVal t L s).1)), (0, zR (B 40))]) dX7_readComparison_4 rfl (by decide) rfl ?_
  refine zF_aload_n 6 dX7_readComparison_5 rfl rfl ?_
  refine zF_callV 9 (d2 := (d + 6)) (as := []) dX7_readComparison_6 rfl kX7_98 iX7_readRelation (ci := 7) rfl eX7_readRelation (Nat.le_refl _) hq1a.1 hq1a.2.1 rfl rfl (Nat.le_of_ble_eq_true rfl) (zE.mono (zt_X7_readRelation (σ := σa1) hG hO hq1a hB1a hR1a hT1a hs1a) fun ro σa2 hh2 => ?_)
  obtain ⟨er2, fr2, p2⟩ := hh2
  subst er2
  refine ⟨fr2.1, ?_⟩
  show zF G mX7_readComparison (d + 7) 9 [(1, zI ((qVal t L s).1)), (0, zR (B 40))] [zI (qRv t L (qVal t L s).2)] σa2 _
  have hB2a := cM_fr hB1a fr2
  have hR2a := PTk_cR hB.inj fr2 hR1a
  have hT2a := cTk_ad hT1a fr2
  have hq2a := cQt_fr hq1a fr2
  have hs2a : cTs σa2 B t L (qRel t L (qVal t L s).2).2 := p2
  have eb2 := hs2a.2.2.2.2.2.2.2.2
  refine zF_istore_n 10 (ls' := [(2, zI (qRv t L (qVal t L s).2)), (1, zI ((qVal t L s).1)), (0, zR (B 40))]) dX7_readComparison_9 rfl (by decide) rfl ?_
  refine zF_aload_n 11 dX7_readComparison_10 rfl rfl ?_
  refine zF_callV 14 (d2 := (d + 6)) (as := []) dX7_readComparison_11 rfl kX7_95 iX7_readValue (ci := 7) rfl eX7_readValue (Nat.le_refl _) hq2a.1 hq2a.2.1 rfl rfl (Nat.le_of_ble_eq_true rfl) (zE.mono (zt_X7_readValue (σ := σa2) hG hO hq2a hB2a hR2a hT2a hs2a) fun ro σa3 hh3 => ?_)
  obtain ⟨er3, fr3, p3⟩ := hh3
  subst er3
  refine ⟨fr3.1, ?_⟩
  show zF G mX7_readComparison (d + 7) 14 [(2, zI (qRv t L (qVal t L s).2)), (1, zI ((qVal t L s).1)), (0, zR (B 40))] [zI ((qVal t L (qRel t L (qVal t L s).2).2).1)] σa3 _
  have hB3a := cM_fr hB2a fr3
  have hR3a := PTk_cR hB.inj fr3 hR2a
  have hT3a := cTk_ad hT2a fr3
  have hq3a := cQt_fr hq2a fr3
  have hs3a : cTs σa3 B t L (qVal t L (qRel t L (qVal t L s).2).2).2 := p3
  have eb3 := hs3a.2.2.2.2.2.2.2.2
  refine zF_istore_n 15 (ls' := [(3, zI ((qVal t L (qRel t L (qVal t L s).2).2).1)), (2, zI (qRv t L (qVal t L s).2)), (1, zI ((qVal t L s).1)), (0, zR (B 40))]) dX7_readComparison_14 rfl (by decide) rfl ?_
  refine zF_iconst 16 dX7_readComparison_15 rfl ?_
  refine zF_istore 18 (ls' := [(4, zI 0), (3, zI ((qVal t L (qRel t L (qVal t L s).2).2).1)), (2, zI (qRv t L (qVal t L s).2)), (1, zI ((qVal t L s).1)), (0, zR (B 40))]) dX7_readComparison_16 rfl (by decide) rfl ?_
  refine zF_iconst 19 dX7_readComparison_18 rfl ?_
  refine zF_istore 21 (ls' := [(5, zI 0), (4, zI 0), (3, zI ((qVal t L (qRel t L (qVal t L s).2).2).1)), (2, zI (qRv t L (qVal t L s).2)), (1, zI ((qVal t L s).1)), (0, zR (B 40))]) dX7_readComparison_19 rfl (by decide) rfl ?_
  refine zF_locs (ls' := [(5, zI ((0 : Nat) : Int)), (4, zI ((0 : Nat) : Int)), (3, zI ((qVal t L (qRel t L (qVal t L s).2).2).1)), (2, zI (qRv t L (qVal t L s).2)), (1, zI ((qVal t L s).1)), (0, zR (B 40))]) ⟨zlI rfl (by first | rfl | omega | (push_cast; omega)), zlI rfl (by first | rfl | omega | (push_cast; omega)), rfl, rfl, rfl, rfl, trivial⟩ ?_
  refine zF_while (X := Nat × Nat) (fun y9 => nS N - y9.1) (fun y9 σ2 => y9.1 ≤ nS N ∧ σ2 = σa3 ∧ y9.2 < 2 ^ y9.1 ∧ ∀ k : Nat, k < y9.1 → (y9.2.testBit k = true ↔ (fun k : Nat => qHd (qRv t L (qVal t L s).2) (qPv (qPn N (k : Int)) (qVal t L s).1) (qPv (qPn N (k : Int)) (qVal t L (qRel t L (qVal t L s).2).2).1) = 1) k)) (fun y9 => [(5, zI ((y9.1 : Nat) : Int)), (4, zI ((y9.2 : Nat) : Int)), (3, zI ((qVal t L (qRel t L (qVal t L s).2).2).1)), (2, zI (qRv t L (qVal t L s).2)), (1, zI ((qVal t L s).1)), (0, zR (B 40))]) ?_ (0, 0) σa3 (⟨Nat.zero_le _, rfl, by show 0 < 2 ^ 0; decide, fun k hk => absurd hk (Nat.not_lt_zero _)⟩)
  intro ⟨x, m⟩ σ2 hI21 ih21
  show zF G mX7_readComparison (d + 7) 21 [(5, zI ((x : Nat) : Int)), (4, zI ((m : Nat) : Int)), (3, zI ((qVal t L (qRel t L (qVal t L s).2).2).1)), (2, zI (qRv t L (qVal t L s).2)), (1, zI ((qVal t L s).1)), (0, zR (B 40))] [] σ2 _
  obtain ⟨hxn, e2, hm, hbm⟩ := hI21
  replace hxn : x ≤ nS N := hxn
  subst e2
  replace hm : m < 2 ^ x := hm
  replace hbm : ∀ k : Nat, k < x → (m.testBit k = true ↔ (fun k : Nat => qHd (qRv t L (qVal t L s).2) (qPv (qPn N (k : Int)) (qVal t L s).1) (qPv (qPn N (k : Int)) (qVal t L (qRel t L (qVal t L s).2).2).1) = 1) k) := hbm
  have hm10 := m1024 hm (by omega)
  have p2l : 2 ^ x < 1024 ∨ 10 ≤ x := by by_cases q : x < 10; exact Or.inl (Nat.lt_of_lt_of_le (Nat.pow_lt_pow_right (by decide) q) (by decide)); exact Or.inr (by omega)
  have h01 := qHd_01 (r := qRv t L (qVal t L s).2) (x := qPv (qPn N (x : Int)) (qVal t L s).1) (y := qPv (qPn N (x : Int)) (qVal t L (qRel t L (qVal t L s).2).2).1)
  refine zF_iload 23 dX7_readComparison_21 rfl rfl ?_
  refine zF_aload_n 24 dX7_readComparison_23 rfl rfl ?_
  refine zF_getR 27 dX7_readComparison_24 rfl gX7_15 hq3a.1 hq3a.2.1 hq3a.2.2.2.1 ?_
  refine zF_getI 30 dX7_readComparison_27 rfl gX7_60 (by decide) (by decide) hB3a.ch.1 hB3a.ch.2.1 hR3a.c.1.2.1 ?_
  refine zF_icmp_ge 69 33 dX7_readComparison_30 rfl rfl (by first | decide | assumption | exact hb _ | (constructor <;> omega)) (by first | decide | assumption | exact hb _ | (constructor <;> omega)) (fun c1 => ?_) (fun c1 => ?_)
  · refine zF_iload 71 dX7_readComparison_69 rfl rfl ?_
    exact zF_ireturn dX7_readComparison_71 rfl ((by
      have hxn2 : x = nS N := by omega
      subst hxn2
      refine ⟨m, rfl, ((fr1.tr fr2).tr fr3), hs3a, hm, fun z k hk => ?_⟩
      rw [hbm k hk, qH_is (qW_cmp z).2, ← qHd_op]))
  · refine zF_iload_n 34 dX7_readComparison_33 rfl rfl ?_
    refine zF_aload_n 35 dX7_readComparison_34 rfl rfl ?_
    refine zF_iload_n 36 dX7_readComparison_35 rfl rfl ?_
    refine zF_iload 38 dX7_readComparison_36 rfl rfl ?_
    refine zF_callVi 41 (d2 := (d + 6)) (as := [zI ((qVal t L s).1), zI ((x : Nat) : Int)]) dX7_readComparison_38 rfl kX7_101 iX7_valueFor (ci := 7) rfl eX7_valueFor (Nat.le_refl _) hq3a.1 hq3a.2.1 rfl rfl (Nat.le_of_ble_eq_true rfl) (zt_X7_valueFor hO hq3a hB3a hR3a hV hW hX (by omega) (by omega) qVal_rg.1 qVal_rg.2) ?_
    refine zF_aload_n 42 dX7_readComparison_41 rfl rfl ?_
    refine zF_iload_n 43 dX7_readComparison_42 rfl rfl ?_
    refine zF_iload 45 dX7_readComparison_43 rfl rfl ?_
    refine zF_callVi 48 (d2 := (d + 6)) (as := [zI ((qVal t L (qRel t L (qVal t L s).2).2).1), zI ((x : Nat) : Int)]) dX7_readComparison_45 rfl kX7_101 iX7_valueFor (ci := 7) rfl eX7_valueFor (Nat.le_refl _) hq3a.1 hq3a.2.1 rfl rfl (Nat.le_of_ble_eq_true rfl) (zt_X7_valueFor hO hq3a hB3a hR3a hV hW hX (by omega) (by omega) qVal_rg.1 qVal_rg.2) ?_
    refine zF_callSi 51 (d2 := (d + 6)) (as := [zI (qRv t L (qVal t L s).2), zI (qPv (qPn N ((x : Nat) : Int)) ((qVal t L s).1)), zI (qPv (qPn N ((x : Nat) : Int)) ((qVal t L (qRel t L (qVal t L s).2).2).1))]) dX7_readComparison_48 rfl kX7_105 sX7_holds (Nat.le_refl _) rfl rfl (Nat.le_of_ble_eq_true rfl) (zt_X7_holdsA (by have := qRv_b (t := t) (L := L) (s := (qVal t L s).2); constructor <;> omega) (qPv_r hV (by omega) (by omega) qVal_rg.1 qVal_rg.2) (qPv_r hV (by omega) (by omega) qVal_rg.1 qVal_rg.2)) ?_
    refine zF_if_eq 63 54 dX7_readComparison_51 rfl rfl (by first | decide | assumption | exact hb _ | (constructor <;> omega)) (fun c2 => ?_) (fun c2 => ?_)
    · refine zF_iinc 66 (ls' := [(5, zI (((x : Nat) : Int) + 1)), (4, zI ((m : Nat) : Int)), (3, zI ((qVal t L (qRel t L (qVal t L s).2).2).1)), (2, zI (qRv t L (qVal t L s).2)), (1, zI ((qVal t L s).1)), (0, zR (B 40))]) dX7_readComparison_63 rfl rfl rfl (by decide) rfl ?_
      refine zF_goto 21 dX7_readComparison_66 rfl ?_
      exact zF_locs (ls' := [(5, zI (((x + 1) : Nat) : Int)), (4, zI ((m : Nat) : Int)), (3, zI ((qVal t L (qRel t L (qVal t L s).2).2).1)), (2, zI (qRv t L (qVal t L s).2)), (1, zI ((qVal t L s).1)), (0, zR (B 40))]) ⟨zlI rfl (by first | rfl | omega | (push_cast; omega)), rfl, rfl, rfl, rfl, rfl, trivial⟩ (ih21 ((x + 1), m) _ (by show nS N - (x + 1) < nS N - x; omega) (⟨by show x + 1 ≤ nS N; omega, rfl, mB_s0 (P := (fun k : Nat => qHd (qRv t L (qVal t L s).2) (qPv (qPn N (k : Int)) (qVal t L s).1) (qPv (qPn N (k : Int)) (qVal t L (qRel t L (qVal t L s).2).2).1) = 1)) hm hbm (by show ¬ _ = 1; omega)⟩))
    · refine zF_iload 56 dX7_readComparison_54 rfl rfl ?_
      refine zF_iconst 57 dX7_readComparison_56 rfl ?_
      refine zF_iload 59 dX7_readComparison_57 rfl rfl ?_
      refine zF_ishl 60 dX7_readComparison_59 rfl ?_
      refine zF_I (b := ((2 ^ x : Nat) : Int)) (m10_shl ⟨x, by omega⟩) ?_
      refine zF_ior 61 dX7_readComparison_60 rfl ?_
      refine zF_I (b := ((m ||| (2 ^ x) : Nat) : Int)) (m10_or hm10 (by omega)) ?_
      refine zF_istore 63 (ls' := [(4, zI ((m ||| (2 ^ x) : Nat) : Int)), (5, zI ((x : Nat) : Int)), (3, zI ((qVal t L (qRel t L (qVal t L s).2).2).1)), (2, zI (qRv t L (qVal t L s).2)), (1, zI ((qVal t L s).1)), (0, zR (B 40))]) dX7_readComparison_61 rfl (by decide) rfl ?_
      refine zF_iinc 66 (ls' := [(5, zI (((x : Nat) : Int) + 1)), (4, zI ((m ||| (2 ^ x) : Nat) : Int)), (3, zI ((qVal t L (qRel t L (qVal t L s).2).2).1)), (2, zI (qRv t L (qVal t L s).2)), (1, zI ((qVal t L s).1)), (0, zR (B 40))]) dX7_readComparison_63 rfl rfl rfl (by decide) rfl ?_
      refine zF_goto 21 dX7_readComparison_66 rfl ?_
      exact zF_locs (ls' := [(5, zI (((x + 1) : Nat) : Int)), (4, zI (((m ||| (2 ^ x)) : Nat) : Int)), (3, zI ((qVal t L (qRel t L (qVal t L s).2).2).1)), (2, zI (qRv t L (qVal t L s).2)), (1, zI ((qVal t L s).1)), (0, zR (B 40))]) ⟨zlI rfl (by first | rfl | omega | (push_cast; omega)), zlI rfl (by first | rfl | omega | (push_cast; omega)), rfl, rfl, rfl, rfl, trivial⟩ (ih21 ((x + 1), (m ||| (2 ^ x))) _ (by show nS N - (x + 1) < nS N - x; omega) (⟨by show x + 1 ≤ nS N; omega, rfl, mB_s1 (P := (fun k : Nat => qHd (qRv t L (qVal t L s).2) (qPv (qPn N (k : Int)) (qVal t L s).1) (qPv (qPn N (k : Int)) (qVal t L (qRel t L (qVal t L s).2).2).1) = 1)) hm hbm (by show _ = 1; omega)⟩))
end ZCY

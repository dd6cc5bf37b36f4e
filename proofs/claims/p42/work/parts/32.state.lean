/-! the class: the state is changed; the week's table; the history -/
section ZC6
variable {G : zG} {d : Nat} {σ : zMem} {B : Nat → Nat} {N : Int → Int}
/-- chain and state, the table aside -/
def cR0 (N : Int → Int) (σ : zMem) (B : Nat → Nat) : Prop := cRc N σ B 100 ∧ cRs N σ B 200
theorem cR0.c (h : cR0 N σ B) : cRc N σ B 100 := h.1
theorem cR0.s (h : cR0 N σ B) : cRs N σ B 200 := h.2
/-- some of the class's places -/
def zRg (lo hi : Nat) (B : Nat → Nat) (h : Nat) (_ : Int) : Prop := ∃ i, lo ≤ i ∧ i < hi ∧ h = B i
theorem zRg.no {lo hi k : Nat} {j : Int} (hi' : ∀ i j, B i = B j → i = j) (h : k < lo ∨ hi ≤ k) : ¬ zRg lo hi B (B k) j := fun ⟨i, a, b, e⟩ => by
  have := hi' _ _ e
  omega
theorem zFr.rg {lo hi k : Nat} {σ2 : zMem} (f : zFr (zRg lo hi B) σ σ2) (hi' : ∀ i j, B i = B j → i = j) (h : k < lo ∨ hi ≤ k) : zia σ2 (B k) = zia σ (B k) := f.at fun _ => zRg.no hi' h
theorem zRg.wk {lo hi lo2 hi2 : Nat} {σ2 : zMem} (f : zFr (zRg lo hi B) σ σ2) (h : lo2 ≤ lo ∧ hi ≤ hi2) : zFr (zRg lo2 hi2 B) σ σ2 := f.wk fun _ _ ⟨i, a, b, e⟩ => ⟨i, by omega, by omega, e⟩
theorem zRg.mk {lo hi k : Nat} {j : Int} (h : lo ≤ k ∧ k < hi) : zRg lo hi B (B k) j := ⟨k, h.1, h.2, rfl⟩
theorem cR0_rg {lo hi : Nat} {σ2 : zMem} (hB : cM σ B) (f : zFr (zRg lo hi B) σ σ2) (hl : 216 ≤ lo ∨ hi ≤ 100) (h : cR0 N σ B) : cR0 N σ2 B :=
  ⟨cRc_congr (fun k hk => f.rg hB.inj (by omega)) h.1, cRs_congr (fun k hk => f.rg hB.inj (by omega)) h.2⟩
theorem cR_congr2 {σ2 : zMem} (e : ∀ i, 100 ≤ i → i ≤ 302 → zia σ2 (B i) = zia σ (B i)) (h : cR N σ B) : cR N σ2 B :=
  ⟨cRc_congr (fun k hk => e (100 + k) (by omega) (by omega)) h.1, cRs_congr (fun k hk => e (200 + k) (by omega) (by omega)) h.2.1, by rw [e 302 (by omega) (by omega)]; exact h.2.2⟩
theorem cR_rg {lo hi : Nat} {σ2 : zMem} (hB : cM σ B) (f : zFr (zRg lo hi B) σ σ2) (hl : 303 ≤ lo ∨ hi ≤ 100) (h : cR N σ B) : cR N σ2 B :=
  cR_congr2 (fun i h1 h2 => f.rg hB.inj (by omega)) h
/-- one number changed -/
def mSet (N : Int → Int) (j v : Int) : Int → Int := fun i => if i = j then v else N i
theorem mSet_at (N : Int → Int) (j v : Int) : mSet N j v j = v := if_pos rfl
theorem mSet_o {N : Int → Int} {i j v : Int} (h : i ≠ j) : mSet N j v i = N i := if_neg h
theorem mDem_congr {N N' : Int → Int} {f : Int} (h0 : mF N' f 0 = mF N f 0) (h1 : mF N' f 1 = mF N f 1) (h8 : mF N' f 8 = mF N f 8) (h3 : N' 3 = N 3) : mDem N' f = mDem N f := by
  have q1 : mAge N' f = mAge N f := by unfold mAge; rw [h8, h3]
  unfold mDem
  rw [q1]
  generalize (mAge N f).toNat = k
  induction k with
  | zero => exact h0
  | succ k ih => show mDemN N' f k * mF N' f 1 / 100 = mDemN N f k * mF N f 1 / 100; rw [ih, h1]
/-- the chain's numbers are the same -/
def cE (N N' : Int → Int) : Prop := (N' 0 = N 0 ∧ N' 1 = N 1 ∧ N' 2 = N 2) ∧ (∀ h, 0 ≤ h → h < 4 → mH N' h 0 = mH N h 0) ∧ (∀ s, 0 ≤ s → s < 10 → mS N' s 0 = mS N s 0 ∧ mS N' s 1 = mS N s 1 ∧ mS N' s 2 = mS N s 2) ∧ ∀ f k, 0 ≤ f → f < 6 → 0 ≤ k → k < 8 → mF N' f k = mF N f k
theorem cE.rf : cE N N := ⟨⟨rfl, rfl, rfl⟩, fun _ _ _ => rfl, fun _ _ _ => ⟨rfl, rfl, rfl⟩, fun _ _ _ _ _ _ => rfl⟩
theorem cE.tr {N1 N2 : Int → Int} (h : cE N N1) (k : cE N1 N2) : cE N N2 := by
  obtain ⟨⟨a1, a2, a3⟩, a4, a5, a6⟩ := h
  obtain ⟨⟨b1, b2, b3⟩, b4, b5, b6⟩ := k
  exact ⟨⟨b1.trans a1, b2.trans a2, b3.trans a3⟩, fun x p q => (b4 x p q).trans (a4 x p q), fun s p q => ⟨(b5 s p q).1.trans (a5 s p q).1, (b5 s p q).2.1.trans (a5 s p q).2.1, (b5 s p q).2.2.trans (a5 s p q).2.2⟩, fun f k p q x y => (b6 f k p q x y).trans (a6 f k p q x y)⟩
theorem cE.sy {N1 : Int → Int} (h : cE N N1) : cE N1 N := by
  obtain ⟨⟨a1, a2, a3⟩, a4, a5, a6⟩ := h
  exact ⟨⟨a1.symm, a2.symm, a3.symm⟩, fun x p q => (a4 x p q).symm, fun s p q => ⟨(a5 s p q).1.symm, (a5 s p q).2.1.symm, (a5 s p q).2.2.symm⟩, fun f k p q x y => (a6 f k p q x y).symm⟩
theorem cE.nS {N' : Int → Int} (h : cE N N') : nS N' = nS N := congrArg Int.toNat h.1.2.1
theorem cE.nH {N' : Int → Int} (h : cE N N') : nH N' = nH N := congrArg Int.toNat h.1.1
theorem cE.nF {N' : Int → Int} (h : cE N N') : nF N' = nF N := congrArg Int.toNat h.1.2.2
theorem cRc_cE {N' : Int → Int} {b : Nat} (hV : mV N) (h : cE N N') (k : cRc N σ B b) : cRc N' σ B b := by
  have e := h.nS
  have hn := hV.n
  have hs := nS_eq hV
  obtain ⟨⟨a1, a2, a3⟩, a4, a5, a6⟩ := h
  obtain ⟨⟨k1, k2, k3⟩, k4, k5, k6⟩ := k
  refine ⟨⟨by rw [a1]; exact k1, by rw [a2]; exact k2, by rw [a3]; exact k3⟩, fun h h0 h1 => ?_, fun s s0 s1 => ?_, fun f f0 f1 => ?_⟩
  · rw [a1] at h1
    obtain ⟨x, y⟩ := k4 h h0 h1
    refine ⟨by rw [a4 h h0 (by omega)]; exact x, ?_⟩
    rw [y, e]
    exact zsum_congr fun s hs2 => by rw [(a5 s (by omega) (by omega)).1]
  · rw [a2] at s1
    obtain ⟨x, y, z⟩ := k5 s s0 s1
    have q := a5 s s0 (by omega)
    exact ⟨by rw [q.1]; exact x, by rw [q.2.1]; exact y, by rw [q.2.2]; exact z⟩
  · rw [a3] at f1
    obtain ⟨x0, x1, x2, x3, x4⟩ := k6 f f0 f1
    have q := a6 f
    have qf := hV.f f f0 (by omega)
    rw [q 0 f0 (by omega) (by omega) (by omega), q 1 f0 (by omega) (by omega) (by omega), q 2 f0 (by omega) (by omega) (by omega), q 3 f0 (by omega) (by omega) (by omega)]
    refine ⟨x0, x1, x2, x3, fun k h0 h1 => ?_⟩
    rw [q (4 + k) f0 (by omega) (by omega) (by omega)]
    exact x4 k h0 h1
/-- the visitors are the same where chain, bookings and demands are -/
theorem gv_congr {N' : Int → Int} (hV : mV N) (h : cE N N') (hb : ∀ s k, 0 ≤ s → s < 10 → 4 ≤ k → k < 7 → mS N' s k = mS N s k) (hd : ∀ f, 0 ≤ f → f < N 2 → mDem N' f = mDem N f) (s day : Int) (s0 : 0 ≤ s) (s1 : s < 10) : gv N' s day = gv N s day := by
  have e := h.nS
  have hs := nS_eq hV
  have hn := hV.n
  obtain ⟨⟨a1, a2, a3⟩, a4, a5, a6⟩ := h
  have hsh : ∀ t, 0 ≤ t → t < 10 → mSh N' t day = mSh N t day := fun t t0 t1 => by
    unfold mSh
    rw [hb t 5 t0 t1 (by omega) (by omega), hb t 6 t0 t1 (by omega) (by omega), hb t 4 t0 t1 (by omega) (by omega)]
  have hc : ∀ t, 0 ≤ t → t < 10 → mCap N' t = mCap N t := fun t t0 t1 => by
    unfold mCap
    rw [(a5 t t0 t1).2.1, (a5 t t0 t1).2.2]
  have hg : gvS N' s day (nS N') = gvS N s day (nS N) := by
    rw [e]
    refine zsum_congr fun o ho => ?_
    rw [(a5 o (by omega) (by omega)).1, (a5 s s0 s1).1, hc o (by omega) (by omega), hc s s0 s1, hsh o (by omega) (by omega), hsh s s0 s1]
  unfold gv
  rw [hg, hsh s s0 s1, a2, a3, hc s s0 s1]
  by_cases c : 0 ≤ s ∧ s < N 1 ∧ 0 ≤ mSh N s day ∧ mSh N s day < N 2
  · rw [if_pos c, if_pos c, hd _ c.2.2.1 c.2.2.2]
  · rw [if_neg c, if_neg c]
theorem zu_X1_capacityOf {a : Int} (hB : cM σ B) (hR : cR0 N σ B) (hV : mV N) (s0 : 0 ≤ a) (s1 : a < N 1) : zP1 G mX1_capacityOf d [zR (B 100), zI a] σ (mCap N a) := by
  refine zE_of rfl (by simp [zcat]) (Nat.le_of_ble_eq_true rfl) ?_
  show zF G mX1_capacityOf d 0 [(0, zR (B 100)), (1, zI a)] [] σ _
  have hb := hV.b
  have hn := hV.n
  refine zF_aload_n 1 dX1_capacityOf_0 rfl rfl ?_
  refine zF_getR 4 dX1_capacityOf_1 rfl gX1_21 hB.ch.1 hB.ch.2.1 (cB_105 hB).1 ?_
  refine zF_iload_n 5 dX1_capacityOf_4 rfl rfl ?_
  refine zF_iaload 6 dX1_capacityOf_5 rfl (cB_105 hB).2.2 (cB_105 hB).2.1 (by omega) (by omega) (hR.c.2.2.1 _ (by omega) (by omega)).2.1 ?_
  refine zF_aload_n 7 dX1_capacityOf_6 rfl rfl ?_
  refine zF_getR 10 dX1_capacityOf_7 rfl gX1_24 hB.ch.1 hB.ch.2.1 (cB_106 hB).1 ?_
  refine zF_iload_n 11 dX1_capacityOf_10 rfl rfl ?_
  refine zF_iaload 12 dX1_capacityOf_11 rfl (cB_106 hB).2.2 (cB_106 hB).2.1 (by omega) (by omega) (hR.c.2.2.1 _ (by omega) (by omega)).2.2 ?_
  refine zF_imul 13 dX1_capacityOf_12 rfl ?_
  exact zF_iretP dX1_capacityOf_13 rfl (rfl)
theorem zu_X8_filmOn {a b : Int} (hB : cM σ B) (hR : cR0 N σ B) (hV : mV N) (hX : mX N) (s0 : 0 ≤ a) (s1 : a < N 1) (h2 : zrg b) : zP1 G mX8_filmOn d [zR (B 200), zI a, zI b] σ (mSh N a b) := by
  refine zE_of rfl (by simp [zcat]) (Nat.le_of_ble_eq_true rfl) ?_
  show zF G mX8_filmOn d 0 [(0, zR (B 200)), (1, zI a), (2, zI b)] [] σ _
  have hb := hV.b
  have hn := hV.n
  have hs := hV.s a s0 (by omega)
  have hx := (hX a s0 s1).1
  refine zF_aload_n 1 dX8_filmOn_0 rfl rfl ?_
  refine zF_getR 4 dX8_filmOn_1 rfl gX8_27 hB.st.1 hB.st.2.1 (cB_208 hB).1 ?_
  refine zF_iload_n 5 dX8_filmOn_4 rfl rfl ?_
  refine zF_iaload 6 dX8_filmOn_5 rfl (cB_208 hB).2.2 (cB_208 hB).2.1 (by omega) (by omega) (hR.s.2.2.1 _ (by omega) (by omega)).2.2.2.1 ?_
  refine zF_istore_n 7 (ls' := [(3, zI (mS N a 6)), (0, zR (B 200)), (1, zI a), (2, zI b)]) dX8_filmOn_6 rfl (by decide) rfl ?_
  refine zF_iload_n 8 dX8_filmOn_7 rfl rfl ?_
  refine zF_if_eq 16 11 dX8_filmOn_8 rfl rfl (by first | decide | assumption | exact hb _ | exact mSh_rg hb _ _ | exact zb_rg _ | (constructor <;> omega)) (fun c1 => ?_) (fun c1 => ?_)
  · refine zF_aload_n 17 dX8_filmOn_16 rfl rfl ?_
    refine zF_getR 20 dX8_filmOn_17 rfl gX8_21 hB.st.1 hB.st.2.1 (cB_206 hB).1 ?_
    refine zF_iload_n 21 dX8_filmOn_20 rfl rfl ?_
    refine zF_iaload 22 dX8_filmOn_21 rfl (cB_206 hB).2.2 (cB_206 hB).2.1 (by omega) (by omega) (hR.s.2.2.1 _ (by omega) (by omega)).2.1 ?_
    refine zF_goto 31 dX8_filmOn_22 rfl ?_
    exact zF_iretP dX8_filmOn_31 rfl (by first | exact (if_pos (by omega)).symm | exact (if_neg (by omega)).symm)
  · refine zF_iload_n 12 dX8_filmOn_11 rfl rfl ?_
    refine zF_iload_n 13 dX8_filmOn_12 rfl rfl ?_
    refine zF_icmp_ge 25 16 dX8_filmOn_13 rfl rfl (by first | decide | assumption | exact hb _ | exact mSh_rg hb _ _ | exact zb_rg _ | (constructor <;> omega)) (by first | decide | assumption | exact hb _ | exact mSh_rg hb _ _ | exact zb_rg _ | (constructor <;> omega)) (fun c2 => ?_) (fun c2 => ?_)
    · refine zF_aload_n 26 dX8_filmOn_25 rfl rfl ?_
      refine zF_getR 29 dX8_filmOn_26 rfl gX8_24 hB.st.1 hB.st.2.1 (cB_207 hB).1 ?_
      refine zF_iload_n 30 dX8_filmOn_29 rfl rfl ?_
      refine zF_iaload 31 dX8_filmOn_30 rfl (cB_207 hB).2.2 (cB_207 hB).2.1 (by omega) (by omega) (hR.s.2.2.1 _ (by omega) (by omega)).2.2.1 ?_
      exact zF_iretP dX8_filmOn_31 rfl (by first | exact (if_pos (by omega)).symm | exact (if_neg (by omega)).symm)
    · refine zF_aload_n 17 dX8_filmOn_16 rfl rfl ?_
      refine zF_getR 20 dX8_filmOn_17 rfl gX8_21 hB.st.1 hB.st.2.1 (cB_206 hB).1 ?_
      refine zF_iload_n 21 dX8_filmOn_20 rfl rfl ?_
      refine zF_iaload 22 dX8_filmOn_21 rfl (cB_206 hB).2.2 (cB_206 hB).2.1 (by omega) (by omega) (hR.s.2.2.1 _ (by omega) (by omega)).2.1 ?_
      refine zF_goto 31 dX8_filmOn_22 rfl ?_
      exact zF_iretP dX8_filmOn_31 rfl (by first | exact (if_pos (by omega)).symm | exact (if_neg (by omega)).symm)
theorem zu_X10_isServedBefore {a b : Int} (hB : cM σ B) (hR : cR0 N σ B) (hV : mV N) (s0 : 0 ≤ a) (s1 : a < N 1) (t0 : 0 ≤ b) (t1 : b < N 1) : zP1 G mX10_isServedBefore (d + 1) [zR (B 300), zI a, zI b] σ (zb (a ≠ b ∧ mS N a 0 = mS N b 0 ∧ (mCap N b < mCap N a ∨ (mCap N a = mCap N b ∧ a < b)))) := by
  refine zE_of rfl (by simp [zcat]) (Nat.le_of_ble_eq_true rfl) ?_
  show zF G mX10_isServedBefore (d + 1) 0 [(0, zR (B 300)), (1, zI a), (2, zI b)] [] σ _
  have hb := hV.b
  have hn := hV.n
  have qa := mCap_b hV s0 (by omega)
  have qb := mCap_b hV t0 (by omega)
  refine zF_iload_n 1 dX10_isServedBefore_0 rfl rfl ?_
  refine zF_iload_n 2 dX10_isServedBefore_1 rfl rfl ?_
  refine zF_icmp_eq 26 5 dX10_isServedBefore_2 rfl rfl (by first | decide | assumption | exact hb _ | exact mSh_rg hb _ _ | exact zb_rg _ | (constructor <;> omega)) (by first | decide | assumption | exact hb _ | exact mSh_rg hb _ _ | exact zb_rg _ | (constructor <;> omega)) (fun c1 => ?_) (fun c1 => ?_)
  · refine zF_iconst 27 dX10_isServedBefore_26 rfl ?_
    exact zF_zretP dX10_isServedBefore_27 rfl (by decide) (by first | rfl | exact zbT (by omega) | exact zbF (by omega) | omega)
  · refine zF_aload_n 6 dX10_isServedBefore_5 rfl rfl ?_
    refine zF_getR 9 dX10_isServedBefore_6 rfl gX10_18 hB.wk.1 hB.wk.2.1 hB.wk.2.2.1 ?_
    refine zF_getR 12 dX10_isServedBefore_9 rfl gX10_64 hB.ch.1 hB.ch.2.1 (cB_104 hB).1 ?_
    refine zF_iload_n 13 dX10_isServedBefore_12 rfl rfl ?_
    refine zF_iaload 14 dX10_isServedBefore_13 rfl (cB_104 hB).2.2 (cB_104 hB).2.1 (by omega) (by omega) (hR.c.2.2.1 _ (by omega) (by omega)).1 ?_
    refine zF_aload_n 15 dX10_isServedBefore_14 rfl rfl ?_
    refine zF_getR 18 dX10_isServedBefore_15 rfl gX10_18 hB.wk.1 hB.wk.2.1 hB.wk.2.2.1 ?_
    refine zF_getR 21 dX10_isServedBefore_18 rfl gX10_64 hB.ch.1 hB.ch.2.1 (cB_104 hB).1 ?_
    refine zF_iload_n 22 dX10_isServedBefore_21 rfl rfl ?_
    refine zF_iaload 23 dX10_isServedBefore_22 rfl (cB_104 hB).2.2 (cB_104 hB).2.1 (by omega) (by omega) (hR.c.2.2.1 _ (by omega) (by omega)).1 ?_
    refine zF_icmp_eq 28 26 dX10_isServedBefore_23 rfl rfl (by first | decide | assumption | exact hb _ | exact mSh_rg hb _ _ | exact zb_rg _ | (constructor <;> omega)) (by first | decide | assumption | exact hb _ | exact mSh_rg hb _ _ | exact zb_rg _ | (constructor <;> omega)) (fun c2 => ?_) (fun c2 => ?_)
    · refine zF_aload_n 29 dX10_isServedBefore_28 rfl rfl ?_
      refine zF_getR 32 dX10_isServedBefore_29 rfl gX10_18 hB.wk.1 hB.wk.2.1 hB.wk.2.2.1 ?_
      refine zF_iload_n 33 dX10_isServedBefore_32 rfl rfl ?_
      refine zF_callVi 36 (d2 := d) (as := [zI a]) dX10_isServedBefore_33 rfl kX10_52 iX1_capacityOf (ci := 1) rfl eX1_capacityOf (Nat.le_refl _) hB.ch.1 hB.ch.2.1 rfl rfl (Nat.le_of_ble_eq_true rfl) (zu_X1_capacityOf hB hR hV (by omega) (by omega)) ?_
      refine zF_aload_n 37 dX10_isServedBefore_36 rfl rfl ?_
      refine zF_getR 40 dX10_isServedBefore_37 rfl gX10_18 hB.wk.1 hB.wk.2.1 hB.wk.2.2.1 ?_
      refine zF_iload_n 41 dX10_isServedBefore_40 rfl rfl ?_
      refine zF_callVi 44 (d2 := d) (as := [zI b]) dX10_isServedBefore_41 rfl kX10_52 iX1_capacityOf (ci := 1) rfl eX1_capacityOf (Nat.le_refl _) hB.ch.1 hB.ch.2.1 rfl rfl (Nat.le_of_ble_eq_true rfl) (zu_X1_capacityOf hB hR hV (by omega) (by omega)) ?_
      refine zF_isub 45 dX10_isServedBefore_44 rfl ?_
      refine zF_istore_n 46 (ls' := [(3, zI ((mCap N a) - (mCap N b))), (0, zR (B 300)), (1, zI a), (2, zI b)]) dX10_isServedBefore_45 rfl (by decide) rfl ?_
      refine zF_iload_n 47 dX10_isServedBefore_46 rfl rfl ?_
      refine zF_if_gt 59 50 dX10_isServedBefore_47 rfl rfl (by first | decide | assumption | exact hb _ | exact mSh_rg hb _ _ | exact zb_rg _ | (constructor <;> omega)) (fun c3 => ?_) (fun c3 => ?_)
      · refine zF_iconst 60 dX10_isServedBefore_59 rfl ?_
        refine zF_goto 64 dX10_isServedBefore_60 rfl ?_
        exact zF_zretP dX10_isServedBefore_64 rfl (by decide) (by first | rfl | exact zbT (by omega) | exact zbF (by omega) | omega)
      · refine zF_iload_n 51 dX10_isServedBefore_50 rfl rfl ?_
        refine zF_if_ne 63 54 dX10_isServedBefore_51 rfl rfl (by first | decide | assumption | exact hb _ | exact mSh_rg hb _ _ | exact zb_rg _ | (constructor <;> omega)) (fun c4 => ?_) (fun c4 => ?_)
        · refine zF_iconst 64 dX10_isServedBefore_63 rfl ?_
          exact zF_zretP dX10_isServedBefore_64 rfl (by decide) (by first | rfl | exact zbT (by omega) | exact zbF (by omega) | omega)
        · refine zF_iload_n 55 dX10_isServedBefore_54 rfl rfl ?_
          refine zF_iload_n 56 dX10_isServedBefore_55 rfl rfl ?_
          refine zF_icmp_ge 63 59 dX10_isServedBefore_56 rfl rfl (by first | decide | assumption | exact hb _ | exact mSh_rg hb _ _ | exact zb_rg _ | (constructor <;> omega)) (by first | decide | assumption | exact hb _ | exact mSh_rg hb _ _ | exact zb_rg _ | (constructor <;> omega)) (fun c5 => ?_) (fun c5 => ?_)
          · refine zF_iconst 64 dX10_isServedBefore_63 rfl ?_
            exact zF_zretP dX10_isServedBefore_64 rfl (by decide) (by first | rfl | exact zbT (by omega) | exact zbF (by omega) | omega)
          · refine zF_iconst 60 dX10_isServedBefore_59 rfl ?_
            refine zF_goto 64 dX10_isServedBefore_60 rfl ?_
            exact zF_zretP dX10_isServedBefore_64 rfl (by decide) (by first | rfl | exact zbT (by omega) | exact zbF (by omega) | omega)
    · refine zF_iconst 27 dX10_isServedBefore_26 rfl ?_
      exact zF_zretP dX10_isServedBefore_27 rfl (by decide) (by first | rfl | exact zbT (by omega) | exact zbF (by omega) | omega)
theorem zu_X10_expectedVisitors {a f b : Int} (hB : cM σ B) (hR : cR0 N σ B) (hV : mV N) (hX : mX N) (s0 : 0 ≤ a) (s1 : a < N 1) (f0 : 0 ≤ f) (f1 : f < N 2) (h2 : zrg b) : zP1 G mX10_expectedVisitors (d + 2) [zR (B 300), zI a, zI f, zI b] σ (eV N a f b) := by
  refine zE_of rfl (by simp [zcat]) (Nat.le_of_ble_eq_true rfl) ?_
  show zF G mX10_expectedVisitors (d + 2) 0 [(0, zR (B 300)), (1, zI a), (2, zI f), (3, zI b)] [] σ _
  have hb := hV.b
  have hn := hV.n
  have hs := nS_eq hV
  have qa := mCap_b hV s0 (by omega)
  have qd := mDem_b hV f0 (by omega) (mAge N f).toNat
  have qd2 : mDem N f = mDemN N f (mAge N f).toNat := rfl
  refine zF_aload_n 1 dX10_expectedVisitors_0 rfl rfl ?_
  refine zF_getR 4 dX10_expectedVisitors_1 rfl gX10_22 hB.wk.1 hB.wk.2.1 hB.wk.2.2.2.1 ?_
  refine zF_getR 7 dX10_expectedVisitors_4 rfl gX10_45 hB.st.1 hB.st.2.1 (cB_211 hB).1 ?_
  refine zF_iload_n 8 dX10_expectedVisitors_7 rfl rfl ?_
  refine zF_iaload 9 dX10_expectedVisitors_8 rfl (cB_211 hB).2.2 (cB_211 hB).2.1 (by omega) (by omega) (hR.s.2.2.2.1 _ (by omega) (by omega)).2.1 ?_
  refine zF_istore 11 (ls' := [(4, zI (mDem N f)), (0, zR (B 300)), (1, zI a), (2, zI f), (3, zI b)]) dX10_expectedVisitors_9 rfl (by decide) rfl ?_
  refine zF_iconst 12 dX10_expectedVisitors_11 rfl ?_
  refine zF_istore 14 (ls' := [(5, zI 0), (4, zI (mDem N f)), (0, zR (B 300)), (1, zI a), (2, zI f), (3, zI b)]) dX10_expectedVisitors_12 rfl (by decide) rfl ?_
  refine zF_locs (ls' := (fun (i : Nat) => [(5, zI (i : Int)), (4, zI (mDem N f - eVN N a f b i)), (0, zR (B 300)), (1, zI a), (2, zI f), (3, zI b)]) 0) ⟨zlI rfl (by first | rfl | omega | (push_cast; omega) | exact congrArg (_ + ·) (zbT (by assumption)) | exact congrArg (_ + ·) (zbF (by assumption)) | exact congrArg (_ + ·) (zbT (by omega)) | exact congrArg (_ + ·) (zbF (by omega)) | exact congrArg (_ + ·) (if_pos (by omega)).symm | exact congrArg (_ + ·) (if_neg (by omega)).symm | exact (if_pos (by omega)).symm | exact (if_neg (by omega)).symm | exact zsub_s (if_pos (by omega)).symm | exact zsub_s0 (if_neg (by omega)).symm | exact zadd0 (if_neg (by omega)).symm | exact zadd0 (zbF (by omega)) | exact (Int.sub_zero _).symm), zlI rfl (by first | rfl | omega | (push_cast; omega) | exact congrArg (_ + ·) (zbT (by assumption)) | exact congrArg (_ + ·) (zbF (by assumption)) | exact congrArg (_ + ·) (zbT (by omega)) | exact congrArg (_ + ·) (zbF (by omega)) | exact congrArg (_ + ·) (if_pos (by omega)).symm | exact congrArg (_ + ·) (if_neg (by omega)).symm | exact (if_pos (by omega)).symm | exact (if_neg (by omega)).symm | exact zsub_s (if_pos (by omega)).symm | exact zsub_s0 (if_neg (by omega)).symm | exact zadd0 (if_neg (by omega)).symm | exact zadd0 (zbF (by omega)) | exact (Int.sub_zero _).symm), rfl, rfl, rfl, rfl, trivial⟩ ?_
  refine zF_loop (n := (nS N)) (fun (i : Nat) => [(5, zI (i : Int)), (4, zI (mDem N f - eVN N a f b i)), (0, zR (B 300)), (1, zI a), (2, zI f), (3, zI b)]) (fun _ => σ) (fun i hi ih14 => ?_) ?_
  · show zF G mX10_expectedVisitors (d + 2) 14 [(5, zI (i : Int)), (4, zI (mDem N f - eVN N a f b i)), (0, zR (B 300)), (1, zI a), (2, zI f), (3, zI b)] [] σ _
    refine zF_iload 16 dX10_expectedVisitors_14 rfl rfl ?_
    refine zF_aload_n 17 dX10_expectedVisitors_16 rfl rfl ?_
    refine zF_getR 20 dX10_expectedVisitors_17 rfl gX10_18 hB.wk.1 hB.wk.2.1 hB.wk.2.2.1 ?_
    refine zF_getI 23 dX10_expectedVisitors_20 rfl gX10_26 (by decide) (by decide) hB.ch.1 hB.ch.2.1 hR.c.1.2.1 ?_
    refine zF_icmp_ge 70 26 dX10_expectedVisitors_23 rfl rfl (by first | decide | assumption | exact hb _ | exact mSh_rg hb _ _ | exact zb_rg _ | (constructor <;> omega)) (by first | decide | assumption | exact hb _ | exact mSh_rg hb _ _ | exact zb_rg _ | (constructor <;> omega)) (fun c1 => ?_) (fun c1 => ?_)
    · exact absurd c1 (by omega)
    · refine zF_aload_n 27 dX10_expectedVisitors_26 rfl rfl ?_
      refine zF_iload 29 dX10_expectedVisitors_27 rfl rfl ?_
      refine zF_iload_n 30 dX10_expectedVisitors_29 rfl rfl ?_
      refine zF_callVi 33 (d2 := (d + 1)) (as := [zI (i : Int), zI a]) dX10_expectedVisitors_30 rfl kX10_48 iX10_isServedBefore (ci := 10) rfl eX10_isServedBefore (Nat.le_refl _) hB.wk.1 hB.wk.2.1 rfl rfl (Nat.le_of_ble_eq_true rfl) (zu_X10_isServedBefore hB hR hV (by omega) (by omega) (by omega) (by omega)) ?_
      refine zF_ifb_eq 64 36 dX10_expectedVisitors_33 rfl rfl (fun c2 => ?_) (fun c2 => ?_)
      · refine zF_iinc 67 (ls' := [(5, zI ((i : Int) + 1)), (4, zI (mDem N f - eVN N a f b i)), (0, zR (B 300)), (1, zI a), (2, zI f), (3, zI b)]) dX10_expectedVisitors_64 rfl rfl rfl (by decide) rfl ?_
        refine zF_goto 14 dX10_expectedVisitors_67 rfl ?_
        exact zF_locs (ls' := [(5, zI ((i + 1 : Nat) : Int)), (4, zI (mDem N f - eVN N a f b (i + 1))), (0, zR (B 300)), (1, zI a), (2, zI f), (3, zI b)]) ⟨zlI rfl (by first | rfl | omega | (push_cast; omega) | exact congrArg (_ + ·) (zbT (by assumption)) | exact congrArg (_ + ·) (zbF (by assumption)) | exact congrArg (_ + ·) (zbT (by omega)) | exact congrArg (_ + ·) (zbF (by omega)) | exact congrArg (_ + ·) (if_pos (by omega)).symm | exact congrArg (_ + ·) (if_neg (by omega)).symm | exact (if_pos (by omega)).symm | exact (if_neg (by omega)).symm | exact zsub_s (if_pos (by omega)).symm | exact zsub_s0 (if_neg (by omega)).symm | exact zadd0 (if_neg (by omega)).symm | exact zadd0 (zbF (by omega)) | exact (Int.sub_zero _).symm), zlI rfl (by first | rfl | omega | (push_cast; omega) | exact congrArg (_ + ·) (zbT (by assumption)) | exact congrArg (_ + ·) (zbF (by assumption)) | exact congrArg (_ + ·) (zbT (by omega)) | exact congrArg (_ + ·) (zbF (by omega)) | exact congrArg (_ + ·) (if_pos (by omega)).symm | exact congrArg (_ + ·) (if_neg (by omega)).symm | exact (if_pos (by omega)).symm | exact (if_neg (by omega)).symm | exact zsub_s (if_pos (by omega)).symm | exact zsub_s0 (if_neg (by omega)).symm | exact zadd0 (if_neg (by omega)).symm | exact zadd0 (zbF (by omega)) | exact (Int.sub_zero _).symm), rfl, rfl, rfl, rfl, trivial⟩ ih14
      · refine zF_aload_n 37 dX10_expectedVisitors_36 rfl rfl ?_
        refine zF_getR 40 dX10_expectedVisitors_37 rfl gX10_22 hB.wk.1 hB.wk.2.1 hB.wk.2.2.2.1 ?_
        refine zF_iload 42 dX10_expectedVisitors_40 rfl rfl ?_
        refine zF_iload_n 43 dX10_expectedVisitors_42 rfl rfl ?_
        refine zF_callVi 46 (d2 := (d + 1)) (as := [zI (i : Int), zI b]) dX10_expectedVisitors_43 rfl kX10_32 iX8_filmOn (ci := 8) rfl eX8_filmOn (Nat.le_refl _) hB.st.1 hB.st.2.1 rfl rfl (Nat.le_of_ble_eq_true rfl) (zu_X8_filmOn hB hR hV hX (by omega) (by omega) (by first | decide | assumption | exact hb _ | exact mSh_rg hb _ _ | exact zb_rg _ | (constructor <;> omega))) ?_
        refine zF_iload_n 47 dX10_expectedVisitors_46 rfl rfl ?_
        refine zF_icmp_ne 64 50 dX10_expectedVisitors_47 rfl rfl (by first | decide | assumption | exact hb _ | exact mSh_rg hb _ _ | exact zb_rg _ | (constructor <;> omega)) (by first | decide | assumption | exact hb _ | exact mSh_rg hb _ _ | exact zb_rg _ | (constructor <;> omega)) (fun c3 => ?_) (fun c3 => ?_)
        · refine zF_iinc 67 (ls' := [(5, zI ((i : Int) + 1)), (4, zI (mDem N f - eVN N a f b i)), (0, zR (B 300)), (1, zI a), (2, zI f), (3, zI b)]) dX10_expectedVisitors_64 rfl rfl rfl (by decide) rfl ?_
          refine zF_goto 14 dX10_expectedVisitors_67 rfl ?_
          exact zF_locs (ls' := [(5, zI ((i + 1 : Nat) : Int)), (4, zI (mDem N f - eVN N a f b (i + 1))), (0, zR (B 300)), (1, zI a), (2, zI f), (3, zI b)]) ⟨zlI rfl (by first | rfl | omega | (push_cast; omega) | exact congrArg (_ + ·) (zbT (by assumption)) | exact congrArg (_ + ·) (zbF (by assumption)) | exact congrArg (_ + ·) (zbT (by omega)) | exact congrArg (_ + ·) (zbF (by omega)) | exact congrArg (_ + ·) (if_pos (by omega)).symm | exact congrArg (_ + ·) (if_neg (by omega)).symm | exact (if_pos (by omega)).symm | exact (if_neg (by omega)).symm | exact zsub_s (if_pos (by omega)).symm | exact zsub_s0 (if_neg (by omega)).symm | exact zadd0 (if_neg (by omega)).symm | exact zadd0 (zbF (by omega)) | exact (Int.sub_zero _).symm), zlI rfl (by first | rfl | omega | (push_cast; omega) | exact congrArg (_ + ·) (zbT (by assumption)) | exact congrArg (_ + ·) (zbF (by assumption)) | exact congrArg (_ + ·) (zbT (by omega)) | exact congrArg (_ + ·) (zbF (by omega)) | exact congrArg (_ + ·) (if_pos (by omega)).symm | exact congrArg (_ + ·) (if_neg (by omega)).symm | exact (if_pos (by omega)).symm | exact (if_neg (by omega)).symm | exact zsub_s (if_pos (by omega)).symm | exact zsub_s0 (if_neg (by omega)).symm | exact zadd0 (if_neg (by omega)).symm | exact zadd0 (zbF (by omega)) | exact (Int.sub_zero _).symm), rfl, rfl, rfl, rfl, trivial⟩ ih14
        · refine zF_iload 52 dX10_expectedVisitors_50 rfl rfl ?_
          refine zF_aload_n 53 dX10_expectedVisitors_52 rfl rfl ?_
          refine zF_getR 56 dX10_expectedVisitors_53 rfl gX10_18 hB.wk.1 hB.wk.2.1 hB.wk.2.2.1 ?_
          refine zF_iload 58 dX10_expectedVisitors_56 rfl rfl ?_
          refine zF_callVi 61 (d2 := (d + 1)) (as := [zI (i : Int)]) dX10_expectedVisitors_58 rfl kX10_52 iX1_capacityOf (ci := 1) rfl eX1_capacityOf (Nat.le_refl _) hB.ch.1 hB.ch.2.1 rfl rfl (Nat.le_of_ble_eq_true rfl) (zu_X1_capacityOf hB hR hV (by omega) (by omega)) ?_
          refine zF_isub 62 dX10_expectedVisitors_61 rfl ?_
          refine zF_istore 64 (ls' := [(4, zI ((mDem N f - eVN N a f b i) - (mCap N (i : Int)))), (5, zI (i : Int)), (0, zR (B 300)), (1, zI a), (2, zI f), (3, zI b)]) dX10_expectedVisitors_62 rfl (by decide) rfl ?_
          refine zF_iinc 67 (ls' := [(5, zI ((i : Int) + 1)), (4, zI ((mDem N f - eVN N a f b i) - (mCap N (i : Int)))), (0, zR (B 300)), (1, zI a), (2, zI f), (3, zI b)]) dX10_expectedVisitors_64 rfl rfl rfl (by decide) rfl ?_
          refine zF_goto 14 dX10_expectedVisitors_67 rfl ?_
          exact zF_locs (ls' := [(5, zI ((i + 1 : Nat) : Int)), (4, zI (mDem N f - eVN N a f b (i + 1))), (0, zR (B 300)), (1, zI a), (2, zI f), (3, zI b)]) ⟨zlI rfl (by first | rfl | omega | (push_cast; omega) | exact congrArg (_ + ·) (zbT (by assumption)) | exact congrArg (_ + ·) (zbF (by assumption)) | exact congrArg (_ + ·) (zbT (by omega)) | exact congrArg (_ + ·) (zbF (by omega)) | exact congrArg (_ + ·) (if_pos (by omega)).symm | exact congrArg (_ + ·) (if_neg (by omega)).symm | exact (if_pos (by omega)).symm | exact (if_neg (by omega)).symm | exact zsub_s (if_pos (by omega)).symm | exact zsub_s0 (if_neg (by omega)).symm | exact zadd0 (if_neg (by omega)).symm | exact zadd0 (zbF (by omega)) | exact (Int.sub_zero _).symm), zlI rfl (by first | rfl | omega | (push_cast; omega) | exact congrArg (_ + ·) (zbT (by assumption)) | exact congrArg (_ + ·) (zbF (by assumption)) | exact congrArg (_ + ·) (zbT (by omega)) | exact congrArg (_ + ·) (zbF (by omega)) | exact congrArg (_ + ·) (if_pos (by omega)).symm | exact congrArg (_ + ·) (if_neg (by omega)).symm | exact (if_pos (by omega)).symm | exact (if_neg (by omega)).symm | exact zsub_s (if_pos (by omega)).symm | exact zsub_s0 (if_neg (by omega)).symm | exact zadd0 (if_neg (by omega)).symm | exact zadd0 (zbF (by omega)) | exact (Int.sub_zero _).symm), rfl, rfl, rfl, rfl, trivial⟩ ih14
  · show zF G mX10_expectedVisitors (d + 2) 14 [(5, zI (((nS N) : Nat) : Int)), (4, zI (mDem N f - eVN N a f b (nS N))), (0, zR (B 300)), (1, zI a), (2, zI f), (3, zI b)] [] σ _
    have qe := eVN_b hV a f b (nS N) (by omega)
    refine zF_iload 16 dX10_expectedVisitors_14 rfl rfl ?_
    refine zF_aload_n 17 dX10_expectedVisitors_16 rfl rfl ?_
    refine zF_getR 20 dX10_expectedVisitors_17 rfl gX10_18 hB.wk.1 hB.wk.2.1 hB.wk.2.2.1 ?_
    refine zF_getI 23 dX10_expectedVisitors_20 rfl gX10_26 (by decide) (by decide) hB.ch.1 hB.ch.2.1 hR.c.1.2.1 ?_
    refine zF_icmp_ge 70 26 dX10_expectedVisitors_23 rfl rfl (by first | decide | assumption | exact hb _ | exact mSh_rg hb _ _ | exact zb_rg _ | (constructor <;> omega)) (by first | decide | assumption | exact hb _ | exact mSh_rg hb _ _ | exact zb_rg _ | (constructor <;> omega)) (fun c4 => ?_) (fun c4 => ?_)
    · refine zF_iconst 71 dX10_expectedVisitors_70 rfl ?_
      refine zF_iload 73 dX10_expectedVisitors_71 rfl rfl ?_
      refine zF_aload_n 74 dX10_expectedVisitors_73 rfl rfl ?_
      refine zF_getR 77 dX10_expectedVisitors_74 rfl gX10_18 hB.wk.1 hB.wk.2.1 hB.wk.2.2.1 ?_
      refine zF_iload_n 78 dX10_expectedVisitors_77 rfl rfl ?_
      refine zF_callVi 81 (d2 := (d + 1)) (as := [zI a]) dX10_expectedVisitors_78 rfl kX10_52 iX1_capacityOf (ci := 1) rfl eX1_capacityOf (Nat.le_refl _) hB.ch.1 hB.ch.2.1 rfl rfl (Nat.le_of_ble_eq_true rfl) (zu_X1_capacityOf hB hR hV (by omega) (by omega)) ?_
      refine zF_min 84 dX10_expectedVisitors_81 rfl kX10_56 (Nat.le_refl _) (by first | decide | assumption | exact hb _ | exact mSh_rg hb _ _ | exact zb_rg _ | (constructor <;> omega)) (by first | decide | assumption | exact hb _ | exact mSh_rg hb _ _ | exact zb_rg _ | (constructor <;> omega)) (Nat.le_of_ble_eq_true rfl) ?_
      refine zF_max 87 dX10_expectedVisitors_84 rfl kX10_61 (Nat.le_refl _) (by first | decide | assumption | exact hb _ | exact mSh_rg hb _ _ | exact zb_rg _ | (constructor <;> omega)) (by first | decide | assumption | exact hb _ | exact mSh_rg hb _ _ | exact zb_rg _ | (constructor <;> omega)) (Nat.le_of_ble_eq_true rfl) ?_
      exact zF_iretP dX10_expectedVisitors_87 rfl (rfl)
    · exact absurd c4 (by omega)
theorem gv_out {s day : Int} (h : ¬ (0 ≤ mSh N s day ∧ mSh N s day < N 2)) : gv N s day = 0 := if_neg fun q => h q.2.2
theorem rf_step {x y v : Int} (t3 : ∀ s dd : Int, 0 ≤ s → s < N 1 → 0 ≤ dd → dd < 7 → (s < x ∨ (s = x ∧ dd < y)) → zia σ (B 302) (7 * s + dd) = gv N s dd) (y0 : 0 ≤ y) (y1 : y < 7) (e : v = gv N x y) : ∀ s dd : Int, 0 ≤ s → s < N 1 → 0 ≤ dd → dd < 7 → (s < x ∨ (s = x ∧ dd < y + 1)) → zia (zsi σ (B 302) (x * 7 + y) v) (B 302) (7 * s + dd) = gv N s dd := fun s dd a b c f q => by
  rw [zia_si]
  by_cases z : s = x ∧ dd = y
  · rw [if_pos ⟨rfl, by omega⟩, e, z.1, z.2]
  · rw [if_neg (fun w => z (by omega)), t3 s dd a b c f (by omega)]
theorem zt_X10_refresh (hB : cM σ B) (hR : cR0 N σ B) (hV : mV N) (hX : mX N) (hW : mW N) : zE G mX10_refresh (d + 4) [zR (B 300)] σ (fun ro σ1 => ro = .inl none ∧ zFr (zRg 302 303 B) σ σ1 ∧ cR N σ1 B) := by
  refine zE_of rfl (by simp [zcat]) (Nat.le_of_ble_eq_true rfl) ?_
  show zF G mX10_refresh (d + 4) 0 [(0, zR (B 300))] [] σ _
  have hb := hV.b
  have hn := hV.n
  have hs := nS_eq hV
  refine zF_iconst 1 dX10_refresh_0 rfl ?_
  refine zF_istore_n 2 (ls' := [(1, zI 0), (0, zR (B 300))]) dX10_refresh_1 rfl (by decide) rfl ?_
  refine zF_locs (ls' := [(1, zI ((0 : Nat) : Int)), (0, zR (B 300))]) ⟨zlI rfl (by first | rfl | omega | (push_cast; omega) | exact congrArg (_ + ·) (zbT (by assumption)) | exact congrArg (_ + ·) (zbF (by assumption)) | exact congrArg (_ + ·) (zbT (by omega)) | exact congrArg (_ + ·) (zbF (by omega)) | exact congrArg (_ + ·) (if_pos (by omega)).symm | exact congrArg (_ + ·) (if_neg (by omega)).symm | exact (if_pos (by omega)).symm | exact (if_neg (by omega)).symm | exact zsub_s (if_pos (by omega)).symm | exact zsub_s0 (if_neg (by omega)).symm | exact zadd0 (if_neg (by omega)).symm | exact zadd0 (zbF (by omega)) | exact (Int.sub_zero _).symm), rfl, trivial⟩ ?_
  refine zF_while (X := Nat) (fun x => nS N - x) (fun x σ2 => x ≤ nS N ∧ zFr (zRg 302 303 B) σ σ2 ∧ ∀ s dd : Int, 0 ≤ s → s < N 1 → 0 ≤ dd → dd < 7 → (s < (x : Int) ∨ (s = (x : Int) ∧ dd < 0)) → zia σ2 (B 302) (7 * s + dd) = gv N s dd) (fun x => [(1, zI ((x : Nat) : Int)), (0, zR (B 300))]) ?_ 0 σ (⟨by omega, zFr.rf, fun s dd a b c e q => by omega⟩)
  intro sx σ2 hI2 ih2
  show zF G mX10_refresh (d + 4) 2 [(1, zI ((sx : Nat) : Int)), (0, zR (B 300))] [] σ2 _
  obtain ⟨hx, fr2, t2⟩ := hI2
  have hB2 := cM_fr hB fr2
  have hR2 := cR0_rg hB fr2 (by omega) hR
  refine zF_iload_n 3 dX10_refresh_2 rfl rfl ?_
  refine zF_aload_n 4 dX10_refresh_3 rfl rfl ?_
  refine zF_getR 7 dX10_refresh_4 rfl gX10_18 hB2.wk.1 hB2.wk.2.1 hB2.wk.2.2.1 ?_
  refine zF_getI 10 dX10_refresh_7 rfl gX10_26 (by decide) (by decide) hB2.ch.1 hB2.ch.2.1 hR2.c.1.2.1 ?_
  refine zF_icmp_ge 92 13 dX10_refresh_10 rfl rfl (by first | decide | assumption | exact hb _ | exact mSh_rg hb _ _ | exact zb_rg _ | (constructor <;> omega)) (by first | decide | assumption | exact hb _ | exact mSh_rg hb _ _ | exact zb_rg _ | (constructor <;> omega)) (fun c1 => ?_) (fun c1 => ?_)
  · exact zF_return dX10_refresh_92 rfl (⟨rfl, fr2, ⟨cRc_congr (fun k hk => fr2.rg hB.inj (by omega)) hR.1, cRs_congr (fun k hk => fr2.rg hB.inj (by omega)) hR.2, fun s dd a b c e => t2 s dd a b c e (by omega)⟩⟩)
  · refine zF_iconst 14 dX10_refresh_13 rfl ?_
    refine zF_istore_n 15 (ls' := [(2, zI 0), (1, zI ((sx : Nat) : Int)), (0, zR (B 300))]) dX10_refresh_14 rfl (by decide) rfl ?_
    refine zF_locs (ls' := [(2, zI ((0 : Nat) : Int)), (1, zI ((sx : Nat) : Int)), (0, zR (B 300))]) ⟨zlI rfl (by first | rfl | omega | (push_cast; omega) | exact congrArg (_ + ·) (zbT (by assumption)) | exact congrArg (_ + ·) (zbF (by assumption)) | exact congrArg (_ + ·) (zbT (by omega)) | exact congrArg (_ + ·) (zbF (by omega)) | exact congrArg (_ + ·) (if_pos (by omega)).symm | exact congrArg (_ + ·) (if_neg (by omega)).symm | exact (if_pos (by omega)).symm | exact (if_neg (by omega)).symm | exact zsub_s (if_pos (by omega)).symm | exact zsub_s0 (if_neg (by omega)).symm | exact zadd0 (if_neg (by omega)).symm | exact zadd0 (zbF (by omega)) | exact (Int.sub_zero _).symm), rfl, rfl, trivial⟩ ?_
    refine zF_while (X := Nat) (fun x => 7 - x) (fun x σ3 => x ≤ 7 ∧ zFr (zRg 302 303 B) σ σ3 ∧ ∀ s dd : Int, 0 ≤ s → s < N 1 → 0 ≤ dd → dd < 7 → (s < (sx : Int) ∨ (s = (sx : Int) ∧ dd < (x : Int))) → zia σ3 (B 302) (7 * s + dd) = gv N s dd) (fun x => [(2, zI ((x : Nat) : Int)), (1, zI ((sx : Nat) : Int)), (0, zR (B 300))]) ?_ 0 σ2 (⟨by omega, fr2, fun s dd a b c e q => t2 s dd a b c e (by omega)⟩)
    intro sy σ3 hI15 ih15
    show zF G mX10_refresh (d + 4) 15 [(2, zI ((sy : Nat) : Int)), (1, zI ((sx : Nat) : Int)), (0, zR (B 300))] [] σ3 _
    obtain ⟨hy, fr3, t3⟩ := hI15
    have hB2 := cM_fr hB fr3
    have hR2 := cR0_rg hB fr3 (by omega) hR
    have qb := mSh_b hV (s := (sx : Int)) (by omega) (by omega) (sy : Int)
    refine zF_iload_n 16 dX10_refresh_15 rfl rfl ?_
    refine zF_bipush 18 dX10_refresh_16 rfl (by decide) ?_
    refine zF_icmp_ge 86 21 dX10_refresh_18 rfl rfl (by first | decide | assumption | exact hb _ | exact mSh_rg hb _ _ | exact zb_rg _ | (constructor <;> omega)) (by first | decide | assumption | exact hb _ | exact mSh_rg hb _ _ | exact zb_rg _ | (constructor <;> omega)) (fun c2 => ?_) (fun c2 => ?_)
    · refine zF_iinc 89 (ls' := [(1, zI (((sx : Nat) : Int) + 1)), (2, zI ((sy : Nat) : Int)), (0, zR (B 300))]) dX10_refresh_86 rfl rfl rfl (by decide) rfl ?_
      refine zF_goto 2 dX10_refresh_89 rfl ?_
      exact zF_locs (ls' := [(1, zI (((sx + 1) : Nat) : Int)), (0, zR (B 300))]) ⟨zlI rfl (by first | rfl | omega | (push_cast; omega) | exact congrArg (_ + ·) (zbT (by assumption)) | exact congrArg (_ + ·) (zbF (by assumption)) | exact congrArg (_ + ·) (zbT (by omega)) | exact congrArg (_ + ·) (zbF (by omega)) | exact congrArg (_ + ·) (if_pos (by omega)).symm | exact congrArg (_ + ·) (if_neg (by omega)).symm | exact (if_pos (by omega)).symm | exact (if_neg (by omega)).symm | exact zsub_s (if_pos (by omega)).symm | exact zsub_s0 (if_neg (by omega)).symm | exact zadd0 (if_neg (by omega)).symm | exact zadd0 (zbF (by omega)) | exact (Int.sub_zero _).symm), rfl, trivial⟩ (ih2 (sx + 1) _ (by omega) (⟨by omega, fr3, fun s dd a b c e q => t3 s dd a b c e (by omega)⟩))
    · refine zF_aload_n 22 dX10_refresh_21 rfl rfl ?_
      refine zF_getR 25 dX10_refresh_22 rfl gX10_22 hB2.wk.1 hB2.wk.2.1 hB2.wk.2.2.2.1 ?_
      refine zF_iload_n 26 dX10_refresh_25 rfl rfl ?_
      refine zF_iload_n 27 dX10_refresh_26 rfl rfl ?_
      refine zF_callVi 30 (d2 := (d + 3)) (as := [zI ((sx : Nat) : Int), zI ((sy : Nat) : Int)]) dX10_refresh_27 rfl kX10_32 iX8_filmOn (ci := 8) rfl eX8_filmOn (Nat.le_refl _) hB2.st.1 hB2.st.2.1 rfl rfl (Nat.le_of_ble_eq_true rfl) (zu_X8_filmOn hB2 hR2 hV hX (by omega) (by omega) (by first | decide | assumption | exact hb _ | exact mSh_rg hb _ _ | exact zb_rg _ | (constructor <;> omega))) ?_
      refine zF_istore_n 31 (ls' := [(3, zI (mSh N ((sx : Nat) : Int) ((sy : Nat) : Int))), (2, zI ((sy : Nat) : Int)), (1, zI ((sx : Nat) : Int)), (0, zR (B 300))]) dX10_refresh_30 rfl (by decide) rfl ?_
      refine zF_iload_n 32 dX10_refresh_31 rfl rfl ?_
      refine zF_if_lt 50 35 dX10_refresh_32 rfl rfl (by first | decide | assumption | exact hb _ | exact mSh_rg hb _ _ | exact zb_rg _ | (constructor <;> omega)) (fun c3 => ?_) (fun c3 => ?_)
      · refine zF_iconst 51 dX10_refresh_50 rfl ?_
        refine zF_istore 53 (ls' := [(4, zI 0), (3, zI (mSh N ((sx : Nat) : Int) ((sy : Nat) : Int))), (2, zI ((sy : Nat) : Int)), (1, zI ((sx : Nat) : Int)), (0, zR (B 300))]) dX10_refresh_51 rfl (by decide) rfl ?_
        refine zF_aload_n 54 dX10_refresh_53 rfl rfl ?_
        refine zF_getR 57 dX10_refresh_54 rfl gX10_9 hB2.wk.1 hB2.wk.2.1 (cB_302 hB2).1 ?_
        refine zF_iload_n 58 dX10_refresh_57 rfl rfl ?_
        refine zF_bipush 60 dX10_refresh_58 rfl (by decide) ?_
        refine zF_imul 61 dX10_refresh_60 rfl ?_
        refine zF_iload_n 62 dX10_refresh_61 rfl rfl ?_
        refine zF_iadd 63 dX10_refresh_62 rfl ?_
        refine zF_iload 65 dX10_refresh_63 rfl rfl ?_
        refine zF_if_eq 78 68 dX10_refresh_65 rfl rfl (by first | decide | assumption | exact hb _ | exact mSh_rg hb _ _ | exact zb_rg _ | (constructor <;> omega)) (fun c4 => ?_) (fun c4 => ?_)
        · refine zF_iconst 79 dX10_refresh_78 rfl ?_
          refine zF_iastore 80 dX10_refresh_79 rfl (cB_302 hB2).2.2 (cB_302 hB2).2.1 (by omega) (by omega) ?_
          refine zF_iinc 83 (ls' := [(2, zI (((sy : Nat) : Int) + 1)), (4, zI 0), (3, zI (mSh N ((sx : Nat) : Int) ((sy : Nat) : Int))), (1, zI ((sx : Nat) : Int)), (0, zR (B 300))]) dX10_refresh_80 rfl rfl rfl (by decide) rfl ?_
          refine zF_goto 15 dX10_refresh_83 rfl ?_
          exact zF_locs (ls' := [(2, zI (((sy + 1) : Nat) : Int)), (1, zI ((sx : Nat) : Int)), (0, zR (B 300))]) ⟨zlI rfl (by first | rfl | omega | (push_cast; omega) | exact congrArg (_ + ·) (zbT (by assumption)) | exact congrArg (_ + ·) (zbF (by assumption)) | exact congrArg (_ + ·) (zbT (by omega)) | exact congrArg (_ + ·) (zbF (by omega)) | exact congrArg (_ + ·) (if_pos (by omega)).symm | exact congrArg (_ + ·) (if_neg (by omega)).symm | exact (if_pos (by omega)).symm | exact (if_neg (by omega)).symm | exact zsub_s (if_pos (by omega)).symm | exact zsub_s0 (if_neg (by omega)).symm | exact zadd0 (if_neg (by omega)).symm | exact zadd0 (zbF (by omega)) | exact (Int.sub_zero _).symm), rfl, rfl, trivial⟩ (ih15 (sy + 1) _ (by omega) (⟨by omega, zFr_si (zRg.mk (by omega)) fr3, rf_step t3 (by omega) (by omega) ((gv_out (by omega)).symm)⟩))
        · exact absurd c4 (by decide)
      · refine zF_iload_n 36 dX10_refresh_35 rfl rfl ?_
        refine zF_aload_n 37 dX10_refresh_36 rfl rfl ?_
        refine zF_getR 40 dX10_refresh_37 rfl gX10_18 hB2.wk.1 hB2.wk.2.1 hB2.wk.2.2.1 ?_
        refine zF_getI 43 dX10_refresh_40 rfl gX10_38 (by decide) (by decide) hB2.ch.1 hB2.ch.2.1 hR2.c.1.2.2 ?_
        refine zF_icmp_ge 50 46 dX10_refresh_43 rfl rfl (by first | decide | assumption | exact hb _ | exact mSh_rg hb _ _ | exact zb_rg _ | (constructor <;> omega)) (by first | decide | assumption | exact hb _ | exact mSh_rg hb _ _ | exact zb_rg _ | (constructor <;> omega)) (fun c5 => ?_) (fun c5 => ?_)
        · refine zF_iconst 51 dX10_refresh_50 rfl ?_
          refine zF_istore 53 (ls' := [(4, zI 0), (3, zI (mSh N ((sx : Nat) : Int) ((sy : Nat) : Int))), (2, zI ((sy : Nat) : Int)), (1, zI ((sx : Nat) : Int)), (0, zR (B 300))]) dX10_refresh_51 rfl (by decide) rfl ?_
          refine zF_aload_n 54 dX10_refresh_53 rfl rfl ?_
          refine zF_getR 57 dX10_refresh_54 rfl gX10_9 hB2.wk.1 hB2.wk.2.1 (cB_302 hB2).1 ?_
          refine zF_iload_n 58 dX10_refresh_57 rfl rfl ?_
          refine zF_bipush 60 dX10_refresh_58 rfl (by decide) ?_
          refine zF_imul 61 dX10_refresh_60 rfl ?_
          refine zF_iload_n 62 dX10_refresh_61 rfl rfl ?_
          refine zF_iadd 63 dX10_refresh_62 rfl ?_
          refine zF_iload 65 dX10_refresh_63 rfl rfl ?_
          refine zF_if_eq 78 68 dX10_refresh_65 rfl rfl (by first | decide | assumption | exact hb _ | exact mSh_rg hb _ _ | exact zb_rg _ | (constructor <;> omega)) (fun c6 => ?_) (fun c6 => ?_)
          · refine zF_iconst 79 dX10_refresh_78 rfl ?_
            refine zF_iastore 80 dX10_refresh_79 rfl (cB_302 hB2).2.2 (cB_302 hB2).2.1 (by omega) (by omega) ?_
            refine zF_iinc 83 (ls' := [(2, zI (((sy : Nat) : Int) + 1)), (4, zI 0), (3, zI (mSh N ((sx : Nat) : Int) ((sy : Nat) : Int))), (1, zI ((sx : Nat) : Int)), (0, zR (B 300))]) dX10_refresh_80 rfl rfl rfl (by decide) rfl ?_
            refine zF_goto 15 dX10_refresh_83 rfl ?_
            exact zF_locs (ls' := [(2, zI (((sy + 1) : Nat) : Int)), (1, zI ((sx : Nat) : Int)), (0, zR (B 300))]) ⟨zlI rfl (by first | rfl | omega | (push_cast; omega) | exact congrArg (_ + ·) (zbT (by assumption)) | exact congrArg (_ + ·) (zbF (by assumption)) | exact congrArg (_ + ·) (zbT (by omega)) | exact congrArg (_ + ·) (zbF (by omega)) | exact congrArg (_ + ·) (if_pos (by omega)).symm | exact congrArg (_ + ·) (if_neg (by omega)).symm | exact (if_pos (by omega)).symm | exact (if_neg (by omega)).symm | exact zsub_s (if_pos (by omega)).symm | exact zsub_s0 (if_neg (by omega)).symm | exact zadd0 (if_neg (by omega)).symm | exact zadd0 (zbF (by omega)) | exact (Int.sub_zero _).symm), rfl, rfl, trivial⟩ (ih15 (sy + 1) _ (by omega) (⟨by omega, zFr_si (zRg.mk (by omega)) fr3, rf_step t3 (by omega) (by omega) ((gv_out (by omega)).symm)⟩))
          · exact absurd c6 (by decide)
        · refine zF_iconst 47 dX10_refresh_46 rfl ?_
          refine zF_goto 51 dX10_refresh_47 rfl ?_
          refine zF_istore 53 (ls' := [(4, zI 1), (3, zI (mSh N ((sx : Nat) : Int) ((sy : Nat) : Int))), (2, zI ((sy : Nat) : Int)), (1, zI ((sx : Nat) : Int)), (0, zR (B 300))]) dX10_refresh_51 rfl (by decide) rfl ?_
          refine zF_aload_n 54 dX10_refresh_53 rfl rfl ?_
          refine zF_getR 57 dX10_refresh_54 rfl gX10_9 hB2.wk.1 hB2.wk.2.1 (cB_302 hB2).1 ?_
          refine zF_iload_n 58 dX10_refresh_57 rfl rfl ?_
          refine zF_bipush 60 dX10_refresh_58 rfl (by decide) ?_
          refine zF_imul 61 dX10_refresh_60 rfl ?_
          refine zF_iload_n 62 dX10_refresh_61 rfl rfl ?_
          refine zF_iadd 63 dX10_refresh_62 rfl ?_
          refine zF_iload 65 dX10_refresh_63 rfl rfl ?_
          refine zF_if_eq 78 68 dX10_refresh_65 rfl rfl (by first | decide | assumption | exact hb _ | exact mSh_rg hb _ _ | exact zb_rg _ | (constructor <;> omega)) (fun c7 => ?_) (fun c7 => ?_)
          · exact absurd c7 (by decide)
          · refine zF_aload_n 69 dX10_refresh_68 rfl rfl ?_
            refine zF_iload_n 70 dX10_refresh_69 rfl rfl ?_
            refine zF_iload_n 71 dX10_refresh_70 rfl rfl ?_
            refine zF_iload_n 72 dX10_refresh_71 rfl rfl ?_
            refine zF_callVi 75 (d2 := (d + 3)) (as := [zI ((sx : Nat) : Int), zI (mSh N ((sx : Nat) : Int) ((sy : Nat) : Int)), zI ((sy : Nat) : Int)]) dX10_refresh_72 rfl kX10_41 iX10_expectedVisitors (ci := 10) rfl eX10_expectedVisitors (Nat.le_refl _) hB2.wk.1 hB2.wk.2.1 rfl rfl (Nat.le_of_ble_eq_true rfl) (zu_X10_expectedVisitors hB2 hR2 hV hX (by omega) (by omega) (by omega) (by omega) (by first | decide | assumption | exact hb _ | exact mSh_rg hb _ _ | exact zb_rg _ | (constructor <;> omega))) ?_
            refine zF_goto 79 dX10_refresh_75 rfl ?_
            refine zF_iastore 80 dX10_refresh_79 rfl (cB_302 hB2).2.2 (cB_302 hB2).2.1 (by omega) (by omega) ?_
            refine zF_iinc 83 (ls' := [(2, zI (((sy : Nat) : Int) + 1)), (4, zI 1), (3, zI (mSh N ((sx : Nat) : Int) ((sy : Nat) : Int))), (1, zI ((sx : Nat) : Int)), (0, zR (B 300))]) dX10_refresh_80 rfl rfl rfl (by decide) rfl ?_
            refine zF_goto 15 dX10_refresh_83 rfl ?_
            exact zF_locs (ls' := [(2, zI (((sy + 1) : Nat) : Int)), (1, zI ((sx : Nat) : Int)), (0, zR (B 300))]) ⟨zlI rfl (by first | rfl | omega | (push_cast; omega) | exact congrArg (_ + ·) (zbT (by assumption)) | exact congrArg (_ + ·) (zbF (by assumption)) | exact congrArg (_ + ·) (zbT (by omega)) | exact congrArg (_ + ·) (zbF (by omega)) | exact congrArg (_ + ·) (if_pos (by omega)).symm | exact congrArg (_ + ·) (if_neg (by omega)).symm | exact (if_pos (by omega)).symm | exact (if_neg (by omega)).symm | exact zsub_s (if_pos (by omega)).symm | exact zsub_s0 (if_neg (by omega)).symm | exact zadd0 (if_neg (by omega)).symm | exact zadd0 (zbF (by omega)) | exact (Int.sub_zero _).symm), rfl, rfl, trivial⟩ (ih15 (sy + 1) _ (by omega) (⟨by omega, zFr_si (zRg.mk (by omega)) fr3, rf_step t3 (by omega) (by omega) ((eV_gv _ _ (by omega) (by omega) (by omega) (by omega)))⟩))
end ZC6

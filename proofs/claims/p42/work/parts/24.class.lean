/-! the class: chain, state, week -/
section ZC1
def chF : List (Nat × Nat) := [(1, 4), (2, 4), (4, 10), (5, 10), (6, 10), (8, 6), (9, 6), (10, 6), (11, 6), (12, 24)]
def stF : List (Nat × Nat) := [(3, 4), (4, 10), (5, 30), (6, 10), (7, 10), (8, 10), (9, 10), (10, 6), (11, 6), (12, 6), (13, 24), (14, 4), (15, 100)]
variable {G : zG} {d : Nat} {σ : zMem} {B : Nat → Nat} {N : Int → Int}
def cCh (σ : zMem) (B : Nat → Nat) (b : Nat) : Prop := zkd σ (B b) = (0, 1) ∧ B b < zn σ ∧ ∀ k n, (k, n) ∈ chF → zra σ (B b) ((k : Nat) : Int) = some (B (b + k)) ∧ B (b + k) < zn σ ∧ zkd σ (B (b + k)) = (1, n)
def cSt (σ : zMem) (B : Nat → Nat) (b : Nat) : Prop := zkd σ (B b) = (0, 8) ∧ B b < zn σ ∧ ∀ k n, (k, n) ∈ stF → zra σ (B b) ((k : Nat) : Int) = some (B (b + k)) ∧ B (b + k) < zn σ ∧ zkd σ (B (b + k)) = (1, n)
def cWk (σ : zMem) (B : Nat → Nat) : Prop := zkd σ (B 300) = (0, 10) ∧ B 300 < zn σ ∧ zra σ (B 300) ((0 : Nat) : Int) = some (B 100) ∧ zra σ (B 300) ((1 : Nat) : Int) = some (B 200) ∧ zra σ (B 300) ((2 : Nat) : Int) = some (B 302) ∧ zra σ (B 300) ((3 : Nat) : Int) = some (B 303) ∧ B 302 < zn σ ∧ zkd σ (B 302) = (1, 70) ∧ B 303 < zn σ ∧ zkd σ (B 303) = (1, 6)
/-- the class's objects: the present chain (100 and its fields behind it), the present state (200 ..), the week (300 ..) -/
def cM (σ : zMem) (B : Nat → Nat) : Prop := cCh σ B 100 ∧ cSt σ B 200 ∧ cWk σ B ∧ ∀ i j, B i = B j → i = j
theorem cM.ch (h : cM σ B) : cCh σ B 100 := h.1
theorem cM.st (h : cM σ B) : cSt σ B 200 := h.2.1
theorem cM.wk (h : cM σ B) : cWk σ B := h.2.2.1
theorem cM.inj (h : cM σ B) : ∀ i j, B i = B j → i = j := h.2.2.2
theorem cB_101 (h : cM σ B) : zra σ (B 100) ((1 : Nat) : Int) = some (B 101) ∧ B 101 < zn σ ∧ zkd σ (B 101) = (1, 4) := h.ch.2.2 1 4 (by decide)
theorem cB_102 (h : cM σ B) : zra σ (B 100) ((2 : Nat) : Int) = some (B 102) ∧ B 102 < zn σ ∧ zkd σ (B 102) = (1, 4) := h.ch.2.2 2 4 (by decide)
theorem cB_104 (h : cM σ B) : zra σ (B 100) ((4 : Nat) : Int) = some (B 104) ∧ B 104 < zn σ ∧ zkd σ (B 104) = (1, 10) := h.ch.2.2 4 10 (by decide)
theorem cB_105 (h : cM σ B) : zra σ (B 100) ((5 : Nat) : Int) = some (B 105) ∧ B 105 < zn σ ∧ zkd σ (B 105) = (1, 10) := h.ch.2.2 5 10 (by decide)
theorem cB_106 (h : cM σ B) : zra σ (B 100) ((6 : Nat) : Int) = some (B 106) ∧ B 106 < zn σ ∧ zkd σ (B 106) = (1, 10) := h.ch.2.2 6 10 (by decide)
theorem cB_108 (h : cM σ B) : zra σ (B 100) ((8 : Nat) : Int) = some (B 108) ∧ B 108 < zn σ ∧ zkd σ (B 108) = (1, 6) := h.ch.2.2 8 6 (by decide)
theorem cB_109 (h : cM σ B) : zra σ (B 100) ((9 : Nat) : Int) = some (B 109) ∧ B 109 < zn σ ∧ zkd σ (B 109) = (1, 6) := h.ch.2.2 9 6 (by decide)
theorem cB_110 (h : cM σ B) : zra σ (B 100) ((10 : Nat) : Int) = some (B 110) ∧ B 110 < zn σ ∧ zkd σ (B 110) = (1, 6) := h.ch.2.2 10 6 (by decide)
theorem cB_111 (h : cM σ B) : zra σ (B 100) ((11 : Nat) : Int) = some (B 111) ∧ B 111 < zn σ ∧ zkd σ (B 111) = (1, 6) := h.ch.2.2 11 6 (by decide)
theorem cB_112 (h : cM σ B) : zra σ (B 100) ((12 : Nat) : Int) = some (B 112) ∧ B 112 < zn σ ∧ zkd σ (B 112) = (1, 24) := h.ch.2.2 12 24 (by decide)
theorem cB_203 (h : cM σ B) : zra σ (B 200) ((3 : Nat) : Int) = some (B 203) ∧ B 203 < zn σ ∧ zkd σ (B 203) = (1, 4) := h.st.2.2 3 4 (by decide)
theorem cB_204 (h : cM σ B) : zra σ (B 200) ((4 : Nat) : Int) = some (B 204) ∧ B 204 < zn σ ∧ zkd σ (B 204) = (1, 10) := h.st.2.2 4 10 (by decide)
theorem cB_205 (h : cM σ B) : zra σ (B 200) ((5 : Nat) : Int) = some (B 205) ∧ B 205 < zn σ ∧ zkd σ (B 205) = (1, 30) := h.st.2.2 5 30 (by decide)
theorem cB_206 (h : cM σ B) : zra σ (B 200) ((6 : Nat) : Int) = some (B 206) ∧ B 206 < zn σ ∧ zkd σ (B 206) = (1, 10) := h.st.2.2 6 10 (by decide)
theorem cB_207 (h : cM σ B) : zra σ (B 200) ((7 : Nat) : Int) = some (B 207) ∧ B 207 < zn σ ∧ zkd σ (B 207) = (1, 10) := h.st.2.2 7 10 (by decide)
theorem cB_208 (h : cM σ B) : zra σ (B 200) ((8 : Nat) : Int) = some (B 208) ∧ B 208 < zn σ ∧ zkd σ (B 208) = (1, 10) := h.st.2.2 8 10 (by decide)
theorem cB_209 (h : cM σ B) : zra σ (B 200) ((9 : Nat) : Int) = some (B 209) ∧ B 209 < zn σ ∧ zkd σ (B 209) = (1, 10) := h.st.2.2 9 10 (by decide)
theorem cB_210 (h : cM σ B) : zra σ (B 200) ((10 : Nat) : Int) = some (B 210) ∧ B 210 < zn σ ∧ zkd σ (B 210) = (1, 6) := h.st.2.2 10 6 (by decide)
theorem cB_211 (h : cM σ B) : zra σ (B 200) ((11 : Nat) : Int) = some (B 211) ∧ B 211 < zn σ ∧ zkd σ (B 211) = (1, 6) := h.st.2.2 11 6 (by decide)
theorem cB_212 (h : cM σ B) : zra σ (B 200) ((12 : Nat) : Int) = some (B 212) ∧ B 212 < zn σ ∧ zkd σ (B 212) = (1, 6) := h.st.2.2 12 6 (by decide)
theorem cB_213 (h : cM σ B) : zra σ (B 200) ((13 : Nat) : Int) = some (B 213) ∧ B 213 < zn σ ∧ zkd σ (B 213) = (1, 24) := h.st.2.2 13 24 (by decide)
theorem cB_214 (h : cM σ B) : zra σ (B 200) ((14 : Nat) : Int) = some (B 214) ∧ B 214 < zn σ ∧ zkd σ (B 214) = (1, 4) := h.st.2.2 14 4 (by decide)
theorem cB_215 (h : cM σ B) : zra σ (B 200) ((15 : Nat) : Int) = some (B 215) ∧ B 215 < zn σ ∧ zkd σ (B 215) = (1, 100) := h.st.2.2 15 100 (by decide)
theorem cB_302 (h : cM σ B) : zra σ (B 300) ((2 : Nat) : Int) = some (B 302) ∧ B 302 < zn σ ∧ zkd σ (B 302) = (1, 70) := ⟨h.wk.2.2.2.2.1, h.wk.2.2.2.2.2.2.1, h.wk.2.2.2.2.2.2.2.1⟩
theorem cB_303 (h : cM σ B) : zra σ (B 300) ((3 : Nat) : Int) = some (B 303) ∧ B 303 < zn σ ∧ zkd σ (B 303) = (1, 6) := ⟨h.wk.2.2.2.2.2.1, h.wk.2.2.2.2.2.2.2.2.1, h.wk.2.2.2.2.2.2.2.2.2⟩
/-- the chain's cells say what the numbers say -/
def cRc (N : Int → Int) (σ : zMem) (B : Nat → Nat) (b : Nat) : Prop :=
  (zia σ (B b) ((0 : Nat) : Int) = N 0 ∧ zia σ (B b) ((3 : Nat) : Int) = N 1 ∧ zia σ (B b) ((7 : Nat) : Int) = N 2) ∧
  (∀ h, 0 ≤ h → h < N 0 → zia σ (B (b + 1)) h = mH N h 0 ∧ zia σ (B (b + 2)) h = zsum (fun s => zb (mS N s 0 = h)) (nS N)) ∧
  (∀ s, 0 ≤ s → s < N 1 → zia σ (B (b + 4)) s = mS N s 0 ∧ zia σ (B (b + 5)) s = mS N s 1 ∧ zia σ (B (b + 6)) s = mS N s 2) ∧
  (∀ f, 0 ≤ f → f < N 2 → zia σ (B (b + 8)) f = mF N f 0 ∧ zia σ (B (b + 9)) f = mF N f 1 ∧ zia σ (B (b + 10)) f = mF N f 2 ∧ zia σ (B (b + 11)) f = mF N f 3 ∧ ∀ k, 0 ≤ k → k < mF N f 3 → zia σ (B (b + 12)) (f * 4 + k) = mF N f (4 + k))
/-- the state's cells -/
def cRs (N : Int → Int) (σ : zMem) (B : Nat → Nat) (b : Nat) : Prop :=
  (zia σ (B b) ((0 : Nat) : Int) = N 3 ∧ zia σ (B b) ((1 : Nat) : Int) = N 5 ∧ zia σ (B b) ((2 : Nat) : Int) = N 4) ∧
  (∀ h, 0 ≤ h → h < N 0 → zia σ (B (b + 3)) h = mH N h 1 ∧ ∀ f, 0 ≤ f → f < N 2 → zia σ (B (b + 13)) (h * 6 + f) = mR N h f) ∧
  (∀ s, 0 ≤ s → s < N 1 → zia σ (B (b + 4)) s = mS N s 3 ∧ zia σ (B (b + 6)) s = mS N s 4 ∧ zia σ (B (b + 7)) s = mS N s 5 ∧ zia σ (B (b + 8)) s = mS N s 6 ∧ zia σ (B (b + 9)) s = mS N s 7) ∧
  (∀ f, 0 ≤ f → f < N 2 → zia σ (B (b + 10)) f = mF N f 8 ∧ zia σ (B (b + 11)) f = mDem N f ∧ zia σ (B (b + 12)) f = mF N f 9 ∧ ∀ p, -1 ≤ p → p < N 0 → zia σ (B (b + 5)) (f * 5 + p + 1) = mP N f p) ∧
  (∀ k, 0 ≤ k → k < 4 → zia σ (B (b + 14)) k = N (208 + k)) ∧
  ∀ back what, 0 ≤ back → back < min 20 (N 3) → 0 ≤ what → what < 5 → zia σ (B (b + 15)) ((N 3 - 1 - back) % 20 * 5 + what) = N (212 + 5 * back + what)
/-- a screen is split where it has a second film, and from a day behind the first -/
def mX (N : Int → Int) : Prop := ∀ s, 0 ≤ s → s < N 1 → (mS N s 5 = -1 ↔ mS N s 6 = 0) ∧ (mS N s 7 = 1 → mS N s 5 = -1)
def cR (N : Int → Int) (σ : zMem) (B : Nat → Nat) : Prop := cRc N σ B 100 ∧ cRs N σ B 200 ∧ ∀ s dd, 0 ≤ s → s < N 1 → 0 ≤ dd → dd < 7 → zia σ (B 302) (7 * s + dd) = gv N s dd
theorem cR.c (h : cR N σ B) : cRc N σ B 100 := h.1
theorem cR.s (h : cR N σ B) : cRs N σ B 200 := h.2.1
theorem rd_302 (hR : cR N σ B) {s dd : Int} (s0 : 0 ≤ s) (s1 : s < N 1) (d0 : 0 ≤ dd) (d1 : dd < 7) : zia σ (B 302) (s * 7 + dd) = gv N s dd := by
  rw [show s * 7 + dd = 7 * s + dd by omega]
  exact hR.2.2 s dd s0 s1 d0 d1
theorem rd_213 (hR : cR N σ B) {h f : Int} (h0 : 0 ≤ h) (h1 : h < N 0) (f0 : 0 ≤ f) (f1 : f < N 2) : zia σ (B 213) (h * 6 + f) = mR N h f := (hR.s.2.1 h h0 h1).2 f f0 f1
theorem zt_X1_capacityOf {a : Int} (hB : cM σ B) (hR : cR N σ B) (hV : mV N) (s0 : 0 ≤ a) (s1 : a < N 1) : zP1 G mX1_capacityOf d [zR (B 100), zI a] σ (mCap N a) := by
  refine zE_of rfl (by simp [zcat]) (Nat.le_of_ble_eq_true rfl) ?_
  show zF G mX1_capacityOf d 0 [(0, zR (B 100)), (1, zI a)] [] σ _
  have hb := hV.b
  have hn := hV.n
  refine zF_aload_n 1 dX1_capacityOf_0 rfl rfl ?_
  refine zF_getR 4 dX1_capacityOf_1 rfl gX1_21 hB.ch.1 hB.ch.2.1 (cB_105 hB).1 ?_
  refine zF_iload_n 5 dX1_capacityOf_4 rfl rfl ?_
  refine zF_iaload 6 dX1_capacityOf_5 rfl (cB_105 hB).2.2 (cB_105 hB).2.1 (by omega) (by omega) (hR.c.2.2.1 _ (by omega) (by omega)).2.1 ?_
  refine zF_aload_n 7 dX1_capacityOf_6 rfl rfl ?_
  refine zF_getR 10 dX1_capacityOf_7 rfl gX1_24 hB.ch.1 hB.ch.2.1 (cB_106 hB).1 ?_
  refine zF_iload_n 11 dX1_capacityOf_10 rfl rfl ?_
  refine zF_iaload 12 dX1_capacityOf_11 rfl (cB_106 hB).2.2 (cB_106 hB).2.1 (by omega) (by omega) (hR.c.2.2.1 _ (by omega) (by omega)).2.2 ?_
  refine zF_imul 13 dX1_capacityOf_12 rfl ?_
  exact zF_iretP dX1_capacityOf_13 rfl (rfl)
theorem zt_X1_priceAt {a : Int} (hB : cM σ B) (hR : cR N σ B) (hV : mV N) (hW : mW N) (s0 : 0 ≤ a) (s1 : a < N 1) : zP1 G mX1_priceAt d [zR (B 100), zI a] σ (mPrice N a) := by
  refine zE_of rfl (by simp [zcat]) (Nat.le_of_ble_eq_true rfl) ?_
  show zF G mX1_priceAt d 0 [(0, zR (B 100)), (1, zI a)] [] σ _
  have hb := hV.b
  have hn := hV.n
  have hs := hV.s a s0 (by omega)
  have hw := hW a s0 s1
  refine zF_aload_n 1 dX1_priceAt_0 rfl rfl ?_
  refine zF_getR 4 dX1_priceAt_1 rfl gX1_9 hB.ch.1 hB.ch.2.1 (cB_101 hB).1 ?_
  refine zF_aload_n 5 dX1_priceAt_4 rfl rfl ?_
  refine zF_getR 8 dX1_priceAt_5 rfl gX1_18 hB.ch.1 hB.ch.2.1 (cB_104 hB).1 ?_
  refine zF_iload_n 9 dX1_priceAt_8 rfl rfl ?_
  refine zF_iaload 10 dX1_priceAt_9 rfl (cB_104 hB).2.2 (cB_104 hB).2.1 (by omega) (by omega) (hR.c.2.2.1 _ (by omega) (by omega)).1 ?_
  refine zF_iaload 11 dX1_priceAt_10 rfl (cB_101 hB).2.2 (cB_101 hB).2.1 (by omega) (by omega) (hR.c.2.1 _ (by omega) (by omega)).1 ?_
  exact zF_iretP dX1_priceAt_11 rfl (rfl)
theorem zt_X8_filmOn {a b : Int} (hB : cM σ B) (hR : cR N σ B) (hV : mV N) (hX : mX N) (s0 : 0 ≤ a) (s1 : a < N 1) (h2 : zrg b) : zP1 G mX8_filmOn d [zR (B 200), zI a, zI b] σ (mSh N a b) := by
  refine zE_of rfl (by simp [zcat]) (Nat.le_of_ble_eq_true rfl) ?_
  show zF G mX8_filmOn d 0 [(0, zR (B 200)), (1, zI a), (2, zI b)] [] σ _
  have hb := hV.b
  have hn := hV.n
  have hs := hV.s a s0 (by omega)
  have hx := (hX a s0 s1).1
  refine zF_aload_n 1 dX8_filmOn_0 rfl rfl ?_
  refine zF_getR 4 dX8_filmOn_1 rfl gX8_27 hB.st.1 hB.st.2.1 (cB_208 hB).1 ?_
  refine zF_iload_n 5 dX8_filmOn_4 rfl rfl ?_
  refine zF_iaload 6 dX8_filmOn_5 rfl (cB_208 hB).2.2 (cB_208 hB).2.1 (by omega) (by omega) (hR.s.2.2.1 _ (by omega) (by omega)).2.2.2.1 ?_
  refine zF_istore_n 7 (ls' := [(3, zI (mS N a 6)), (0, zR (B 200)), (1, zI a), (2, zI b)]) dX8_filmOn_6 rfl (by decide) rfl ?_
  refine zF_iload_n 8 dX8_filmOn_7 rfl rfl ?_
  refine zF_if_eq 16 11 dX8_filmOn_8 rfl rfl (by first | decide | assumption | exact hb _ | exact mSh_rg hb _ _ | exact zb_rg _ | (constructor <;> omega)) (fun c1 => ?_) (fun c1 => ?_)
  · refine zF_aload_n 17 dX8_filmOn_16 rfl rfl ?_
    refine zF_getR 20 dX8_filmOn_17 rfl gX8_21 hB.st.1 hB.st.2.1 (cB_206 hB).1 ?_
    refine zF_iload_n 21 dX8_filmOn_20 rfl rfl ?_
    refine zF_iaload 22 dX8_filmOn_21 rfl (cB_206 hB).2.2 (cB_206 hB).2.1 (by omega) (by omega) (hR.s.2.2.1 _ (by omega) (by omega)).2.1 ?_
    refine zF_goto 31 dX8_filmOn_22 rfl ?_
    exact zF_iretP dX8_filmOn_31 rfl (by first | exact (if_pos (by omega)).symm | exact (if_neg (by omega)).symm)
  · refine zF_iload_n 12 dX8_filmOn_11 rfl rfl ?_
    refine zF_iload_n 13 dX8_filmOn_12 rfl rfl ?_
    refine zF_icmp_ge 25 16 dX8_filmOn_13 rfl rfl (by first | decide | assumption | exact hb _ | exact mSh_rg hb _ _ | exact zb_rg _ | (constructor <;> omega)) (by first | decide | assumption | exact hb _ | exact mSh_rg hb _ _ | exact zb_rg _ | (constructor <;> omega)) (fun c2 => ?_) (fun c2 => ?_)
    · refine zF_aload_n 26 dX8_filmOn_25 rfl rfl ?_
      refine zF_getR 29 dX8_filmOn_26 rfl gX8_24 hB.st.1 hB.st.2.1 (cB_207 hB).1 ?_
      refine zF_iload_n 30 dX8_filmOn_29 rfl rfl ?_
      refine zF_iaload 31 dX8_filmOn_30 rfl (cB_207 hB).2.2 (cB_207 hB).2.1 (by omega) (by omega) (hR.s.2.2.1 _ (by omega) (by omega)).2.2.1 ?_
      exact zF_iretP dX8_filmOn_31 rfl (by first | exact (if_pos (by omega)).symm | exact (if_neg (by omega)).symm)
    · refine zF_aload_n 17 dX8_filmOn_16 rfl rfl ?_
      refine zF_getR 20 dX8_filmOn_17 rfl gX8_21 hB.st.1 hB.st.2.1 (cB_206 hB).1 ?_
      refine zF_iload_n 21 dX8_filmOn_20 rfl rfl ?_
      refine zF_iaload 22 dX8_filmOn_21 rfl (cB_206 hB).2.2 (cB_206 hB).2.1 (by omega) (by omega) (hR.s.2.2.1 _ (by omega) (by omega)).2.1 ?_
      refine zF_goto 31 dX8_filmOn_22 rfl ?_
      exact zF_iretP dX8_filmOn_31 rfl (by first | exact (if_pos (by omega)).symm | exact (if_neg (by omega)).symm)
def eVN (N : Int → Int) (s f day : Int) (n : Nat) : Int := zsum (fun o => if (o ≠ s ∧ mS N o 0 = mS N s 0 ∧ (mCap N s < mCap N o ∨ (mCap N o = mCap N s ∧ o < s))) ∧ mSh N o day = f then mCap N o else 0) n
def eV (N : Int → Int) (s f day : Int) : Int := max 0 (min (mDem N f - eVN N s f day (nS N)) (mCap N s))
theorem eVN_b (h : mV N) (s f day : Int) (n : Nat) (hn : n ≤ 10) : 0 ≤ eVN N s f day n ∧ eVN N s f day n ≤ 30000 := by
  have a := zsum_ge (f := fun o => if (o ≠ s ∧ mS N o 0 = mS N s 0 ∧ (mCap N s < mCap N o ∨ (mCap N o = mCap N s ∧ o < s))) ∧ mSh N o day = f then mCap N o else 0) (n := n) (a := 0) fun i hi => by have := mCap_b h (s := i) (by omega) (by omega); split <;> omega
  have b := zsum_le (f := fun o => if (o ≠ s ∧ mS N o 0 = mS N s 0 ∧ (mCap N s < mCap N o ∨ (mCap N o = mCap N s ∧ o < s))) ∧ mSh N o day = f then mCap N o else 0) (n := n) (a := 3000) fun i hi => by have := mCap_b h (s := i) (by omega) (by omega); split <;> omega
  unfold eVN
  omega
theorem eV_gv (s day : Int) (h0 : 0 ≤ s) (h1 : s < N 1) (f0 : 0 ≤ mSh N s day) (f1 : mSh N s day < N 2) : eV N s (mSh N s day) day = gv N s day := by
  unfold eV gv
  rw [if_pos ⟨h0, h1, f0, f1⟩]
  have : eVN N s (mSh N s day) day (nS N) = gvS N s day (nS N) := zsum_congr fun o _ => by
    by_cases c : ((o : Int) ≠ s ∧ mS N o 0 = mS N s 0 ∧ (mCap N s < mCap N o ∨ (mCap N o = mCap N s ∧ (o : Int) < s))) ∧ mSh N o day = mSh N s day
    · rw [if_pos c, if_pos ⟨c.1.1, c.1.2.1, c.1.2.2, c.2⟩]
    · rw [if_neg c, if_neg fun q => c ⟨⟨q.1, q.2.1, q.2.2.1⟩, q.2.2.2⟩]
  rw [this]
end ZC1

/-! the class: close -/
section ZC16
variable {G : zG} {d : Nat} {σ σ0 : zMem} {B : Nat → Nat} {N : Int → Int}
def cCl (σ : zMem) (B : Nat → Nat) : Prop := zkd σ (B 500) = (0, 3) ∧ B 500 < zn σ ∧ zra σ (B 500) ((0 : Nat) : Int) = some (B 100) ∧ zra σ (B 500) ((1 : Nat) : Int) = some (B 200) ∧ zra σ (B 500) ((2 : Nat) : Int) = some (B 300) ∧ zra σ (B 500) ((3 : Nat) : Int) = some (B 503) ∧ B 503 < zn σ ∧ zkd σ (B 503) = (1, 10)
theorem cCl_fr {P : Nat → Int → Prop} {σ2 : zMem} (h : cCl σ B) (f : zFr P σ σ2) : cCl σ2 B := by
  unfold cCl at h ⊢
  rw [f.1, f.2.1, f.2.2.1]; exact h
theorem am1 (hj : ∀ i j, B i = B j → i = j) {σ1 : zMem} {k v r : Int} (e : σ1 = zsi (zsi σ (B 214) k (zia σ (B 214) k + v)) (B 215) (r + k) v) : (∀ j, zia σ1 (B 214) j = if j = k then zia σ (B 214) j + v else zia σ (B 214) j) ∧ ∀ j, zia σ1 (B 215) j = if j = r + k then v else zia σ (B 215) j := by
  subst e
  have ne : B 214 ≠ B 215 := fun e => absurd (hj _ _ e) (by decide)
  refine ⟨fun j => ?_, fun j => ?_⟩
  · rw [zia_si, if_neg (fun q => ne q.1), zia_si]
    by_cases c : j = k
    · rw [if_pos ⟨rfl, c⟩, if_pos c, c]
    · rw [if_neg (fun q => c q.2), if_neg c]
  · rw [zia_si]
    by_cases c : j = r + k
    · rw [if_pos ⟨rfl, c⟩, if_pos c]
    · rw [if_neg (fun q => c q.2), if_neg c, zia_si, if_neg (fun q => ne q.1.symm)]
def amF (σ σ1 : zMem) (B : Nat → Nat) (r : Int) (am : Int → Int) : Prop := (∀ k, 0 ≤ k → k < 4 → zia σ1 (B 214) k = zia σ (B 214) k + am k) ∧ (∀ k, 0 ≤ k → k < 4 → zia σ1 (B 215) (r + k) = am k) ∧ ∀ j, j < r ∨ r + 4 ≤ j → zia σ1 (B 215) j = zia σ (B 215) j
theorem am4 (hj : ∀ i j, B i = B j → i = j) {σ1 σ2 σ3 σ4 : zMem} {r a0 a1 a2 a3 : Int} {am : Int → Int} (e1 : σ1 = zsi (zsi σ (B 214) 0 (zia σ (B 214) 0 + a0)) (B 215) (r + 0) a0) (e2 : σ2 = zsi (zsi σ1 (B 214) 1 (zia σ1 (B 214) 1 + a1)) (B 215) (r + 1) a1) (e3 : σ3 = zsi (zsi σ2 (B 214) 2 (zia σ2 (B 214) 2 + a2)) (B 215) (r + 2) a2) (e4 : σ4 = zsi (zsi σ3 (B 214) 3 (zia σ3 (B 214) 3 + a3)) (B 215) (r + 3) a3)
    (h0 : a0 = am 0) (h1 : a1 = am 1) (h2 : a2 = am 2) (h3 : a3 = am 3) : amF σ σ4 B r am := by
  have p1 := am1 hj e1
  have p2 := am1 hj e2
  have p3 := am1 hj e3
  have p4 := am1 hj e4
  subst h0; subst h1; subst h2; subst h3
  refine ⟨fun k k0 k1 => ?_, fun k k0 k1 => ?_, fun j hj2 => ?_⟩
  · have : k = 0 ∨ k = 1 ∨ k = 2 ∨ k = 3 := by omega
    rcases this with c | c | c | c <;> subst c
    · rw [p4.1, if_neg (by decide), p3.1, if_neg (by decide), p2.1, if_neg (by decide), p1.1, if_pos rfl]
    · rw [p4.1, if_neg (by decide), p3.1, if_neg (by decide), p2.1, if_pos rfl, p1.1, if_neg (by decide)]
    · rw [p4.1, if_neg (by decide), p3.1, if_pos rfl, p2.1, if_neg (by decide), p1.1, if_neg (by decide)]
    · rw [p4.1, if_pos rfl, p3.1, if_neg (by decide), p2.1, if_neg (by decide), p1.1, if_neg (by decide)]
  · have : k = 0 ∨ k = 1 ∨ k = 2 ∨ k = 3 := by omega
    rcases this with c | c | c | c <;> subst c
    · rw [p4.2, if_neg (by omega), p3.2, if_neg (by omega), p2.2, if_neg (by omega), p1.2, if_pos rfl]
    · rw [p4.2, if_neg (by omega), p3.2, if_neg (by omega), p2.2, if_pos rfl]
    · rw [p4.2, if_neg (by omega), p3.2, if_pos rfl]
    · rw [p4.2, if_pos rfl]
  · rw [p4.2, if_neg (by omega), p3.2, if_neg (by omega), p2.2, if_neg (by omega), p1.2, if_neg (by omega)]
theorem cMd_am (hV : mV N) (hQ : mQ N) (ha : amR N) (hj : ∀ i j, B i = B j → i = j) {σ1 : zMem} (hR : cR N σ B) (f : zFr (fun y _ => y = B 214 ∨ y = B 215) σ σ1) (a : amF σ σ1 B (N 3 % 20 * 5) (clA N)) : cMd N σ σ1 B := by
  have hn := hV.n
  obtain ⟨m1, m2, m3, m4, m5, m6⟩ := cMd_0 hV hR
  have e : ∀ k, k ≠ 214 → k ≠ 215 → zia σ1 (B k) = zia σ (B k) := fun k hk hk2 => f.at fun _ q => q.elim (fun q => hk (hj _ _ q)) (fun q => hk2 (hj _ _ q))
  refine ⟨f.wk fun _ _ q => q.elim (fun q => Or.inr (Or.inr (Or.inr (Or.inl q)))) (fun q => Or.inr (Or.inr (Or.inr (Or.inr (Or.inl q))))), ?_, ?_, ?_, fun k k0 k1 => ?_, fun back what b0 b1 w0 w1 => ?_⟩
  · rw [e 210 (by omega) (by omega)]; exact m2
  · rw [e 213 (by omega) (by omega)]; exact m3
  · rw [e 212 (by omega) (by omega)]; exact m4
  · rw [a.1 k k0 k1, show zia σ (B 214) k = N (208 + k) from hR.s.2.2.2.2.1 k k0 k1]
    have x := hQ.a k k0 k1
    have y := ha k
    constructor <;> omega
  · by_cases c : (N 3 - 1 - back) % 20 * 5 + what < N 3 % 20 * 5 ∨ N 3 % 20 * 5 + 4 ≤ (N 3 - 1 - back) % 20 * 5 + what
    · rw [a.2.2 _ c]; exact m6 back what b0 b1 w0 w1
    · have y := ha ((N 3 - 1 - back) % 20 * 5 + what - N 3 % 20 * 5)
      rw [show (N 3 - 1 - back) % 20 * 5 + what = N 3 % 20 * 5 + ((N 3 - 1 - back) % 20 * 5 + what - N 3 % 20 * 5) by omega, a.2.1 _ (by omega) (by omega)]
      constructor <;> omega
theorem hs_step {σ3 : zMem} {y : Nat} {a e : Int} (hj : ∀ i j, B i = B j → i = j) (p : ∀ s : Nat, s < y → zia σ3 (B 206) s = hFl N s ∧ zia σ3 (B 207) s = -1 ∧ zia σ3 (B 208) s = 0 ∧ zia σ3 (B 209) s = zb (mHold N s)) (ea : a = hFl N y) (ee : e = zb (mHold N y)) : ∀ s : Nat, s < y + 1 → zia (zsi (zsi (zsi (zsi σ3 (B 206) y a) (B 207) y (-1)) (B 208) y 0) (B 209) y e) (B 206) s = hFl N s ∧ zia (zsi (zsi (zsi (zsi σ3 (B 206) y a) (B 207) y (-1)) (B 208) y 0) (B 209) y e) (B 207) s = -1 ∧ zia (zsi (zsi (zsi (zsi σ3 (B 206) y a) (B 207) y (-1)) (B 208) y 0) (B 209) y e) (B 208) s = 0 ∧ zia (zsi (zsi (zsi (zsi σ3 (B 206) y a) (B 207) y (-1)) (B 208) y 0) (B 209) y e) (B 209) s = zb (mHold N s) := fun s hs => by
  have ne : ∀ {i j : Nat}, i ≠ j → B i ≠ B j := fun h e => h (hj _ _ e)
  subst ea
  subst ee
  by_cases c : s = y
  · subst c
    exact ⟨zsi_N (ne (by decide)) (zsi_N (ne (by decide)) (zsi_N (ne (by decide)) (zsi_same _ _ _ _))), zsi_N (ne (by decide)) (zsi_N (ne (by decide)) (zsi_same _ _ _ _)), zsi_N (ne (by decide)) (zsi_same _ _ _ _), zsi_same _ _ _ _⟩
  · obtain ⟨a, b, f, g⟩ := p s (by omega)
    have nc : ((s : Nat) : Int) ≠ (y : Int) := by omega
    exact ⟨zsi_N (ne (by decide)) (zsi_N (ne (by decide)) (zsi_N (ne (by decide)) (zsi_F nc a))), zsi_N (ne (by decide)) (zsi_N (ne (by decide)) (zsi_F nc (zsi_N (ne (by decide)) b))), zsi_N (ne (by decide)) (zsi_F nc (zsi_N (ne (by decide)) (zsi_N (ne (by decide)) f))), zsi_F nc (zsi_N (ne (by decide)) (zsi_N (ne (by decide)) (zsi_N (ne (by decide)) g)))⟩
theorem zt_X3_addAmount {k v w : Int} (hB : cM σ B) (hC : cCl σ B) (hw : zia σ (B 200) ((0 : Nat) : Int) = w) (w0 : 0 ≤ w) (w1 : w < 1000) (k0 : 0 ≤ k) (k1 : k < 4) : zE G mX3_addAmount (d + 1) [zR (B 500), zI k, zI v] σ (fun ro σ1 => ro = .inl none ∧ zFr (fun y _ => y = B 214 ∨ y = B 215) σ σ1 ∧ σ1 = zsi (zsi σ (B 214) k (zia σ (B 214) k + v)) (B 215) (w % 20 * 5 + k) v) := by
  refine zE_of rfl (by simp [zcat]) (Nat.le_of_ble_eq_true rfl) ?_
  show zF G mX3_addAmount (d + 1) 0 [(0, zR (B 500)), (1, zI k), (2, zI v)] [] σ _
  refine zF_aload_n 1 dX3_addAmount_0 rfl rfl ?_
  refine zF_getR 4 dX3_addAmount_1 rfl gX3_19 hC.1 hC.2.1 hC.2.2.2.1 ?_
  refine zF_getR 7 dX3_addAmount_4 rfl gX3_87 hB.st.1 hB.st.2.1 (cB_214 hB).1 ?_
  refine zF_iload_n 8 dX3_addAmount_7 rfl rfl ?_
  refine zF_dup2 9 dX3_addAmount_8 rfl rfl rfl ?_
  refine zF_iaload 10 dX3_addAmount_9 rfl (cB_214 hB).2.2 (cB_214 hB).2.1 (by omega) (by omega) rfl ?_
  refine zF_iload_n 11 dX3_addAmount_10 rfl rfl ?_
  refine zF_iadd 12 dX3_addAmount_11 rfl ?_
  refine zF_iastore 13 dX3_addAmount_12 rfl (cB_214 hB).2.2 (cB_214 hB).2.1 (by omega) (by omega) ?_
  refine zF_aload_n 14 dX3_addAmount_13 rfl rfl ?_
  refine zF_getR 17 dX3_addAmount_14 rfl gX3_19 hC.1 hC.2.1 hC.2.2.2.1 ?_
  refine zF_aload_n 18 dX3_addAmount_17 rfl rfl ?_
  refine zF_getR 21 dX3_addAmount_18 rfl gX3_19 hC.1 hC.2.1 hC.2.2.2.1 ?_
  refine zF_getI 24 dX3_addAmount_21 rfl gX3_46 (by decide) (by decide) hB.st.1 hB.st.2.1 (zsi_N (fun e => absurd (hB.inj _ _ e) (by decide)) hw) ?_
  refine zF_iload_n 25 dX3_addAmount_24 rfl rfl ?_
  refine zF_iload_n 26 dX3_addAmount_25 rfl rfl ?_
  refine zF_callV 29 (d2 := d) (as := [zI w, zI k, zI v]) dX3_addAmount_26 rfl kX3_61 iX8_writeLog (ci := 8) rfl eX8_writeLog (Nat.le_refl _) hB.st.1 hB.st.2.1 rfl rfl (Nat.le_of_ble_eq_true rfl) (zE.mono (zt_X8_writeLog hB (by omega) (by omega) (by omega) (by omega)) fun ro σx1 hh1 => ?_)
  obtain ⟨er1, es1⟩ := hh1
  subst er1
  subst es1
  refine ⟨rfl, ?_⟩
  exact zF_return dX3_addAmount_29 rfl (⟨rfl, zFr_si (Or.inr rfl) (zFr_si (Or.inl rfl) zFr.rf), rfl⟩)
theorem zt_X3_addAmounts {v : Int} (hB : cM σ B) (hC : cCl σ B) (hR : cR N σ B) (hV : mV N) (hX : mX N) (hW : mW N) (hv : v = clA N 0) : zE G mX3_addAmounts (d + 5) [zR (B 500), zI v] σ (fun ro σ1 => ro = .inl none ∧ zFr (fun y _ => y = B 214 ∨ y = B 215) σ σ1 ∧ amF σ σ1 B (N 3 % 20 * 5) (clA N)) := by
  refine zE_of rfl (by simp [zcat]) (Nat.le_of_ble_eq_true rfl) ?_
  show zF G mX3_addAmounts (d + 5) 0 [(0, zR (B 500)), (1, zI v)] [] σ _
  have hb := hV.b
  have hn := hV.n
  have hh := nH_eq hV
  refine zF_iconst 1 dX3_addAmounts_0 rfl ?_
  refine zF_istore_n 2 (ls' := [(2, zI 0), (0, zR (B 500)), (1, zI v)]) dX3_addAmounts_1 rfl (by decide) rfl ?_
  refine zF_iconst 3 dX3_addAmounts_2 rfl ?_
  refine zF_istore_n 4 (ls' := [(3, zI 0), (2, zI 0), (0, zR (B 500)), (1, zI v)]) dX3_addAmounts_3 rfl (by decide) rfl ?_
  refine zF_iconst 5 dX3_addAmounts_4 rfl ?_
  refine zF_istore 7 (ls' := [(4, zI 0), (3, zI 0), (2, zI 0), (0, zR (B 500)), (1, zI v)]) dX3_addAmounts_5 rfl (by decide) rfl ?_
  refine zF_locs (ls' := (fun (i : Nat) => [(4, zI (i : Int)), (3, zI (zsum (fun h => cRentN N h (nS N)) i)), (2, zI (zsum (fun h => cShN N h (nF N)) i)), (0, zR (B 500)), (1, zI v)]) 0) ⟨zlI rfl (by first | rfl | omega | (push_cast; omega) | exact congrArg (_ + ·) (zbT (by assumption)) | exact congrArg (_ + ·) (zbF (by assumption)) | exact congrArg (_ + ·) (zbT (by omega)) | exact congrArg (_ + ·) (zbF (by omega)) | exact congrArg (_ + ·) (if_pos (by omega)).symm | exact congrArg (_ + ·) (if_neg (by omega)).symm | exact (if_pos (by omega)).symm | exact (if_neg (by omega)).symm | exact zsub_s (if_pos (by omega)).symm | exact zsub_s0 (if_neg (by omega)).symm | exact zadd0 (if_neg (by omega)).symm | exact zadd0 (zbF (by omega)) | exact (Int.sub_zero _).symm), zlI rfl (by first | rfl | omega | (push_cast; omega) | exact congrArg (_ + ·) (zbT (by assumption)) | exact congrArg (_ + ·) (zbF (by assumption)) | exact congrArg (_ + ·) (zbT (by omega)) | exact congrArg (_ + ·) (zbF (by omega)) | exact congrArg (_ + ·) (if_pos (by omega)).symm | exact congrArg (_ + ·) (if_neg (by omega)).symm | exact (if_pos (by omega)).symm | exact (if_neg (by omega)).symm | exact zsub_s (if_pos (by omega)).symm | exact zsub_s0 (if_neg (by omega)).symm | exact zadd0 (if_neg (by omega)).symm | exact zadd0 (zbF (by omega)) | exact (Int.sub_zero _).symm), zlI rfl (by first | rfl | omega | (push_cast; omega) | exact congrArg (_ + ·) (zbT (by assumption)) | exact congrArg (_ + ·) (zbF (by assumption)) | exact congrArg (_ + ·) (zbT (by omega)) | exact congrArg (_ + ·) (zbF (by omega)) | exact congrArg (_ + ·) (if_pos (by omega)).symm | exact congrArg (_ + ·) (if_neg (by omega)).symm | exact (if_pos (by omega)).symm | exact (if_neg (by omega)).symm | exact zsub_s (if_pos (by omega)).symm | exact zsub_s0 (if_neg (by omega)).symm | exact zadd0 (if_neg (by omega)).symm | exact zadd0 (zbF (by omega)) | exact (Int.sub_zero _).symm), rfl, rfl, trivial⟩ ?_
  refine zF_loop (n := (nH N)) (fun (i : Nat) => [(4, zI (i : Int)), (3, zI (zsum (fun h => cRentN N h (nS N)) i)), (2, zI (zsum (fun h => cShN N h (nF N)) i)), (0, zR (B 500)), (1, zI v)]) (fun _ => σ) (fun i hi ih7 => ?_) ?_
  · show zF G mX3_addAmounts (d + 5) 7 [(4, zI (i : Int)), (3, zI (zsum (fun h => cRentN N h (nS N)) i)), (2, zI (zsum (fun h => cShN N h (nF N)) i)), (0, zR (B 500)), (1, zI v)] [] σ _
    refine zF_iload 9 dX3_addAmounts_7 rfl rfl ?_
    refine zF_aload_n 10 dX3_addAmounts_9 rfl rfl ?_
    refine zF_getR 13 dX3_addAmounts_10 rfl gX3_15 hC.1 hC.2.1 hC.2.2.1 ?_
    refine zF_getI 16 dX3_addAmounts_13 rfl gX3_71 (by decide) (by decide) hB.ch.1 hB.ch.2.1 hR.c.1.1 ?_
    refine zF_icmp_ge 49 19 dX3_addAmounts_16 rfl rfl (by first | decide | assumption | exact hb _ | exact zb_rg _ | (constructor <;> omega)) (by first | decide | assumption | exact hb _ | exact zb_rg _ | (constructor <;> omega)) (fun c1 => ?_) (fun c1 => ?_)
    · exact absurd c1 (by omega)
    · refine zF_iload_n 20 dX3_addAmounts_19 rfl rfl ?_
      refine zF_aload_n 21 dX3_addAmounts_20 rfl rfl ?_
      refine zF_getR 24 dX3_addAmounts_21 rfl gX3_23 hC.1 hC.2.1 hC.2.2.2.2.1 ?_
      refine zF_iload 26 dX3_addAmounts_24 rfl rfl ?_
      refine zF_callVi 29 (d2 := (d + 4)) (as := [zI (i : Int)]) dX3_addAmounts_26 rfl kX3_74 iX10_houseShares (ci := 10) rfl eX10_houseShares (Nat.le_refl _) hB.wk.1 hB.wk.2.1 rfl rfl (Nat.le_of_ble_eq_true rfl) (zt_X10_houseShares hB hR hV hX (by omega) (by omega)) ?_
      refine zF_iadd 30 dX3_addAmounts_29 rfl ?_
      refine zF_istore_n 31 (ls' := [(2, zI ((zsum (fun h => cShN N h (nF N)) i) + (cShN N (i : Int) (nF N)))), (4, zI (i : Int)), (3, zI (zsum (fun h => cRentN N h (nS N)) i)), (0, zR (B 500)), (1, zI v)]) dX3_addAmounts_30 rfl (by decide) rfl ?_
      refine zF_iload_n 32 dX3_addAmounts_31 rfl rfl ?_
      refine zF_aload_n 33 dX3_addAmounts_32 rfl rfl ?_
      refine zF_getR 36 dX3_addAmounts_33 rfl gX3_23 hC.1 hC.2.1 hC.2.2.2.2.1 ?_
      refine zF_iload 38 dX3_addAmounts_36 rfl rfl ?_
      refine zF_callVi 41 (d2 := (d + 4)) (as := [zI (i : Int)]) dX3_addAmounts_38 rfl kX3_77 iX10_houseRents (ci := 10) rfl eX10_houseRents (Nat.le_refl _) hB.wk.1 hB.wk.2.1 rfl rfl (Nat.le_of_ble_eq_true rfl) (zt_X10_houseRents hB hR hV (by first | decide | assumption | exact hb _ | exact zb_rg _ | (constructor <;> omega))) ?_
      refine zF_iadd 42 dX3_addAmounts_41 rfl ?_
      refine zF_istore_n 43 (ls' := [(3, zI ((zsum (fun h => cRentN N h (nS N)) i) + (cRentN N (i : Int) (nS N)))), (2, zI ((zsum (fun h => cShN N h (nF N)) i) + (cShN N (i : Int) (nF N)))), (4, zI (i : Int)), (0, zR (B 500)), (1, zI v)]) dX3_addAmounts_42 rfl (by decide) rfl ?_
      refine zF_iinc 46 (ls' := [(4, zI ((i : Int) + 1)), (3, zI ((zsum (fun h => cRentN N h (nS N)) i) + (cRentN N (i : Int) (nS N)))), (2, zI ((zsum (fun h => cShN N h (nF N)) i) + (cShN N (i : Int) (nF N)))), (0, zR (B 500)), (1, zI v)]) dX3_addAmounts_43 rfl rfl rfl (by decide) rfl ?_
      refine zF_goto 7 dX3_addAmounts_46 rfl ?_
      exact zF_locs (ls' := [(4, zI ((i + 1 : Nat) : Int)), (3, zI (zsum (fun h => cRentN N h (nS N)) (i + 1))), (2, zI (zsum (fun h => cShN N h (nF N)) (i + 1))), (0, zR (B 500)), (1, zI v)]) ⟨zlI rfl (by first | rfl | omega | (push_cast; omega) | exact congrArg (_ + ·) (zbT (by assumption)) | exact congrArg (_ + ·) (zbF (by assumption)) | exact congrArg (_ + ·) (zbT (by omega)) | exact congrArg (_ + ·) (zbF (by omega)) | exact congrArg (_ + ·) (if_pos (by omega)).symm | exact congrArg (_ + ·) (if_neg (by omega)).symm | exact (if_pos (by omega)).symm | exact (if_neg (by omega)).symm | exact zsub_s (if_pos (by omega)).symm | exact zsub_s0 (if_neg (by omega)).symm | exact zadd0 (if_neg (by omega)).symm | exact zadd0 (zbF (by omega)) | exact (Int.sub_zero _).symm), zlI rfl (by first | rfl | omega | (push_cast; omega) | exact congrArg (_ + ·) (zbT (by assumption)) | exact congrArg (_ + ·) (zbF (by assumption)) | exact congrArg (_ + ·) (zbT (by omega)) | exact congrArg (_ + ·) (zbF (by omega)) | exact congrArg (_ + ·) (if_pos (by omega)).symm | exact congrArg (_ + ·) (if_neg (by omega)).symm | exact (if_pos (by omega)).symm | exact (if_neg (by omega)).symm | exact zsub_s (if_pos (by omega)).symm | exact zsub_s0 (if_neg (by omega)).symm | exact zadd0 (if_neg (by omega)).symm | exact zadd0 (zbF (by omega)) | exact (Int.sub_zero _).symm), zlI rfl (by first | rfl | omega | (push_cast; omega) | exact congrArg (_ + ·) (zbT (by assumption)) | exact congrArg (_ + ·) (zbF (by assumption)) | exact congrArg (_ + ·) (zbT (by omega)) | exact congrArg (_ + ·) (zbF (by omega)) | exact congrArg (_ + ·) (if_pos (by omega)).symm | exact congrArg (_ + ·) (if_neg (by omega)).symm | exact (if_pos (by omega)).symm | exact (if_neg (by omega)).symm | exact zsub_s (if_pos (by omega)).symm | exact zsub_s0 (if_neg (by omega)).symm | exact zadd0 (if_neg (by omega)).symm | exact zadd0 (zbF (by omega)) | exact (Int.sub_zero _).symm), rfl, rfl, trivial⟩ ih7
  · show zF G mX3_addAmounts (d + 5) 7 [(4, zI (((nH N) : Nat) : Int)), (3, zI (zsum (fun h => cRentN N h (nS N)) (nH N))), (2, zI (zsum (fun h => cShN N h (nF N)) (nH N))), (0, zR (B 500)), (1, zI v)] [] σ _
    refine zF_iload 9 dX3_addAmounts_7 rfl rfl ?_
    refine zF_aload_n 10 dX3_addAmounts_9 rfl rfl ?_
    refine zF_getR 13 dX3_addAmounts_10 rfl gX3_15 hC.1 hC.2.1 hC.2.2.1 ?_
    refine zF_getI 16 dX3_addAmounts_13 rfl gX3_71 (by decide) (by decide) hB.ch.1 hB.ch.2.1 hR.c.1.1 ?_
    refine zF_icmp_ge 49 19 dX3_addAmounts_16 rfl rfl (by first | decide | assumption | exact hb _ | exact zb_rg _ | (constructor <;> omega)) (by first | decide | assumption | exact hb _ | exact zb_rg _ | (constructor <;> omega)) (fun c2 => ?_) (fun c2 => ?_)
    · refine zF_aload_n 50 dX3_addAmounts_49 rfl rfl ?_
      refine zF_iconst 51 dX3_addAmounts_50 rfl ?_
      refine zF_iload_n 52 dX3_addAmounts_51 rfl rfl ?_
      refine zF_callV 55 (d2 := (d + 4)) (as := [zI 0, zI v]) dX3_addAmounts_52 rfl kX3_80 iX3_addAmount (ci := 3) rfl eX3_addAmount (Nat.le_refl _) hC.1 hC.2.1 rfl rfl (Nat.le_of_ble_eq_true rfl) (zE.mono (zt_X3_addAmount hB hC hR.s.1.1 (by omega) (by omega) (by omega) (by omega)) fun ro σa1 hh1 => ?_)
      obtain ⟨er1, fr1, p1⟩ := hh1
      subst er1
      refine ⟨fr1.1, ?_⟩
      show zF G mX3_addAmounts (d + 5) 55 [(4, zI (((nH N) : Nat) : Int)), (3, zI (zsum (fun h => cRentN N h (nS N)) (nH N))), (2, zI (zsum (fun h => cShN N h (nF N)) (nH N))), (0, zR (B 500)), (1, zI v)] [] σa1 _
      have ft1 : zFr (fun y _ => y = B 214 ∨ y = B 215) σ σa1 := (zFr.rf : zFr (fun y _ => y = B 214 ∨ y = B 215) σ σ).tr fr1
      have hBa1 := cM_fr hB ft1
      have hCa1 := cCl_fr hC ft1
      have ea1 : ∀ k, k ≤ 213 → zia σa1 (B k) = zia σ (B k) := fun k hk => ft1.at fun _ q => q.elim (fun q => by have := hB.inj _ _ q; omega) (fun q => by have := hB.inj _ _ q; omega)
      refine zF_aload_n 56 dX3_addAmounts_55 rfl rfl ?_
      refine zF_iconst 57 dX3_addAmounts_56 rfl ?_
      refine zF_iload_n 58 dX3_addAmounts_57 rfl rfl ?_
      refine zF_callV 61 (d2 := (d + 4)) (as := [zI 1, zI (zsum (fun h => cShN N h (nF N)) (nH N))]) dX3_addAmounts_58 rfl kX3_80 iX3_addAmount (ci := 3) rfl eX3_addAmount (Nat.le_refl _) hCa1.1 hCa1.2.1 rfl rfl (Nat.le_of_ble_eq_true rfl) (zE.mono (zt_X3_addAmount hBa1 hCa1 ((congrFun (ea1 200 (by omega)) _).trans hR.s.1.1) (by omega) (by omega) (by omega) (by omega)) fun ro σa2 hh2 => ?_)
      obtain ⟨er2, fr2, p2⟩ := hh2
      subst er2
      refine ⟨fr2.1, ?_⟩
      show zF G mX3_addAmounts (d + 5) 61 [(4, zI (((nH N) : Nat) : Int)), (3, zI (zsum (fun h => cRentN N h (nS N)) (nH N))), (2, zI (zsum (fun h => cShN N h (nF N)) (nH N))), (0, zR (B 500)), (1, zI v)] [] σa2 _
      have ft2 : zFr (fun y _ => y = B 214 ∨ y = B 215) σ σa2 := (ft1 : zFr (fun y _ => y = B 214 ∨ y = B 215) σ σa1).tr fr2
      have hBa2 := cM_fr hB ft2
      have hCa2 := cCl_fr hC ft2
      have ea2 : ∀ k, k ≤ 213 → zia σa2 (B k) = zia σ (B k) := fun k hk => ft2.at fun _ q => q.elim (fun q => by have := hB.inj _ _ q; omega) (fun q => by have := hB.inj _ _ q; omega)
      refine zF_aload_n 62 dX3_addAmounts_61 rfl rfl ?_
      refine zF_iconst 63 dX3_addAmounts_62 rfl ?_
      refine zF_iload_n 64 dX3_addAmounts_63 rfl rfl ?_
      refine zF_callV 67 (d2 := (d + 4)) (as := [zI 2, zI (zsum (fun h => cRentN N h (nS N)) (nH N))]) dX3_addAmounts_64 rfl kX3_80 iX3_addAmount (ci := 3) rfl eX3_addAmount (Nat.le_refl _) hCa2.1 hCa2.2.1 rfl rfl (Nat.le_of_ble_eq_true rfl) (zE.mono (zt_X3_addAmount hBa2 hCa2 ((congrFun (ea2 200 (by omega)) _).trans hR.s.1.1) (by omega) (by omega) (by omega) (by omega)) fun ro σa3 hh3 => ?_)
      obtain ⟨er3, fr3, p3⟩ := hh3
      subst er3
      refine ⟨fr3.1, ?_⟩
      show zF G mX3_addAmounts (d + 5) 67 [(4, zI (((nH N) : Nat) : Int)), (3, zI (zsum (fun h => cRentN N h (nS N)) (nH N))), (2, zI (zsum (fun h => cShN N h (nF N)) (nH N))), (0, zR (B 500)), (1, zI v)] [] σa3 _
      have ft3 : zFr (fun y _ => y = B 214 ∨ y = B 215) σ σa3 := (ft2 : zFr (fun y _ => y = B 214 ∨ y = B 215) σ σa2).tr fr3
      have hBa3 := cM_fr hB ft3
      have hCa3 := cCl_fr hC ft3
      have ea3 : ∀ k, k ≤ 213 → zia σa3 (B k) = zia σ (B k) := fun k hk => ft3.at fun _ q => q.elim (fun q => by have := hB.inj _ _ q; omega) (fun q => by have := hB.inj _ _ q; omega)
      refine zF_aload_n 68 dX3_addAmounts_67 rfl rfl ?_
      refine zF_iconst 69 dX3_addAmounts_68 rfl ?_
      refine zF_aload_n 70 dX3_addAmounts_69 rfl rfl ?_
      refine zF_getR 73 dX3_addAmounts_70 rfl gX3_19 hCa3.1 hCa3.2.1 hCa3.2.2.2.1 ?_
      refine zF_getI 76 dX3_addAmounts_73 rfl gX3_65 (by decide) (by decide) hBa3.st.1 hBa3.st.2.1 ((congrFun (ea3 200 (by omega)) _).trans hR.s.1.2.1) ?_
      refine zF_aload_n 77 dX3_addAmounts_76 rfl rfl ?_
      refine zF_getR 80 dX3_addAmounts_77 rfl gX3_19 hCa3.1 hCa3.2.1 hCa3.2.2.2.1 ?_
      refine zF_getI 83 dX3_addAmounts_80 rfl gX3_84 (by decide) (by decide) hBa3.st.1 hBa3.st.2.1 ((congrFun (ea3 200 (by omega)) _).trans hR.s.1.2.2) ?_
      refine zF_imul 84 dX3_addAmounts_83 rfl ?_
      refine zF_callV 87 (d2 := (d + 4)) (as := [zI 3, zI ((N 5) * (N 4))]) dX3_addAmounts_84 rfl kX3_80 iX3_addAmount (ci := 3) rfl eX3_addAmount (Nat.le_refl _) hCa3.1 hCa3.2.1 rfl rfl (Nat.le_of_ble_eq_true rfl) (zE.mono (zt_X3_addAmount hBa3 hCa3 ((congrFun (ea3 200 (by omega)) _).trans hR.s.1.1) (by omega) (by omega) (by omega) (by omega)) fun ro σa4 hh4 => ?_)
      obtain ⟨er4, fr4, p4⟩ := hh4
      subst er4
      refine ⟨fr4.1, ?_⟩
      show zF G mX3_addAmounts (d + 5) 87 [(4, zI (((nH N) : Nat) : Int)), (3, zI (zsum (fun h => cRentN N h (nS N)) (nH N))), (2, zI (zsum (fun h => cShN N h (nF N)) (nH N))), (0, zR (B 500)), (1, zI v)] [] σa4 _
      have ft4 : zFr (fun y _ => y = B 214 ∨ y = B 215) σ σa4 := (ft3 : zFr (fun y _ => y = B 214 ∨ y = B 215) σ σa3).tr fr4
      have hBa4 := cM_fr hB ft4
      have hCa4 := cCl_fr hC ft4
      have ea4 : ∀ k, k ≤ 213 → zia σa4 (B k) = zia σ (B k) := fun k hk => ft4.at fun _ q => q.elim (fun q => by have := hB.inj _ _ q; omega) (fun q => by have := hB.inj _ _ q; omega)
      exact zF_return dX3_addAmounts_87 rfl (⟨rfl, ft4, am4 hB.inj p1 p2 p3 p4 hv rfl (mRent_all hV hW).symm (Int.mul_comm _ _)⟩)
    · exact absurd c2 (by omega)
theorem zt_X3_addFilmTakings (hB : cM σ0 B) (hR : cR N σ0 B) (hV : mV N) (hX : mX N) (hW : mW N) (hQ : mQ N) (m : cMd N σ0 σ B) (hC : cCl σ B) (h12 : ∀ f, 0 ≤ f → f < N 2 → zia σ (B 212) f = mF N f 9) : zE G mX3_addFilmTakings (d + 4) [zR (B 500)] σ (fun ro σ1 => ro = .inl none ∧ zFr (fun y _ => y = B 212) σ σ1 ∧ ∀ f, 0 ≤ f → f < N 2 → zia σ1 (B 212) f = mF N f 9 + cFt N f) := by
  refine zE_of rfl (by simp [zcat]) (Nat.le_of_ble_eq_true rfl) ?_
  show zF G mX3_addFilmTakings (d + 4) 0 [(0, zR (B 500))] [] σ _
  have hb := hV.b
  have hn := hV.n
  have hf0 := nF_eq hV
  have hh0 := nH_eq hV
  have hs0 := nS_eq hV
  refine zF_iconst 1 dX3_addFilmTakings_0 rfl ?_
  refine zF_istore_n 2 (ls' := [(1, zI 0), (0, zR (B 500))]) dX3_addFilmTakings_1 rfl (by decide) rfl ?_
  refine zF_locs (ls' := [(1, zI ((0 : Nat) : Int)), (0, zR (B 500))]) ⟨zlI rfl (by first | rfl | omega | (push_cast; omega) | exact congrArg (_ + ·) (zbT (by assumption)) | exact congrArg (_ + ·) (zbF (by assumption)) | exact congrArg (_ + ·) (zbT (by omega)) | exact congrArg (_ + ·) (zbF (by omega)) | exact congrArg (_ + ·) (if_pos (by omega)).symm | exact congrArg (_ + ·) (if_neg (by omega)).symm | exact (if_pos (by omega)).symm | exact (if_neg (by omega)).symm | exact zsub_s (if_pos (by omega)).symm | exact zsub_s0 (if_neg (by omega)).symm | exact zadd0 (if_neg (by omega)).symm | exact zadd0 (zbF (by omega)) | exact (Int.sub_zero _).symm), rfl, trivial⟩ ?_
  refine zF_while (X := Nat) (fun x => nF N - x) (fun x σ2 => x ≤ nF N ∧ zFr (fun y _ => y = B 212) σ σ2 ∧ ∀ f, 0 ≤ f → f < N 2 → zia σ2 (B 212) f = if f < (x : Int) then mF N f 9 + cFt N f else mF N f 9) (fun x => [(1, zI ((x : Nat) : Int)), (0, zR (B 500))]) ?_ 0 σ (⟨Nat.zero_le _, zFr.rf, fun f a b => by rw [h12 f a b, if_neg (by omega)]⟩)
  intro x σ2 hI2 ih2
  show zF G mX3_addFilmTakings (d + 4) 2 [(1, zI ((x : Nat) : Int)), (0, zR (B 500))] [] σ2 _
  obtain ⟨hx, fr2, i2⟩ := hI2
  have m2 := cMd_212 hB.inj m fr2 (fun f a b => by rw [i2 f a b]; have q1 := cFt_b hV hW a; have q2 := hQ.t f a (by omega); split <;> constructor <;> omega)
  have hBm2 := cM_fr hB m2.1
  have hRm2 := clM_cR hB hR hV m2
  have hVm2 := clM_V hV m2
  have hXm2 := (clM_agr (N := N) (σ := σ2) (B := B)).X hV hX
  have hWm2 := (clM_agr (N := N) (σ := σ2) (B := B)).W hV hW
  have hCm2 := cCl_fr hC fr2
  have ek2 : ∀ k, k ≤ 209 → zia σ2 (B k) = zia σ0 (B k) := fun k hk => PCl_n hB.inj m2.1 (by omega)
  have agm2 : agr N (clM N σ2 B) := clM_agr
  refine zF_iload_n 3 dX3_addFilmTakings_2 rfl rfl ?_
  refine zF_aload_n 4 dX3_addFilmTakings_3 rfl rfl ?_
  refine zF_getR 7 dX3_addFilmTakings_4 rfl gX3_15 hCm2.1 hCm2.2.1 hCm2.2.2.1 ?_
  refine zF_getI 10 dX3_addFilmTakings_7 rfl gX3_90 (by decide) (by decide) hBm2.ch.1 hBm2.ch.2.1 ((congrFun (ek2 100 (by omega)) _).trans hR.c.1.2.2) ?_
  refine zF_icmp_ge 39 13 dX3_addFilmTakings_10 rfl rfl (by first | decide | assumption | exact hb _ | exact zb_rg _ | (constructor <;> omega)) (by first | decide | assumption | exact hb _ | exact zb_rg _ | (constructor <;> omega)) (fun c1 => ?_) (fun c1 => ?_)
  · exact zF_return dX3_addFilmTakings_39 rfl (⟨rfl, fr2, fun f a b => by rw [i2 f a b, if_pos (by omega)]⟩)
  · refine zF_aload_n 14 dX3_addFilmTakings_13 rfl rfl ?_
    refine zF_getR 17 dX3_addFilmTakings_14 rfl gX3_19 hCm2.1 hCm2.2.1 hCm2.2.2.2.1 ?_
    refine zF_getR 20 dX3_addFilmTakings_17 rfl gX3_93 hBm2.st.1 hBm2.st.2.1 (cB_212 hBm2).1 ?_
    refine zF_iload_n 21 dX3_addFilmTakings_20 rfl rfl ?_
    refine zF_dup2 22 dX3_addFilmTakings_21 rfl rfl rfl ?_
    refine zF_iaload 23 dX3_addFilmTakings_22 rfl (cB_212 hBm2).2.2 (cB_212 hBm2).2.1 (by omega) (by omega) ((i2 (x : Int) (by omega) (by omega)).trans (if_neg (by omega))) ?_
    refine zF_aload_n 24 dX3_addFilmTakings_23 rfl rfl ?_
    refine zF_getR 27 dX3_addFilmTakings_24 rfl gX3_23 hCm2.1 hCm2.2.1 hCm2.2.2.2.2.1 ?_
    refine zF_iload_n 28 dX3_addFilmTakings_27 rfl rfl ?_
    refine zF_callVi 31 (d2 := (d + 3)) (as := [zI ((x : Nat) : Int)]) dX3_addFilmTakings_28 rfl kX3_96 iX10_filmTakings (ci := 10) rfl eX10_filmTakings (Nat.le_refl _) hBm2.wk.1 hBm2.wk.2.1 rfl rfl (Nat.le_of_ble_eq_true rfl) ((by have q := zt_X10_filmTakings (G := G) (d := d) (f := (x : Int)) hBm2 hRm2 hVm2 hXm2 (by constructor <;> omega); rw [clM_cFt hV m2] at q; exact q)) ?_
    refine zF_iadd 32 dX3_addFilmTakings_31 rfl ?_
    refine zF_iastore 33 dX3_addFilmTakings_32 rfl (cB_212 hBm2).2.2 (cB_212 hBm2).2.1 (by omega) (by omega) ?_
    refine zF_iinc 36 (ls' := [(1, zI (((x : Nat) : Int) + 1)), (0, zR (B 500))]) dX3_addFilmTakings_33 rfl rfl rfl (by decide) rfl ?_
    refine zF_goto 2 dX3_addFilmTakings_36 rfl ?_
    exact zF_locs (ls' := [(1, zI (((x + 1) : Nat) : Int)), (0, zR (B 500))]) ⟨zlI rfl (by first | rfl | omega | (push_cast; omega) | exact congrArg (_ + ·) (zbT (by assumption)) | exact congrArg (_ + ·) (zbF (by assumption)) | exact congrArg (_ + ·) (zbT (by omega)) | exact congrArg (_ + ·) (zbF (by omega)) | exact congrArg (_ + ·) (if_pos (by omega)).symm | exact congrArg (_ + ·) (if_neg (by omega)).symm | exact (if_pos (by omega)).symm | exact (if_neg (by omega)).symm | exact zsub_s (if_pos (by omega)).symm | exact zsub_s0 (if_neg (by omega)).symm | exact zadd0 (if_neg (by omega)).symm | exact zadd0 (zbF (by omega)) | exact (Int.sub_zero _).symm), rfl, trivial⟩ (ih2 (x + 1) _ (by omega) (⟨by omega, zFr_si rfl fr2, fun f a b => by
          rw [zia_si]
          by_cases c : f = (x : Int)
          · rw [if_pos ⟨rfl, c⟩, if_pos (by omega), c]
          · rw [if_neg (fun q => c q.2), i2 f a b]
            by_cases c2 : f < (x : Int)
            · rw [if_pos c2, if_pos (by omega)]
            · rw [if_neg c2, if_neg (by omega)]⟩))
theorem zt_X3_addRun {h f w : Int} (hB : cM σ B) (hC : cCl σ B) (hw : zia σ (B 200) ((0 : Nat) : Int) = w) (i0 : 0 ≤ h * 6 + f) (i1 : h * 6 + f < 24) (f0 : 0 ≤ f) (f1 : f < 6) (zr : zrg (zia σ (B 210) f)) : zE G mX3_addRun d [zR (B 500), zI h, zI f] σ (fun ro σ1 => ro = .inl none ∧ zFr (fun y _ => y = B 213 ∨ y = B 210) σ σ1 ∧ (∀ j, zia σ1 (B 213) j = if j = h * 6 + f then zia σ (B 213) j + 1 else zia σ (B 213) j) ∧ ∀ j, zia σ1 (B 210) j = if j = f ∧ zia σ (B 210) j = -1 then w else zia σ (B 210) j) := by
  refine zE_of rfl (by simp [zcat]) (Nat.le_of_ble_eq_true rfl) ?_
  show zF G mX3_addRun d 0 [(0, zR (B 500)), (1, zI h), (2, zI f)] [] σ _
  have am_run : ∀ j, zia (zsi σ (B 213) (h * 6 + f) (zia σ (B 213) (h * 6 + f) + 1)) (B 213) j = if j = h * 6 + f then zia σ (B 213) j + 1 else zia σ (B 213) j := fun j => by
    rw [zia_si]
    by_cases c : j = h * 6 + f
    · rw [if_pos ⟨rfl, c⟩, if_pos c, c]
    · rw [if_neg (fun q => c q.2), if_neg c]
  refine zF_aload_n 1 dX3_addRun_0 rfl rfl ?_
  refine zF_getR 4 dX3_addRun_1 rfl gX3_19 hC.1 hC.2.1 hC.2.2.2.1 ?_
  refine zF_getR 7 dX3_addRun_4 rfl gX3_105 hB.st.1 hB.st.2.1 (cB_213 hB).1 ?_
  refine zF_iload_n 8 dX3_addRun_7 rfl rfl ?_
  refine zF_bipush 10 dX3_addRun_8 rfl (by decide) ?_
  refine zF_imul 11 dX3_addRun_10 rfl ?_
  refine zF_iload_n 12 dX3_addRun_11 rfl rfl ?_
  refine zF_iadd 13 dX3_addRun_12 rfl ?_
  refine zF_dup2 14 dX3_addRun_13 rfl rfl rfl ?_
  refine zF_iaload 15 dX3_addRun_14 rfl (cB_213 hB).2.2 (cB_213 hB).2.1 (by omega) (by omega) rfl ?_
  refine zF_iconst 16 dX3_addRun_15 rfl ?_
  refine zF_iadd 17 dX3_addRun_16 rfl ?_
  refine zF_iastore 18 dX3_addRun_17 rfl (cB_213 hB).2.2 (cB_213 hB).2.1 (by omega) (by omega) ?_
  refine zF_aload_n 19 dX3_addRun_18 rfl rfl ?_
  refine zF_getR 22 dX3_addRun_19 rfl gX3_19 hC.1 hC.2.1 hC.2.2.2.1 ?_
  refine zF_getR 25 dX3_addRun_22 rfl gX3_108 hB.st.1 hB.st.2.1 (cB_210 hB).1 ?_
  refine zF_iload_n 26 dX3_addRun_25 rfl rfl ?_
  refine zF_iaload 27 dX3_addRun_26 rfl (cB_210 hB).2.2 (cB_210 hB).2.1 (by omega) (by omega) (zia_N (fun e => absurd (hB.inj _ _ e) (by decide))) ?_
  refine zF_iconst 28 dX3_addRun_27 rfl ?_
  refine zF_icmp_ne 47 31 dX3_addRun_28 rfl rfl (by first | decide | assumption | exact hb _ | exact zb_rg _ | (constructor <;> omega)) (by first | decide | assumption | exact hb _ | exact zb_rg _ | (constructor <;> omega)) (fun c1 => ?_) (fun c1 => ?_)
  · exact zF_return dX3_addRun_47 rfl (⟨rfl, zFr_si (Or.inl rfl) zFr.rf, am_run, fun j => by
        rw [zia_N (fun e => absurd (hB.inj _ _ e) (by decide)), if_neg (fun q => by have q2 := q.2; rw [q.1] at q2; omega)]⟩)
  · refine zF_aload_n 32 dX3_addRun_31 rfl rfl ?_
    refine zF_getR 35 dX3_addRun_32 rfl gX3_19 hC.1 hC.2.1 hC.2.2.2.1 ?_
    refine zF_getR 38 dX3_addRun_35 rfl gX3_108 hB.st.1 hB.st.2.1 (cB_210 hB).1 ?_
    refine zF_iload_n 39 dX3_addRun_38 rfl rfl ?_
    refine zF_aload_n 40 dX3_addRun_39 rfl rfl ?_
    refine zF_getR 43 dX3_addRun_40 rfl gX3_19 hC.1 hC.2.1 hC.2.2.2.1 ?_
    refine zF_getI 46 dX3_addRun_43 rfl gX3_46 (by decide) (by decide) hB.st.1 hB.st.2.1 (zsi_N (fun e => absurd (hB.inj _ _ e) (by decide)) hw) ?_
    refine zF_iastore 47 dX3_addRun_46 rfl (cB_210 hB).2.2 (cB_210 hB).2.1 (by omega) (by omega) ?_
    exact zF_return dX3_addRun_47 rfl (⟨rfl, zFr_si (Or.inr rfl) (zFr_si (Or.inl rfl) zFr.rf), fun j => (zia_N (fun e => absurd (hB.inj _ _ e) (by decide))).trans (am_run j), fun j => by
        rw [zia_si]
        by_cases c : j = f
        · rw [if_pos ⟨rfl, c⟩, if_pos ⟨c, by rw [c]; omega⟩]
        · rw [if_neg (fun q => c q.2), if_neg (fun q => c q.1)]; exact zia_N (fun e => absurd (hB.inj _ _ e) (by decide))⟩)
theorem zt_X3_addRuns (hB : cM σ0 B) (hR : cR N σ0 B) (hV : mV N) (hX : mX N) (hW : mW N) (hQ : mQ N) (m : cMd N σ0 σ B) (hC : cCl σ B) (r0 : rnI N 0 0 σ B) : zE G mX3_addRuns (d + 4) [zR (B 500)] σ (fun ro σ1 => ro = .inl none ∧ zFr (fun y _ => y = B 213 ∨ y = B 210) σ σ1 ∧ rnI N (nH N) 0 σ1 B) := by
  refine zE_of rfl (by simp [zcat]) (Nat.le_of_ble_eq_true rfl) ?_
  show zF G mX3_addRuns (d + 4) 0 [(0, zR (B 500))] [] σ _
  have hb := hV.b
  have hn := hV.n
  have hf0 := nF_eq hV
  have hh0 := nH_eq hV
  have hs0 := nS_eq hV
  refine zF_iconst 1 dX3_addRuns_0 rfl ?_
  refine zF_istore_n 2 (ls' := [(1, zI 0), (0, zR (B 500))]) dX3_addRuns_1 rfl (by decide) rfl ?_
  refine zF_locs (ls' := [(1, zI ((0 : Nat) : Int)), (0, zR (B 500))]) ⟨zlI rfl (by first | rfl | omega | (push_cast; omega) | exact congrArg (_ + ·) (zbT (by assumption)) | exact congrArg (_ + ·) (zbF (by assumption)) | exact congrArg (_ + ·) (zbT (by omega)) | exact congrArg (_ + ·) (zbF (by omega)) | exact congrArg (_ + ·) (if_pos (by omega)).symm | exact congrArg (_ + ·) (if_neg (by omega)).symm | exact (if_pos (by omega)).symm | exact (if_neg (by omega)).symm | exact zsub_s (if_pos (by omega)).symm | exact zsub_s0 (if_neg (by omega)).symm | exact zadd0 (if_neg (by omega)).symm | exact zadd0 (zbF (by omega)) | exact (Int.sub_zero _).symm), rfl, trivial⟩ ?_
  refine zF_while (X := Nat) (fun x => nH N - x) (fun x σ2 => x ≤ nH N ∧ zFr (fun y _ => y = B 213 ∨ y = B 210) σ σ2 ∧ rnI N x 0 σ2 B) (fun x => [(1, zI ((x : Nat) : Int)), (0, zR (B 500))]) ?_ 0 σ (⟨Nat.zero_le _, zFr.rf, r0⟩)
  intro x σ2 hI2 ih2
  show zF G mX3_addRuns (d + 4) 2 [(1, zI ((x : Nat) : Int)), (0, zR (B 500))] [] σ2 _
  obtain ⟨hx, fr2, r2⟩ := hI2
  have m2 := cMd_run hV hQ hB.inj m fr2 r2
  have hBm2 := cM_fr hB m2.1
  have hRm2 := clM_cR hB hR hV m2
  have hVm2 := clM_V hV m2
  have hXm2 := (clM_agr (N := N) (σ := σ2) (B := B)).X hV hX
  have hWm2 := (clM_agr (N := N) (σ := σ2) (B := B)).W hV hW
  have hCm2 := cCl_fr hC fr2
  have ek2 : ∀ k, k ≤ 209 → zia σ2 (B k) = zia σ0 (B k) := fun k hk => PCl_n hB.inj m2.1 (by omega)
  have agm2 : agr N (clM N σ2 B) := clM_agr
  refine zF_iload_n 3 dX3_addRuns_2 rfl rfl ?_
  refine zF_aload_n 4 dX3_addRuns_3 rfl rfl ?_
  refine zF_getR 7 dX3_addRuns_4 rfl gX3_15 hCm2.1 hCm2.2.1 hCm2.2.2.1 ?_
  refine zF_getI 10 dX3_addRuns_7 rfl gX3_71 (by decide) (by decide) hBm2.ch.1 hBm2.ch.2.1 ((congrFun (ek2 100 (by omega)) _).trans hR.c.1.1) ?_
  refine zF_icmp_ge 56 13 dX3_addRuns_10 rfl rfl (by first | decide | assumption | exact hb _ | exact zb_rg _ | (constructor <;> omega)) (by first | decide | assumption | exact hb _ | exact zb_rg _ | (constructor <;> omega)) (fun c1 => ?_) (fun c1 => ?_)
  · exact zF_return dX3_addRuns_56 rfl (⟨rfl, fr2, by rw [show nH N = x by omega]; exact r2⟩)
  · refine zF_iconst 14 dX3_addRuns_13 rfl ?_
    refine zF_istore_n 15 (ls' := [(2, zI 0), (1, zI ((x : Nat) : Int)), (0, zR (B 500))]) dX3_addRuns_14 rfl (by decide) rfl ?_
    refine zF_locs (ls' := [(2, zI ((0 : Nat) : Int)), (1, zI ((x : Nat) : Int)), (0, zR (B 500))]) ⟨zlI rfl (by first | rfl | omega | (push_cast; omega) | exact congrArg (_ + ·) (zbT (by assumption)) | exact congrArg (_ + ·) (zbF (by assumption)) | exact congrArg (_ + ·) (zbT (by omega)) | exact congrArg (_ + ·) (zbF (by omega)) | exact congrArg (_ + ·) (if_pos (by omega)).symm | exact congrArg (_ + ·) (if_neg (by omega)).symm | exact (if_pos (by omega)).symm | exact (if_neg (by omega)).symm | exact zsub_s (if_pos (by omega)).symm | exact zsub_s0 (if_neg (by omega)).symm | exact zadd0 (if_neg (by omega)).symm | exact zadd0 (zbF (by omega)) | exact (Int.sub_zero _).symm), rfl, rfl, trivial⟩ ?_
    refine zF_while (X := Nat) (fun z => nF N - z) (fun z σ3 => z ≤ nF N ∧ zFr (fun y _ => y = B 213 ∨ y = B 210) σ σ3 ∧ rnI N x z σ3 B) (fun z => [(2, zI ((z : Nat) : Int)), (1, zI ((x : Nat) : Int)), (0, zR (B 500))]) ?_ 0 σ2 (⟨Nat.zero_le _, fr2, r2⟩)
    intro z σ3 hI15 ih15
    show zF G mX3_addRuns (d + 4) 15 [(2, zI ((z : Nat) : Int)), (1, zI ((x : Nat) : Int)), (0, zR (B 500))] [] σ3 _
    obtain ⟨hz, fr3, r3⟩ := hI15
    have m3 := cMd_run hV hQ hB.inj m fr3 r3
    have hBm3 := cM_fr hB m3.1
    have hRm3 := clM_cR hB hR hV m3
    have hVm3 := clM_V hV m3
    have hXm3 := (clM_agr (N := N) (σ := σ3) (B := B)).X hV hX
    have hWm3 := (clM_agr (N := N) (σ := σ3) (B := B)).W hV hW
    have hCm3 := cCl_fr hC fr3
    have ek3 : ∀ k, k ≤ 209 → zia σ3 (B k) = zia σ0 (B k) := fun k hk => PCl_n hB.inj m3.1 (by omega)
    have agm3 : agr N (clM N σ3 B) := clM_agr
    refine zF_iload_n 16 dX3_addRuns_15 rfl rfl ?_
    refine zF_aload_n 17 dX3_addRuns_16 rfl rfl ?_
    refine zF_getR 20 dX3_addRuns_17 rfl gX3_15 hCm3.1 hCm3.2.1 hCm3.2.2.1 ?_
    refine zF_getI 23 dX3_addRuns_20 rfl gX3_90 (by decide) (by decide) hBm3.ch.1 hBm3.ch.2.1 ((congrFun (ek3 100 (by omega)) _).trans hR.c.1.2.2) ?_
    refine zF_icmp_ge 50 26 dX3_addRuns_23 rfl rfl (by first | decide | assumption | exact hb _ | exact zb_rg _ | (constructor <;> omega)) (by first | decide | assumption | exact hb _ | exact zb_rg _ | (constructor <;> omega)) (fun c2 => ?_) (fun c2 => ?_)
    · refine zF_iinc 53 (ls' := [(1, zI (((x : Nat) : Int) + 1)), (2, zI ((z : Nat) : Int)), (0, zR (B 500))]) dX3_addRuns_50 rfl rfl rfl (by decide) rfl ?_
      refine zF_goto 2 dX3_addRuns_53 rfl ?_
      exact zF_locs (ls' := [(1, zI (((x + 1) : Nat) : Int)), (0, zR (B 500))]) ⟨zlI rfl (by first | rfl | omega | (push_cast; omega) | exact congrArg (_ + ·) (zbT (by assumption)) | exact congrArg (_ + ·) (zbF (by assumption)) | exact congrArg (_ + ·) (zbT (by omega)) | exact congrArg (_ + ·) (zbF (by omega)) | exact congrArg (_ + ·) (if_pos (by omega)).symm | exact congrArg (_ + ·) (if_neg (by omega)).symm | exact (if_pos (by omega)).symm | exact (if_neg (by omega)).symm | exact zsub_s (if_pos (by omega)).symm | exact zsub_s0 (if_neg (by omega)).symm | exact zadd0 (if_neg (by omega)).symm | exact zadd0 (zbF (by omega)) | exact (Int.sub_zero _).symm), rfl, trivial⟩ (ih2 (x + 1) _ (by omega) (⟨by omega, fr3, rnI_n hV (by have ez : z = nF N := (by omega); rw [ez] at r3; exact r3)⟩))
    · refine zF_aload_n 27 dX3_addRuns_26 rfl rfl ?_
      refine zF_getR 30 dX3_addRuns_27 rfl gX3_23 hCm3.1 hCm3.2.1 hCm3.2.2.2.2.1 ?_
      refine zF_iload_n 31 dX3_addRuns_30 rfl rfl ?_
      refine zF_iload_n 32 dX3_addRuns_31 rfl rfl ?_
      refine zF_callVi 35 (d2 := (d + 3)) (as := [zI ((x : Nat) : Int), zI ((z : Nat) : Int)]) dX3_addRuns_32 rfl kX3_98 iX10_isShownIn (ci := 10) rfl eX10_isShownIn (Nat.le_refl _) hBm3.wk.1 hBm3.wk.2.1 rfl rfl (Nat.le_of_ble_eq_true rfl) ((by have q := zt_X10_isShownIn (G := G) (d := d) (h := (x : Int)) (f := (z : Int)) hBm3 hRm3 hVm3 hXm3 (by constructor <;> omega) (by omega) (by rw [agm3 0 (by omega)]; omega); rw [agm3.need hV] at q; exact q)) ?_
      refine zF_ifb_eq 44 38 dX3_addRuns_35 rfl rfl (fun c3 => ?_) (fun c3 => ?_)
      · refine zF_iinc 47 (ls' := [(2, zI (((z : Nat) : Int) + 1)), (1, zI ((x : Nat) : Int)), (0, zR (B 500))]) dX3_addRuns_44 rfl rfl rfl (by decide) rfl ?_
        refine zF_goto 15 dX3_addRuns_47 rfl ?_
        exact zF_locs (ls' := [(2, zI (((z + 1) : Nat) : Int)), (1, zI ((x : Nat) : Int)), (0, zR (B 500))]) ⟨zlI rfl (by first | rfl | omega | (push_cast; omega) | exact congrArg (_ + ·) (zbT (by assumption)) | exact congrArg (_ + ·) (zbF (by assumption)) | exact congrArg (_ + ·) (zbT (by omega)) | exact congrArg (_ + ·) (zbF (by omega)) | exact congrArg (_ + ·) (if_pos (by omega)).symm | exact congrArg (_ + ·) (if_neg (by omega)).symm | exact (if_pos (by omega)).symm | exact (if_neg (by omega)).symm | exact zsub_s (if_pos (by omega)).symm | exact zsub_s0 (if_neg (by omega)).symm | exact zadd0 (if_neg (by omega)).symm | exact zadd0 (zbF (by omega)) | exact (Int.sub_zero _).symm), rfl, rfl, trivial⟩ (ih15 (z + 1) _ (by omega) (⟨by omega, fr3, rnI_no (by assumption) r3⟩))
      · refine zF_aload_n 39 dX3_addRuns_38 rfl rfl ?_
        refine zF_iload_n 40 dX3_addRuns_39 rfl rfl ?_
        refine zF_iload_n 41 dX3_addRuns_40 rfl rfl ?_
        refine zF_callV 44 (d2 := (d + 3)) (as := [zI ((x : Nat) : Int), zI ((z : Nat) : Int)]) dX3_addRuns_41 rfl kX3_102 iX3_addRun (ci := 3) rfl eX3_addRun (Nat.le_refl _) hCm3.1 hCm3.2.1 rfl rfl (Nat.le_of_ble_eq_true rfl) (zE.mono (zt_X3_addRun (h := (x : Int)) (f := (z : Int)) hBm3 hCm3 ((congrFun (ek3 200 (by omega)) _).trans hR.s.1.1) (by omega) (by omega) (by omega) (by omega) (by rw [r3.2 (z : Int) (by omega) (by omega)]; unfold rbV; have q := clB_r hV (f := (z : Int)) (by omega) (by omega); have qa := q x; have qb := q (x + 1); split <;> constructor <;> omega)) fun ro σa1 hh1 => ?_)
        obtain ⟨er1, fr1, p1⟩ := hh1
        subst er1
        refine ⟨fr1.1, ?_⟩
        show zF G mX3_addRuns (d + 4) 44 [(2, zI ((z : Nat) : Int)), (1, zI ((x : Nat) : Int)), (0, zR (B 500))] [] σa1 _
        refine zF_iinc 47 (ls' := [(2, zI (((z : Nat) : Int) + 1)), (1, zI ((x : Nat) : Int)), (0, zR (B 500))]) dX3_addRuns_44 rfl rfl rfl (by decide) rfl ?_
        refine zF_goto 15 dX3_addRuns_47 rfl ?_
        exact zF_locs (ls' := [(2, zI (((z + 1) : Nat) : Int)), (1, zI ((x : Nat) : Int)), (0, zR (B 500))]) ⟨zlI rfl (by first | rfl | omega | (push_cast; omega) | exact congrArg (_ + ·) (zbT (by assumption)) | exact congrArg (_ + ·) (zbF (by assumption)) | exact congrArg (_ + ·) (zbT (by omega)) | exact congrArg (_ + ·) (zbF (by omega)) | exact congrArg (_ + ·) (if_pos (by omega)).symm | exact congrArg (_ + ·) (if_neg (by omega)).symm | exact (if_pos (by omega)).symm | exact (if_neg (by omega)).symm | exact zsub_s (if_pos (by omega)).symm | exact zsub_s0 (if_neg (by omega)).symm | exact zadd0 (if_neg (by omega)).symm | exact zadd0 (zbF (by omega)) | exact (Int.sub_zero _).symm), rfl, rfl, trivial⟩ (ih15 (z + 1) _ (by omega) (⟨by omega, fr3.tr fr1, rnI_yes (by assumption) (by omega) (by omega) r3 p1.1 p1.2⟩))
theorem zt_X10_fillsWell2 {a : Int} (hB : cM σ B) (hR : cR N σ B) (hV : mV N) (hW : mW N) (hX : mX N) (s0 : 0 ≤ a) (s1 : a < N 1) : zP1 G mX10_fillsWell (d + 2) [zR (B 300), zI a] σ (zb (mHold N a)) := by
  refine zE_of rfl (by simp [zcat]) (Nat.le_of_ble_eq_true rfl) ?_
  show zF G mX10_fillsWell (d + 2) 0 [(0, zR (B 300)), (1, zI a)] [] σ _
  have hb := hV.b
  have hn := hV.n
  have qs := hV.s a s0 (by omega)
  have qw := hW a s0 s1
  have qb := mSh_b hV s0 (by omega) 6
  refine zF_aload_n 1 dX10_fillsWell_0 rfl rfl ?_
  refine zF_getR 4 dX10_fillsWell_1 rfl gX10_22 hB.wk.1 hB.wk.2.1 hB.wk.2.2.2.1 ?_
  refine zF_iload_n 5 dX10_fillsWell_4 rfl rfl ?_
  refine zF_bipush 7 dX10_fillsWell_5 rfl (by decide) ?_
  refine zF_callVi 10 (d2 := (d + 1)) (as := [zI a, zI 6]) dX10_fillsWell_7 rfl kX10_32 iX8_filmOn (ci := 8) rfl eX8_filmOn (Nat.le_refl _) hB.st.1 hB.st.2.1 rfl rfl (Nat.le_of_ble_eq_true rfl) (zt_X8_filmOn hB hR hV hX (by omega) (by omega) (by first | decide | assumption | exact hb _ | exact mSh_rg hb _ _ | exact zb_rg _ | (constructor <;> omega))) ?_
  refine zF_iconst 11 dX10_fillsWell_10 rfl ?_
  refine zF_icmp_ne 16 14 dX10_fillsWell_11 rfl rfl (by first | decide | assumption | exact hb _ | exact mSh_rg hb _ _ | exact zb_rg _ | (constructor <;> omega)) (by first | decide | assumption | exact hb _ | exact mSh_rg hb _ _ | exact zb_rg _ | (constructor <;> omega)) (fun c1 => ?_) (fun c1 => ?_)
  · refine zF_aload_n 17 dX10_fillsWell_16 rfl rfl ?_
    refine zF_getR 20 dX10_fillsWell_17 rfl gX10_22 hB.wk.1 hB.wk.2.1 hB.wk.2.2.2.1 ?_
    refine zF_getR 23 dX10_fillsWell_20 rfl gX10_112 hB.st.1 hB.st.2.1 (cB_208 hB).1 ?_
    refine zF_iload_n 24 dX10_fillsWell_23 rfl rfl ?_
    refine zF_iaload 25 dX10_fillsWell_24 rfl (cB_208 hB).2.2 (cB_208 hB).2.1 (by omega) (by omega) (hR.s.2.2.1 _ (by omega) (by omega)).2.2.2.1 ?_
    refine zF_istore_n 26 (ls' := [(2, zI (mS N a 6)), (0, zR (B 300)), (1, zI a)]) dX10_fillsWell_25 rfl (by decide) rfl ?_
    refine zF_aload_n 27 dX10_fillsWell_26 rfl rfl ?_
    refine zF_getR 30 dX10_fillsWell_27 rfl gX10_18 hB.wk.1 hB.wk.2.1 hB.wk.2.2.1 ?_
    refine zF_iload_n 31 dX10_fillsWell_30 rfl rfl ?_
    refine zF_callVi 34 (d2 := (d + 1)) (as := [zI a]) dX10_fillsWell_31 rfl kX10_67 iX1_priceAt (ci := 1) rfl eX1_priceAt (Nat.le_refl _) hB.ch.1 hB.ch.2.1 rfl rfl (Nat.le_of_ble_eq_true rfl) (zt_X1_priceAt hB hR hV hW (by omega) (by omega)) ?_
    refine zF_istore_n 35 (ls' := [(3, zI (mPrice N a)), (2, zI (mS N a 6)), (0, zR (B 300)), (1, zI a)]) dX10_fillsWell_34 rfl (by decide) rfl ?_
    refine zF_aload_n 36 dX10_fillsWell_35 rfl rfl ?_
    refine zF_iload_n 37 dX10_fillsWell_36 rfl rfl ?_
    refine zF_iload_n 38 dX10_fillsWell_37 rfl rfl ?_
    refine zF_callVi 41 (d2 := (d + 1)) (as := [zI a, zI (mS N a 6)]) dX10_fillsWell_38 rfl kX10_70 iX10_visitorsSince (ci := 10) rfl eX10_visitorsSince (Nat.le_refl _) hB.wk.1 hB.wk.2.1 rfl rfl (Nat.le_of_ble_eq_true rfl) (zt_X10_visitorsSince hB hR hV (by omega) (by omega) (by omega) (by omega)) ?_
    refine zF_iload_n 42 dX10_fillsWell_41 rfl rfl ?_
    refine zF_imul 43 dX10_fillsWell_42 rfl ?_
    refine zF_istore 45 (ls' := [(4, zI ((vSn N a (mS N a 6) (7 - (mS N a 6)).toNat) * (mPrice N a))), (3, zI (mPrice N a)), (2, zI (mS N a 6)), (0, zR (B 300)), (1, zI a)]) dX10_fillsWell_43 rfl (by decide) rfl ?_
    refine zF_aload_n 46 dX10_fillsWell_45 rfl rfl ?_
    refine zF_getR 49 dX10_fillsWell_46 rfl gX10_18 hB.wk.1 hB.wk.2.1 hB.wk.2.2.1 ?_
    refine zF_iload_n 50 dX10_fillsWell_49 rfl rfl ?_
    refine zF_callVi 53 (d2 := (d + 1)) (as := [zI a]) dX10_fillsWell_50 rfl kX10_52 iX1_capacityOf (ci := 1) rfl eX1_capacityOf (Nat.le_refl _) hB.ch.1 hB.ch.2.1 rfl rfl (Nat.le_of_ble_eq_true rfl) (zt_X1_capacityOf hB hR hV (by omega) (by omega)) ?_
    refine zF_iload_n 54 dX10_fillsWell_53 rfl rfl ?_
    refine zF_imul 55 dX10_fillsWell_54 rfl ?_
    refine zF_bipush 57 dX10_fillsWell_55 rfl (by decide) ?_
    refine zF_iload_n 58 dX10_fillsWell_57 rfl rfl ?_
    refine zF_isub 59 dX10_fillsWell_58 rfl ?_
    refine zF_imul 60 dX10_fillsWell_59 rfl ?_
    refine zF_istore 62 (ls' := [(5, zI (((mCap N a) * (mPrice N a)) * (7 - (mS N a 6)))), (4, zI ((vSn N a (mS N a 6) (7 - (mS N a 6)).toNat) * (mPrice N a))), (3, zI (mPrice N a)), (2, zI (mS N a 6)), (0, zR (B 300)), (1, zI a)]) dX10_fillsWell_60 rfl (by decide) rfl ?_
    refine zF_iload 64 dX10_fillsWell_62 rfl rfl ?_
    refine zF_bipush 66 dX10_fillsWell_64 rfl (by decide) ?_
    refine zF_imul 67 dX10_fillsWell_66 rfl ?_
    refine zF_aload_n 68 dX10_fillsWell_67 rfl rfl ?_
    refine zF_getR 71 dX10_fillsWell_68 rfl gX10_22 hB.wk.1 hB.wk.2.1 hB.wk.2.2.2.1 ?_
    refine zF_getR 74 dX10_fillsWell_71 rfl gX10_115 hB.st.1 hB.st.2.1 (cB_203 hB).1 ?_
    refine zF_aload_n 75 dX10_fillsWell_74 rfl rfl ?_
    refine zF_getR 78 dX10_fillsWell_75 rfl gX10_18 hB.wk.1 hB.wk.2.1 hB.wk.2.2.1 ?_
    refine zF_getR 81 dX10_fillsWell_78 rfl gX10_64 hB.ch.1 hB.ch.2.1 (cB_104 hB).1 ?_
    refine zF_iload_n 82 dX10_fillsWell_81 rfl rfl ?_
    refine zF_iaload 83 dX10_fillsWell_82 rfl (cB_104 hB).2.2 (cB_104 hB).2.1 (by omega) (by omega) (hR.c.2.2.1 _ (by omega) (by omega)).1 ?_
    refine zF_iaload 84 dX10_fillsWell_83 rfl (cB_203 hB).2.2 (cB_203 hB).2.1 (by omega) (by omega) (hR.s.2.1 _ (by omega) (by omega)).1 ?_
    refine zF_iload 86 dX10_fillsWell_84 rfl rfl ?_
    refine zF_imul 87 dX10_fillsWell_86 rfl ?_
    have qv := vSn_b hV s0 (by omega) (mS N a 6) (7 - mS N a 6).toNat
    have qc := mCap_b hV s0 (by omega)
    have qp := mPrice_b hV s0 (by omega)
    have qh := mH_b hV s0 (by omega)
    have qx := (hold_b qh (b := 7 - mS N a 6) (by omega) qc qp).2
    have qm := zmul_b qv.1 (Y := 99) (X := 21000) (by omega) qp.1 qp.2
    refine zF_icmp_lt 94 90 dX10_fillsWell_87 rfl rfl (by first | decide | assumption | exact hb _ | exact mSh_rg hb _ _ | exact zb_rg _ | (constructor <;> omega)) (by first | decide | assumption | exact hb _ | exact mSh_rg hb _ _ | exact zb_rg _ | (constructor <;> omega)) (fun c2 => ?_) (fun c2 => ?_)
    · refine zF_iconst 95 dX10_fillsWell_94 rfl ?_
      exact zF_zretP dX10_fillsWell_95 rfl (by decide) (by first | exact zbT ⟨by assumption, by omega⟩ | exact zbF (fun z => by have := z.1; have := z.2; omega))
    · refine zF_iconst 91 dX10_fillsWell_90 rfl ?_
      refine zF_goto 95 dX10_fillsWell_91 rfl ?_
      exact zF_zretP dX10_fillsWell_95 rfl (by decide) (by first | exact zbT ⟨by assumption, by omega⟩ | exact zbF (fun z => by have := z.1; have := z.2; omega))
  · refine zF_iconst 15 dX10_fillsWell_14 rfl ?_
    exact zF_zretP dX10_fillsWell_15 rfl (by decide) (by first | exact zbT ⟨by assumption, by omega⟩ | exact zbF (fun z => by have := z.1; have := z.2; omega))
theorem hb_0 {y : Nat} (h : hFl N y = -1) : (0 : Int) = zb (mHold N y) := by
  refine zbF fun c => ?_
  rw [show hFl N y = mSh N y 6 from if_pos c] at h
  exact c.1 h
theorem hb_1 {y : Nat} (h : ¬ hFl N y = -1) : (1 : Int) = zb (mHold N y) := zbT (hFl_p h).1
theorem zt_X3_holdScreens (hB : cM σ0 B) (hR : cR N σ0 B) (hV : mV N) (hX : mX N) (hW : mW N) (hQ : mQ N) (m : cMd N σ0 σ B) (hC : cCl σ B) : zE G mX3_holdScreens (d + 4) [zR (B 500)] σ (fun ro σ3 => ro = .inl none ∧ zFr (fun y _ => y = B 206 ∨ y = B 207 ∨ y = B 208 ∨ y = B 209 ∨ y = B 503) σ σ3 ∧ ∀ s : Nat, s < nS N → zia σ3 (B 206) s = hFl N s ∧ zia σ3 (B 207) s = -1 ∧ zia σ3 (B 208) s = 0 ∧ zia σ3 (B 209) s = zb (mHold N s)) := by
  refine zE_of rfl (by simp [zcat]) (Nat.le_of_ble_eq_true rfl) ?_
  show zF G mX3_holdScreens (d + 4) 0 [(0, zR (B 500))] [] σ _
  have hb := hV.b
  have hn := hV.n
  have hf0 := nF_eq hV
  have hh0 := nH_eq hV
  have hs0 := nS_eq hV
  refine zF_iconst 1 dX3_holdScreens_0 rfl ?_
  refine zF_istore_n 2 (ls' := [(1, zI 0), (0, zR (B 500))]) dX3_holdScreens_1 rfl (by decide) rfl ?_
  refine zF_locs (ls' := [(1, zI ((0 : Nat) : Int)), (0, zR (B 500))]) ⟨zlI rfl (by first | rfl | omega | (push_cast; omega) | exact congrArg (_ + ·) (zbT (by assumption)) | exact congrArg (_ + ·) (zbF (by assumption)) | exact congrArg (_ + ·) (zbT (by omega)) | exact congrArg (_ + ·) (zbF (by omega)) | exact congrArg (_ + ·) (if_pos (by omega)).symm | exact congrArg (_ + ·) (if_neg (by omega)).symm | exact (if_pos (by omega)).symm | exact (if_neg (by omega)).symm | exact zsub_s (if_pos (by omega)).symm | exact zsub_s0 (if_neg (by omega)).symm | exact zadd0 (if_neg (by omega)).symm | exact zadd0 (zbF (by omega)) | exact (Int.sub_zero _).symm), rfl, trivial⟩ ?_
  refine zF_while (X := Nat) (fun x => nS N - x) (fun x σ2 => x ≤ nS N ∧ zFr (fun y _ => y = B 503) σ σ2 ∧ ∀ s : Nat, s < x → zia σ2 (B 503) s = hFl N s) (fun x => [(1, zI ((x : Nat) : Int)), (0, zR (B 500))]) ?_ 0 σ (⟨Nat.zero_le _, zFr.rf, fun s hs => absurd hs (Nat.not_lt_zero _)⟩)
  intro x σ2 hI2 ih2
  show zF G mX3_holdScreens (d + 4) 2 [(1, zI ((x : Nat) : Int)), (0, zR (B 500))] [] σ2 _
  obtain ⟨hx, fr2, i2⟩ := hI2
  have m2 := cMd_503 hB.inj m fr2
  have hBm2 := cM_fr hB m2.1
  have hRm2 := clM_cR hB hR hV m2
  have hVm2 := clM_V hV m2
  have hXm2 := (clM_agr (N := N) (σ := σ2) (B := B)).X hV hX
  have hWm2 := (clM_agr (N := N) (σ := σ2) (B := B)).W hV hW
  have hCm2 := cCl_fr hC fr2
  have ek2 : ∀ k, k ≤ 209 → zia σ2 (B k) = zia σ0 (B k) := fun k hk => PCl_n hB.inj m2.1 (by omega)
  have agm2 : agr N (clM N σ2 B) := clM_agr
  refine zF_iload_n 3 dX3_holdScreens_2 rfl rfl ?_
  refine zF_aload_n 4 dX3_holdScreens_3 rfl rfl ?_
  refine zF_getR 7 dX3_holdScreens_4 rfl gX3_15 hCm2.1 hCm2.2.1 hCm2.2.2.1 ?_
  refine zF_getI 10 dX3_holdScreens_7 rfl gX3_52 (by decide) (by decide) hBm2.ch.1 hBm2.ch.2.1 ((congrFun (ek2 100 (by omega)) _).trans hR.c.1.2.1) ?_
  refine zF_icmp_ge 50 13 dX3_holdScreens_10 rfl rfl (by first | decide | assumption | exact hb _ | exact zb_rg _ | (constructor <;> omega)) (by first | decide | assumption | exact hb _ | exact zb_rg _ | (constructor <;> omega)) (fun c1 => ?_) (fun c1 => ?_)
  · refine zF_iconst 51 dX3_holdScreens_50 rfl ?_
    refine zF_istore_n 52 (ls' := [(1, zI 0), (0, zR (B 500))]) dX3_holdScreens_51 rfl (by decide) rfl ?_
    refine zF_locs (ls' := [(1, zI ((0 : Nat) : Int)), (0, zR (B 500))]) ⟨zlI rfl (by first | rfl | omega | (push_cast; omega) | exact congrArg (_ + ·) (zbT (by assumption)) | exact congrArg (_ + ·) (zbF (by assumption)) | exact congrArg (_ + ·) (zbT (by omega)) | exact congrArg (_ + ·) (zbF (by omega)) | exact congrArg (_ + ·) (if_pos (by omega)).symm | exact congrArg (_ + ·) (if_neg (by omega)).symm | exact (if_pos (by omega)).symm | exact (if_neg (by omega)).symm | exact zsub_s (if_pos (by omega)).symm | exact zsub_s0 (if_neg (by omega)).symm | exact zadd0 (if_neg (by omega)).symm | exact zadd0 (zbF (by omega)) | exact (Int.sub_zero _).symm), rfl, trivial⟩ ?_
    refine zF_while (X := Nat) (fun x => nS N - x) (fun x σ3 => x ≤ nS N ∧ zFr (fun y _ => y = B 206 ∨ y = B 207 ∨ y = B 208 ∨ y = B 209 ∨ y = B 503) σ σ3 ∧ (∀ s : Nat, s < nS N → zia σ3 (B 503) s = hFl N s) ∧ ∀ s : Nat, s < x → zia σ3 (B 206) s = hFl N s ∧ zia σ3 (B 207) s = -1 ∧ zia σ3 (B 208) s = 0 ∧ zia σ3 (B 209) s = zb (mHold N s)) (fun x => [(1, zI ((x : Nat) : Int)), (0, zR (B 500))]) ?_ 0 σ2 (⟨Nat.zero_le _, fr2.wk fun _ _ q => Or.inr (Or.inr (Or.inr (Or.inr q))), fun s hs => i2 s (by omega), fun s hs => absurd hs (Nat.not_lt_zero _)⟩)
    intro y σ3 hI52 ih52
    show zF G mX3_holdScreens (d + 4) 52 [(1, zI ((y : Nat) : Int)), (0, zR (B 500))] [] σ3 _
    obtain ⟨hy, fr3, p503, p3⟩ := hI52
    have hB3 := cM_fr (cM_fr hB m.1) fr3
    have hCm3 := cCl_fr hC fr3
    have ek3 : ∀ k, k ≤ 205 → zia σ3 (B k) = zia σ0 (B k) := fun k hk => (fr3.at fun _ q => by rcases q with q | q | q | q | q <;> (have := hB.inj _ _ q; omega)).trans (PCl_n hB.inj m.1 (by omega))
    refine zF_iload_n 53 dX3_holdScreens_52 rfl rfl ?_
    refine zF_aload_n 54 dX3_holdScreens_53 rfl rfl ?_
    refine zF_getR 57 dX3_holdScreens_54 rfl gX3_15 hCm3.1 hCm3.2.1 hCm3.2.2.1 ?_
    refine zF_getI 60 dX3_holdScreens_57 rfl gX3_52 (by decide) (by decide) hB3.ch.1 hB3.ch.2.1 ((congrFun (ek3 100 (by omega)) _).trans hR.c.1.2.1) ?_
    refine zF_icmp_ge 109 63 dX3_holdScreens_60 rfl rfl (by first | decide | assumption | exact hb _ | exact zb_rg _ | (constructor <;> omega)) (by first | decide | assumption | exact hb _ | exact zb_rg _ | (constructor <;> omega)) (fun c2 => ?_) (fun c2 => ?_)
    · exact zF_return dX3_holdScreens_109 rfl (⟨rfl, fr3, fun s hs => p3 s (by omega)⟩)
    · refine zF_aload_n 64 dX3_holdScreens_63 rfl rfl ?_
      refine zF_getR 67 dX3_holdScreens_64 rfl gX3_19 hCm3.1 hCm3.2.1 hCm3.2.2.2.1 ?_
      refine zF_iload_n 68 dX3_holdScreens_67 rfl rfl ?_
      refine zF_aload_n 69 dX3_holdScreens_68 rfl rfl ?_
      refine zF_getR 72 dX3_holdScreens_69 rfl gX3_9 hCm3.1 hCm3.2.1 hCm3.2.2.2.2.2.1 ?_
      have qh := hFl_b hV (s := (y : Int)) (by omega) (by omega)
      refine zF_iload_n 73 dX3_holdScreens_72 rfl rfl ?_
      refine zF_iaload 74 dX3_holdScreens_73 rfl hCm3.2.2.2.2.2.2.2 hCm3.2.2.2.2.2.2.1 (by omega) (by omega) (p503 y (by omega)) ?_
      refine zF_iconst 75 dX3_holdScreens_74 rfl ?_
      refine zF_iconst 76 dX3_holdScreens_75 rfl ?_
      refine zF_callV 79 (d2 := (d + 3)) (as := [zI ((y : Nat) : Int), zI (hFl N (y : Int)), zI (-1), zI 0]) dX3_holdScreens_76 rfl kX3_119 iX8_setBooking (ci := 8) rfl eX8_setBooking (Nat.le_refl _) hB3.st.1 hB3.st.2.1 rfl rfl (Nat.le_of_ble_eq_true rfl) (zE.mono (zt_X8_setBooking hB3 (by omega) (by omega)) fun ro σx1 hh1 => ?_)
      obtain ⟨er1, es1⟩ := hh1
      subst er1
      subst es1
      refine ⟨rfl, ?_⟩
      refine zF_aload_n 80 dX3_holdScreens_79 rfl rfl ?_
      refine zF_getR 83 dX3_holdScreens_80 rfl gX3_19 hCm3.1 hCm3.2.1 hCm3.2.2.2.1 ?_
      refine zF_getR 86 dX3_holdScreens_83 rfl gX3_123 hB3.st.1 hB3.st.2.1 (cB_209 hB3).1 ?_
      refine zF_iload_n 87 dX3_holdScreens_86 rfl rfl ?_
      refine zF_aload_n 88 dX3_holdScreens_87 rfl rfl ?_
      refine zF_getR 91 dX3_holdScreens_88 rfl gX3_9 hCm3.1 hCm3.2.1 hCm3.2.2.2.2.2.1 ?_
      refine zF_iload_n 92 dX3_holdScreens_91 rfl rfl ?_
      refine zF_iaload 93 dX3_holdScreens_92 rfl hCm3.2.2.2.2.2.2.2 hCm3.2.2.2.2.2.2.1 (by omega) (by omega) (zsi_N (fun e => absurd (hB.inj _ _ e) (by decide)) (zsi_N (fun e => absurd (hB.inj _ _ e) (by decide)) (zsi_N (fun e => absurd (hB.inj _ _ e) (by decide)) (p503 y (by omega))))) ?_
      refine zF_iconst 94 dX3_holdScreens_93 rfl ?_
      refine zF_icmp_ne 101 97 dX3_holdScreens_94 rfl rfl (by first | decide | assumption | exact hb _ | exact zb_rg _ | (constructor <;> omega)) (by first | decide | assumption | exact hb _ | exact zb_rg _ | (constructor <;> omega)) (fun c3 => ?_) (fun c3 => ?_)
      · refine zF_iconst 102 dX3_holdScreens_101 rfl ?_
        refine zF_iastore 103 dX3_holdScreens_102 rfl (cB_209 hB3).2.2 (cB_209 hB3).2.1 (by omega) (by omega) ?_
        refine zF_iinc 106 (ls' := [(1, zI (((y : Nat) : Int) + 1)), (0, zR (B 500))]) dX3_holdScreens_103 rfl rfl rfl (by decide) rfl ?_
        refine zF_goto 52 dX3_holdScreens_106 rfl ?_
        exact zF_locs (ls' := [(1, zI (((y + 1) : Nat) : Int)), (0, zR (B 500))]) ⟨zlI rfl (by first | rfl | omega | (push_cast; omega) | exact congrArg (_ + ·) (zbT (by assumption)) | exact congrArg (_ + ·) (zbF (by assumption)) | exact congrArg (_ + ·) (zbT (by omega)) | exact congrArg (_ + ·) (zbF (by omega)) | exact congrArg (_ + ·) (if_pos (by omega)).symm | exact congrArg (_ + ·) (if_neg (by omega)).symm | exact (if_pos (by omega)).symm | exact (if_neg (by omega)).symm | exact zsub_s (if_pos (by omega)).symm | exact zsub_s0 (if_neg (by omega)).symm | exact zadd0 (if_neg (by omega)).symm | exact zadd0 (zbF (by omega)) | exact (Int.sub_zero _).symm), rfl, trivial⟩ (ih52 (y + 1) _ (by omega) (⟨by omega, zFr_si (Or.inr (Or.inr (Or.inr (Or.inl rfl)))) (zFr_si (Or.inr (Or.inr (Or.inl rfl))) (zFr_si (Or.inr (Or.inl rfl)) (zFr_si (Or.inl rfl) fr3))), fun s hs => (zia_N (fun e => absurd (hB.inj _ _ e) (by decide))).trans ((zia_N (fun e => absurd (hB.inj _ _ e) (by decide))).trans ((zia_N (fun e => absurd (hB.inj _ _ e) (by decide))).trans ((zia_N (fun e => absurd (hB.inj _ _ e) (by decide))).trans (p503 s hs)))), hs_step hB.inj p3 rfl (hb_1 (by omega))⟩))
      · refine zF_iconst 98 dX3_holdScreens_97 rfl ?_
        refine zF_goto 102 dX3_holdScreens_98 rfl ?_
        refine zF_iastore 103 dX3_holdScreens_102 rfl (cB_209 hB3).2.2 (cB_209 hB3).2.1 (by omega) (by omega) ?_
        refine zF_iinc 106 (ls' := [(1, zI (((y : Nat) : Int) + 1)), (0, zR (B 500))]) dX3_holdScreens_103 rfl rfl rfl (by decide) rfl ?_
        refine zF_goto 52 dX3_holdScreens_106 rfl ?_
        exact zF_locs (ls' := [(1, zI (((y + 1) : Nat) : Int)), (0, zR (B 500))]) ⟨zlI rfl (by first | rfl | omega | (push_cast; omega) | exact congrArg (_ + ·) (zbT (by assumption)) | exact congrArg (_ + ·) (zbF (by assumption)) | exact congrArg (_ + ·) (zbT (by omega)) | exact congrArg (_ + ·) (zbF (by omega)) | exact congrArg (_ + ·) (if_pos (by omega)).symm | exact congrArg (_ + ·) (if_neg (by omega)).symm | exact (if_pos (by omega)).symm | exact (if_neg (by omega)).symm | exact zsub_s (if_pos (by omega)).symm | exact zsub_s0 (if_neg (by omega)).symm | exact zadd0 (if_neg (by omega)).symm | exact zadd0 (zbF (by omega)) | exact (Int.sub_zero _).symm), rfl, trivial⟩ (ih52 (y + 1) _ (by omega) (⟨by omega, zFr_si (Or.inr (Or.inr (Or.inr (Or.inl rfl)))) (zFr_si (Or.inr (Or.inr (Or.inl rfl))) (zFr_si (Or.inr (Or.inl rfl)) (zFr_si (Or.inl rfl) fr3))), fun s hs => (zia_N (fun e => absurd (hB.inj _ _ e) (by decide))).trans ((zia_N (fun e => absurd (hB.inj _ _ e) (by decide))).trans ((zia_N (fun e => absurd (hB.inj _ _ e) (by decide))).trans ((zia_N (fun e => absurd (hB.inj _ _ e) (by decide))).trans (p503 s hs)))), hs_step hB.inj p3 rfl (hb_0 (by omega))⟩))
  · refine zF_aload_n 14 dX3_holdScreens_13 rfl rfl ?_
    refine zF_getR 17 dX3_holdScreens_14 rfl gX3_9 hCm2.1 hCm2.2.1 hCm2.2.2.2.2.2.1 ?_
    refine zF_iload_n 18 dX3_holdScreens_17 rfl rfl ?_
    refine zF_aload_n 19 dX3_holdScreens_18 rfl rfl ?_
    refine zF_getR 22 dX3_holdScreens_19 rfl gX3_23 hCm2.1 hCm2.2.1 hCm2.2.2.2.2.1 ?_
    refine zF_iload_n 23 dX3_holdScreens_22 rfl rfl ?_
    refine zF_callVi 26 (d2 := (d + 3)) (as := [zI ((x : Nat) : Int)]) dX3_holdScreens_23 rfl kX3_111 iX10_fillsWell (ci := 10) rfl eX10_fillsWell (Nat.le_refl _) hBm2.wk.1 hBm2.wk.2.1 rfl rfl (Nat.le_of_ble_eq_true rfl) ((by have q := zt_X10_fillsWell2 (G := G) (d := d + 1) (a := (x : Int)) hBm2 hRm2 hVm2 hWm2 hXm2 (by omega) (by rw [agm2 1 (by omega)]; omega); rw [zb_congr (clM_hold hV m2 (s := (x : Int)) (by omega) (by omega))] at q; exact q)) ?_
    refine zF_ifb_eq 42 29 dX3_holdScreens_26 rfl rfl (fun c4 => ?_) (fun c4 => ?_)
    · refine zF_iconst 43 dX3_holdScreens_42 rfl ?_
      refine zF_iastore 44 dX3_holdScreens_43 rfl hCm2.2.2.2.2.2.2.2 hCm2.2.2.2.2.2.2.1 (by omega) (by omega) ?_
      refine zF_iinc 47 (ls' := [(1, zI (((x : Nat) : Int) + 1)), (0, zR (B 500))]) dX3_holdScreens_44 rfl rfl rfl (by decide) rfl ?_
      refine zF_goto 2 dX3_holdScreens_47 rfl ?_
      exact zF_locs (ls' := [(1, zI (((x + 1) : Nat) : Int)), (0, zR (B 500))]) ⟨zlI rfl (by first | rfl | omega | (push_cast; omega) | exact congrArg (_ + ·) (zbT (by assumption)) | exact congrArg (_ + ·) (zbF (by assumption)) | exact congrArg (_ + ·) (zbT (by omega)) | exact congrArg (_ + ·) (zbF (by omega)) | exact congrArg (_ + ·) (if_pos (by omega)).symm | exact congrArg (_ + ·) (if_neg (by omega)).symm | exact (if_pos (by omega)).symm | exact (if_neg (by omega)).symm | exact zsub_s (if_pos (by omega)).symm | exact zsub_s0 (if_neg (by omega)).symm | exact zadd0 (if_neg (by omega)).symm | exact zadd0 (zbF (by omega)) | exact (Int.sub_zero _).symm), rfl, trivial⟩ (ih2 (x + 1) _ (by omega) (⟨by omega, zFr_si rfl fr2, fun s hs => by
          rw [zia_si]
          by_cases c : s = x
          · subst c; rw [if_pos ⟨rfl, rfl⟩]; first | exact (if_pos (by assumption)).symm | exact (if_neg (by assumption)).symm
          · rw [if_neg (fun q => c (by have := q.2; omega))]; exact i2 s (by omega)⟩))
    · refine zF_aload_n 30 dX3_holdScreens_29 rfl rfl ?_
      refine zF_getR 33 dX3_holdScreens_30 rfl gX3_19 hCm2.1 hCm2.2.1 hCm2.2.2.2.1 ?_
      refine zF_iload_n 34 dX3_holdScreens_33 rfl rfl ?_
      refine zF_bipush 36 dX3_holdScreens_34 rfl (by decide) ?_
      refine zF_callVi 39 (d2 := (d + 3)) (as := [zI ((x : Nat) : Int), zI 6]) dX3_holdScreens_36 rfl kX3_115 iX8_filmOn (ci := 8) rfl eX8_filmOn (Nat.le_refl _) hBm2.st.1 hBm2.st.2.1 rfl rfl (Nat.le_of_ble_eq_true rfl) ((by have q := zt_X8_filmOn (G := G) (d := d + 3) (a := (x : Int)) (b := 6) hBm2 hRm2 hVm2 hXm2 (by omega) (by rw [agm2 1 (by omega)]; omega) (by decide); rw [agm2.sh (by omega)] at q; exact q)) ?_
      refine zF_goto 43 dX3_holdScreens_39 rfl ?_
      refine zF_iastore 44 dX3_holdScreens_43 rfl hCm2.2.2.2.2.2.2.2 hCm2.2.2.2.2.2.2.1 (by omega) (by omega) ?_
      refine zF_iinc 47 (ls' := [(1, zI (((x : Nat) : Int) + 1)), (0, zR (B 500))]) dX3_holdScreens_44 rfl rfl rfl (by decide) rfl ?_
      refine zF_goto 2 dX3_holdScreens_47 rfl ?_
      exact zF_locs (ls' := [(1, zI (((x + 1) : Nat) : Int)), (0, zR (B 500))]) ⟨zlI rfl (by first | rfl | omega | (push_cast; omega) | exact congrArg (_ + ·) (zbT (by assumption)) | exact congrArg (_ + ·) (zbF (by assumption)) | exact congrArg (_ + ·) (zbT (by omega)) | exact congrArg (_ + ·) (zbF (by omega)) | exact congrArg (_ + ·) (if_pos (by omega)).symm | exact congrArg (_ + ·) (if_neg (by omega)).symm | exact (if_pos (by omega)).symm | exact (if_neg (by omega)).symm | exact zsub_s (if_pos (by omega)).symm | exact zsub_s0 (if_neg (by omega)).symm | exact zadd0 (if_neg (by omega)).symm | exact zadd0 (zbF (by omega)) | exact (Int.sub_zero _).symm), rfl, trivial⟩ (ih2 (x + 1) _ (by omega) (⟨by omega, zFr_si rfl fr2, fun s hs => by
          rw [zia_si]
          by_cases c : s = x
          · subst c; rw [if_pos ⟨rfl, rfl⟩]; first | exact (if_pos (by assumption)).symm | exact (if_neg (by assumption)).symm
          · rw [if_neg (fun q => c (by have := q.2; omega))]; exact i2 s (by omega)⟩))
end ZC16

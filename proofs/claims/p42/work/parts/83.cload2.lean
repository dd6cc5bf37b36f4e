/-! the class: load -/
section ZCW
variable {G : zG} {d : Nat} {σ σ0 σ1 : zMem} {B : Nat → Nat} {N f : Int → Int} {t : Int → Int} {L : Nat} {s : tS}
theorem Bne (hi : ∀ i j, B i = B j → i = j) {i j : Nat} (h : i ≠ j) : B i ≠ B j := fun e => h (hi _ _ e)
theorem zt_X11_checkLength {n m : Int} (hG : zGd G) (hO : cO σ B) {b : Int} (hb1 : zia σ (B 0) ((1 : Nat) : Int) = b) (b0 : 0 ≤ b) (b1 : b ≤ 700) (zn : zrg n) (zm : zrg m) : zE G mX11_checkLength (d + 6) [zR (B 0), zI n, zI m] σ (fun r σ1 => if 0 ≤ n ∧ n ≤ m ∧ n ≤ b then r = .inl none ∧ σ1 = σ else r = .inr eIAE ∧ σ1 = zus σ 1 6) := by
  refine zE_of rfl (by simp [zcat]) (Nat.le_of_ble_eq_true rfl) ?_
  show zF G mX11_checkLength (d + 6) 0 [(0, zR (B 0)), (1, zI n), (2, zI m)] [] σ _
  have hB := hO.1
  refine zF_iload_n 1 dX11_checkLength_0 rfl rfl ?_
  refine zF_if_lt 17 4 dX11_checkLength_1 rfl rfl (by first | decide | assumption | (constructor <;> omega)) (fun c1 => ?_) (fun c1 => ?_)
  · exact zF_throw hG rfl zrxA0 zrxA1 zrxA2 zrxA5 zatA zckA zinA (by decide) (by decide) rfl (i := 0) rfl dX11_checkLength_17 dX11_checkLength_20 dX11_checkLength_21 dX11_checkLength_23 dX11_checkLength_26 (by omega) (Nat.le_of_ble_eq_true rfl) (by rw [if_neg (by omega)]; exact ⟨rfl, rfl⟩)
  · refine zF_iload_n 5 dX11_checkLength_4 rfl rfl ?_
    refine zF_iload_n 6 dX11_checkLength_5 rfl rfl ?_
    refine zF_icmp_gt 17 9 dX11_checkLength_6 rfl rfl (by first | decide | assumption | (constructor <;> omega)) (by first | decide | assumption | (constructor <;> omega)) (fun c2 => ?_) (fun c2 => ?_)
    · exact zF_throw hG rfl zrxA0 zrxA1 zrxA2 zrxA5 zatA zckA zinA (by decide) (by decide) rfl (i := 0) rfl dX11_checkLength_17 dX11_checkLength_20 dX11_checkLength_21 dX11_checkLength_23 dX11_checkLength_26 (by omega) (Nat.le_of_ble_eq_true rfl) (by rw [if_neg (by omega)]; exact ⟨rfl, rfl⟩)
    · refine zF_iload_n 10 dX11_checkLength_9 rfl rfl ?_
      refine zF_aload_n 11 dX11_checkLength_10 rfl rfl ?_
      refine zF_getI 14 dX11_checkLength_11 rfl gX11_100 (by decide) (by decide) hO.2.1 hO.2.2.1 hb1 ?_
      refine zF_icmp_le 27 17 dX11_checkLength_14 rfl rfl (by first | decide | assumption | (constructor <;> omega)) (by first | decide | assumption | (constructor <;> omega)) (fun c3 => ?_) (fun c3 => ?_)
      · exact zF_return dX11_checkLength_27 rfl (by rw [if_pos (by omega)]; exact ⟨rfl, rfl⟩)
      · exact zF_throw hG rfl zrxA0 zrxA1 zrxA2 zrxA5 zatA zckA zinA (by decide) (by decide) rfl (i := 0) rfl dX11_checkLength_17 dX11_checkLength_20 dX11_checkLength_21 dX11_checkLength_23 dX11_checkLength_26 (by omega) (Nat.le_of_ble_eq_true rfl) (by rw [if_neg (by omega)]; exact ⟨rfl, rfl⟩)
theorem cTk_m0 {i v : Int} (hi : ∀ i j, B i = B j → i = j) (h : cTk σ B t L) : cTk (zsi σ (B 0) i v) B t L := by
  have e : zia (zsi σ (B 0) i v) (B 10) = zia σ (B 10) := zsi_at (Bne hi (by decide)) rfl
  unfold cTk at h ⊢
  rw [e]; exact h
theorem cTs_m0 {i v : Int} (hi : ∀ i j, B i = B j → i = j) (h : cTs σ B t L s) : cTs (zsi σ (B 0) i v) B t L s := by
  have e : zia (zsi σ (B 0) i v) (B 20) = zia σ (B 20) := zsi_at (Bne hi (by decide)) rfl
  unfold cTs at h ⊢
  rw [e]; exact h
def PFr (B : Nat → Nat) (h : Nat) (j : Int) : Prop := h = B 0 ∧ (j = 1 ∨ j = 2)
theorem zt_X11_finishReading (hO : cO σ B) (hT : cTk σ B t L) (hs : cTs σ B t L s) : zE G mX11_finishReading (d + 2) [zR (B 0)] σ (fun ro σ1 => ro = .inl none ∧ zFr (PFr B) σ σ1 ∧ zia σ1 (B 0) ((1 : Nat) : Int) = 0 ∧ zia σ1 (B 0) ((2 : Nat) : Int) = (if s.2 = 0 then -1 else ((tbg t L s.1 : Nat) : Int))) := by
  refine zE_of rfl (by simp [zcat]) (Nat.le_of_ble_eq_true rfl) ?_
  show zF G mX11_finishReading (d + 2) 0 [(0, zR (B 0))] [] σ _
  have hB := hO.1
  have hi := hO.1.2.2.2
  refine zF_aload_n 1 dX11_finishReading_0 rfl rfl ?_
  refine zF_iconst 2 dX11_finishReading_1 rfl ?_
  refine zF_putI 5 dX11_finishReading_2 rfl pX11_finishReading_100 (Or.inl rfl) hO.2.1 hO.2.2.1 ?_
  refine zF_aload_n 6 dX11_finishReading_5 rfl rfl ?_
  refine zF_aload_n 7 dX11_finishReading_6 rfl rfl ?_
  refine zF_getR 10 dX11_finishReading_7 rfl gX11_75 hO.2.1 hO.2.2.1 hO.2.2.2.2.2.2.2.2.2.2.2.1 ?_
  refine zF_callVi 13 (d2 := (d + 1)) (as := []) dX11_finishReading_10 rfl kX11_117 iX9_failed (ci := 9) rfl eX9_failed (Nat.le_refl _) (cTk_m0 (σ := σ) hi hT).1 (cTk_m0 (σ := σ) hi hT).2.1 rfl rfl (Nat.le_of_ble_eq_true rfl) (zt_X9_failed (σ := (zsi σ (B 0) ((1 : Nat) : Int) 0)) (cTk_m0 (σ := σ) hi hT) (cTs_m0 (σ := σ) hi hs)) ?_
  refine zF_ifb_eq 26 16 dX11_finishReading_13 rfl rfl (fun c1 => ?_) (fun c1 => ?_)
  · refine zF_iconst 27 dX11_finishReading_26 rfl ?_
    refine zF_putI 30 dX11_finishReading_27 rfl pX11_finishReading_13 (Or.inl rfl) hO.2.1 hO.2.2.1 ?_
    exact zF_return dX11_finishReading_30 rfl (⟨rfl, zFr_si ⟨rfl, Or.inr rfl⟩ (zFr_si ⟨rfl, Or.inl rfl⟩ zFr.rf), zsi_F (by decide) (zsi_same _ _ _ _), (zsi_same _ _ _ _).trans (by first | rfl | (rw [if_pos (by omega)]))⟩)
  · refine zF_aload_n 17 dX11_finishReading_16 rfl rfl ?_
    refine zF_getR 20 dX11_finishReading_17 rfl gX11_75 hO.2.1 hO.2.2.1 hO.2.2.2.2.2.2.2.2.2.2.2.1 ?_
    refine zF_getI 23 dX11_finishReading_20 rfl gX11_154 (by decide) (by decide) (cTk_m0 (σ := σ) hi hT).1 (cTk_m0 (σ := σ) hi hT).2.1 (cTs_m0 (σ := σ) hi hs).2.2.2.2.2.2.2.1 ?_
    refine zF_goto 27 dX11_finishReading_23 rfl ?_
    refine zF_putI 30 dX11_finishReading_27 rfl pX11_finishReading_13 (Or.inl rfl) hO.2.1 hO.2.2.1 ?_
    exact zF_return dX11_finishReading_30 rfl (⟨rfl, zFr_si ⟨rfl, Or.inr rfl⟩ (zFr_si ⟨rfl, Or.inl rfl⟩ zFr.rf), zsi_F (by decide) (zsi_same _ _ _ _), (zsi_same _ _ _ _).trans (by first | rfl | (rw [if_pos (by omega)]))⟩)
theorem zt_X4_discardAll (hH : cHs σ B) : zE G mX4_discardAll d [zR (B 600)] σ (fun ro σ1 => ro = .inl none ∧ zFr (fun h j => h = B 600 ∧ (j = 2 ∨ j = 4)) σ σ1 ∧ zia σ1 (B 600) ((2 : Nat) : Int) = 0 ∧ zia σ1 (B 600) ((4 : Nat) : Int) = 0) := by
  refine zE_of rfl (by simp [zcat]) (Nat.le_of_ble_eq_true rfl) ?_
  show zF G mX4_discardAll d 0 [(0, zR (B 600))] [] σ _
  refine zF_aload_n 1 dX4_discardAll_0 rfl rfl ?_
  refine zF_iconst 2 dX4_discardAll_1 rfl ?_
  refine zF_putI 5 dX4_discardAll_2 rfl pX4_discardAll_30 (Or.inl rfl) hH.1 hH.2.1 ?_
  refine zF_aload_n 6 dX4_discardAll_5 rfl rfl ?_
  refine zF_iconst 7 dX4_discardAll_6 rfl ?_
  refine zF_putI 10 dX4_discardAll_7 rfl pX4_discardAll_39 (Or.inr ⟨rfl, by omega⟩) hH.1 hH.2.1 ?_
  exact zF_return dX4_discardAll_10 rfl (⟨rfl, zFr_si ⟨rfl, Or.inr rfl⟩ (zFr_si ⟨rfl, Or.inl rfl⟩ zFr.rf), zsi_F (by decide) (zsi_same _ _ _ _), zsi_same _ _ _ _⟩)
def PLe (B : Nat → Nat) (h : Nat) (j : Int) : Prop := PLd B h j ∨ PFr B h j
/-- what a load of the class's may change -/
def PLc (B : Nat → Nat) (h : Nat) (j : Int) : Prop := PLe B h j ∨ zRg 100 216 B h j ∨ zRg 302 303 B h j ∨ (h = B 600 ∧ (j = 2 ∨ j = 4))
theorem zBk_r {b lo hi : Nat} (f : zFr (zBk B b) σ σ1) (h0 : lo ≤ b) (h1 : b + 15 < hi) : zFr (zRg lo hi B) σ σ1 := f.wk fun y j q => q.elim fun k q => ⟨b + k, by have := q.1; omega, by have := q.1; omega, q.2⟩
theorem zcpF {M : zMeth} {as : List zV} {F : List (Nat × Nat)} {I : List Nat} {b b' : Nat} (h : zE G M d as σ (fun ro σ1 => ro = .inl none ∧ zCpA F I σ B b b' σ1)) : zE G M d as σ (fun ro σ1 => ro = .inl none ∧ zFr (zBk B b) σ σ1 ∧ zCpA F I σ B b b' σ1) := h.mono fun r σ1 q => ⟨q.1, q.2.1, q.2⟩
theorem cTs_fr {P : Nat → Int → Prop} (h : cTs σ B t L s) (g : zFr P σ σ1) (n : ∀ j, ¬ P (B 20) j) : cTs σ1 B t L s := by
  have e := g.at n
  unfold cTs at h ⊢
  rw [e]; exact h
theorem zt_X11_load (hG : zGd G) (hG1 : zOS G) (hO : cO σ B) (hk : cCt σ B) (hT : cTk σ B t L) (hH : cHs σ B) {b : Int} (hb1 : zia σ (B 0) ((1 : Nat) : Int) = b) (b1 : b ≤ 700) (hL : (L : Int) ≤ b) (hb : ∀ j, zrg (f j)) : zE G mX11_load (d + 12) [zR (B 0), zI (L : Int)] σ (fun ro σ1 => ∃ k, ldT t L ((0, 0), zcz f) k ∧ zFr (PLc B) σ σ1 ∧ zia σ1 (B 0) ((1 : Nat) : Int) = 0 ∧ zia σ1 (B 0) ((2 : Nat) : Int) = (if (ldI t L ((0, 0), zcz f) k).1.2 = 0 then -1 else ((tbg t L (ldI t L ((0, 0), zcz f) k).1.1 : Nat) : Int)) ∧ (((ldI t L ((0, 0), zcz f) k).1.2 = 0 ∧ ro = .inl (some (zI ((ldI t L ((0, 0), zcz f) k).2 1))) ∧ ldV (ldI t L ((0, 0), zcz f) k).2 ∧ cR (ldN (ldI t L ((0, 0), zcz f) k).2) σ1 B ∧ zia σ1 (B 600) ((2 : Nat) : Int) = 0 ∧ zia σ1 (B 600) ((4 : Nat) : Int) = 0) ∨ ((ldI t L ((0, 0), zcz f) k).1.2 ≠ 0 ∧ ro = .inl (some (zI (-10 - (ldI t L ((0, 0), zcz f) k).1.2))) ∧ zFr (PLe B) σ σ1))) := by
  refine zE_of rfl (by simp [zcat]) (Nat.le_of_ble_eq_true rfl) ?_
  show zF G mX11_load (d + 12) 0 [(0, zR (B 0)), (1, zI (L : Int))] [] σ _
  have hB := hO.1
  have hi := hO.1.2.2.2
  have hL7 : L ≤ 700 := hT.2.2.2.2.2.2.1
  refine zF_aload_n 1 dX11_load_0 rfl rfl ?_
  refine zF_iload_n 2 dX11_load_1 rfl rfl ?_
  refine zF_sipush 5 dX11_load_2 rfl (by decide) ?_
  refine zF_callV 8 (d2 := (d + 11)) (as := [zI (L : Int), zI 700]) dX11_load_5 rfl kX11_107 iX11_checkLength (ci := 11) rfl eX11_checkLength (Nat.le_refl _) hO.2.1 hO.2.2.1 rfl rfl (Nat.le_of_ble_eq_true rfl) (zE.mono (zt_X11_checkLength hG hO hb1 (by omega) (by omega) (by constructor <;> omega) (by decide)) fun ro σx1 hh1 => ?_)
  rcases Decidable.em (0 ≤ (L : Int) ∧ (L : Int) ≤ 700 ∧ (L : Int) ≤ b) with kc1 | kc1
  rotate_left
  · rw [if_neg kc1] at hh1; obtain ⟨er1, es1⟩ := hh1; subst er1; subst es1; exact ⟨rfl, by decide, (absurd (⟨by omega, by omega, by omega⟩ : _ ∧ _ ∧ _) kc1)⟩
  rw [if_pos kc1] at hh1; obtain ⟨er1, es1⟩ := hh1; subst er1; replace es1 := es1.symm; subst es1; refine ⟨rfl, ?_⟩
  show zF G mX11_load (d + 12) 8 [(0, zR (B 0)), (1, zI (L : Int))] [] σ _
  refine zF_aload_n 9 dX11_load_8 rfl rfl ?_
  refine zF_getR 12 dX11_load_9 rfl gX11_84 hO.2.1 hO.2.2.1 hO.2.2.2.2.2.2.2.2.2.2.2.2.1 ?_
  refine zF_iload_n 13 dX11_load_12 rfl rfl ?_
  refine zF_callV 16 (d2 := (d + 11)) (as := [zI (L : Int)]) dX11_load_13 rfl kX11_111 iX2_read (ci := 2) rfl eX2_read (Nat.le_refl _) hk.1 hk.2.1 rfl rfl (Nat.le_of_ble_eq_true rfl) (zE.mono (zt_X2_read hG1 hk hT hb) fun ro σa2 hh2 => ?_)
  obtain ⟨er2, fr2, p2⟩ := hh2
  subst er2
  refine ⟨fr2.1, ?_⟩
  show zF G mX11_load (d + 12) 16 [(0, zR (B 0)), (1, zI (L : Int))] [] σa2 _
  have hOA := cO_fr (σ := σ) hO fr2
  have hkA := cCt_fr (σ := σ) hk fr2
  have hHA := cHs_fr (σ := σ) hH fr2
  obtain ⟨k, hKT, hsA, hdA⟩ := p2
  have hTA := cTk_l hk hT fr2
  have fA := fr2
  have ebA := hsA.2.2.2.2.2.2.2.2
  refine zF_aload_n 17 dX11_load_16 rfl rfl ?_
  refine zF_callV 20 (d2 := (d + 11)) (as := []) dX11_load_17 rfl kX11_114 iX11_finishReading (ci := 11) rfl eX11_finishReading (Nat.le_refl _) hOA.2.1 hOA.2.2.1 rfl rfl (Nat.le_of_ble_eq_true rfl) (zE.mono (zt_X11_finishReading hOA hTA hsA) fun ro σa3 hh3 => ?_)
  obtain ⟨er3, fr3, p3⟩ := hh3
  subst er3
  refine ⟨fr3.1, ?_⟩
  show zF G mX11_load (d + 12) 20 [(0, zR (B 0)), (1, zI (L : Int))] [] σa3 _
  have hOB := cO_fr (σ := σa2) hOA fr3
  have hkB := cCt_fr (σ := σa2) hkA fr3
  have hHB := cHs_fr (σ := σa2) hHA fr3
  have fB := fr3
  have hTB := cTk_fr hTA fr3 fun j q => Bne hi (by decide) q.1
  have hsB : cTs σa3 B t L (ldI t L ((0, 0), zcz f) k).1 := cTs_fr hsA fr3 fun j q => Bne hi (by decide) q.1
  have hdB : (ldI t L ((0, 0), zcz f) k).1.2 = 0 → cDm (ldI t L ((0, 0), zcz f) k).2 σa3 B := fun z => cDc_cg (hdA z).2 fun k2 j a b => fr3.2.2.2.2.2 _ _ fun q => by have := hi _ _ q.1; omega
  have g1 := p3
  refine zF_aload_n 21 dX11_load_20 rfl rfl ?_
  refine zF_getR 24 dX11_load_21 rfl gX11_75 hOB.2.1 hOB.2.2.1 hOB.2.2.2.2.2.2.2.2.2.2.2.1 ?_
  refine zF_callVi 27 (d2 := (d + 11)) (as := []) dX11_load_24 rfl kX11_117 iX9_failed (ci := 9) rfl eX9_failed (Nat.le_refl _) hTB.1 hTB.2.1 rfl rfl (Nat.le_of_ble_eq_true rfl) (zt_X9_failed (σ := σa3) hTB hsB) ?_
  refine zF_ifb_eq 41 30 dX11_load_27 rfl rfl (fun c1 => ?_) (fun c1 => ?_)
  · refine zF_aload_n 42 dX11_load_41 rfl rfl ?_
    refine zF_getR 45 dX11_load_42 rfl gX11_27 hOB.2.1 hOB.2.2.1 hOB.2.2.2.2.2.1 ?_
    refine zF_aload_n 46 dX11_load_45 rfl rfl ?_
    refine zF_getR 49 dX11_load_46 rfl gX11_84 hOB.2.1 hOB.2.2.1 hOB.2.2.2.2.2.2.2.2.2.2.2.2.1 ?_
    refine zF_getR 52 dX11_load_49 rfl gX11_124 hkB.1 hkB.2.1 hkB.2.2.2.1 ?_
    refine zF_callV 55 (d2 := (d + 11)) (as := [zR (B 2100)]) dX11_load_52 rfl kX11_125 iX1_copyFrom (ci := 1) rfl eX1_copyFrom (Nat.le_refl _) hOB.1.ch.1 hOB.1.ch.2.1 rfl rfl (Nat.le_of_ble_eq_true rfl) (zE.mono (zcpF (zt_X1_copyFrom (b := 100) (b' := 2100) hi (Or.inl (by decide)) hOB.1.ch hkB.ch)) fun ro σa4 hh4 => ?_)
    obtain ⟨er4, fr4, p4⟩ := hh4
    subst er4
    refine ⟨fr4.1, ?_⟩
    show zF G mX11_load (d + 12) 55 [(0, zR (B 0)), (1, zI (L : Int))] [] σa4 _
    have hOC := cO_fr (σ := σa3) hOB fr4
    have hkC := cCt_fr (σ := σa3) hkB fr4
    have hHC := cHs_fr (σ := σa3) hHB fr4
    have fC := p4.1
    have cC := p4
    have z0 : (ldI t L ((0, 0), zcz f) k).1.2 = 0 := by omega
    have hv := (hdA z0).1
    have gN := ldV_gN hv
    have hR0 := cD_R hv (hdB z0)
    have rcC := cRc_cp gN.1.1 cC hR0.1
    have rsC := cRs_congr (σ2 := σa4) (fun k2 h2 => fC.at fun j q => q.elim fun k3 q => by have := hi _ _ q.2; omega) hR0.2
    refine zF_aload_n 56 dX11_load_55 rfl rfl ?_
    refine zF_getR 59 dX11_load_56 rfl gX11_34 hOC.2.1 hOC.2.2.1 hOC.2.2.2.2.2.2.1 ?_
    refine zF_aload_n 60 dX11_load_59 rfl rfl ?_
    refine zF_getR 63 dX11_load_60 rfl gX11_84 hOC.2.1 hOC.2.2.1 hOC.2.2.2.2.2.2.2.2.2.2.2.2.1 ?_
    refine zF_getR 66 dX11_load_63 rfl gX11_129 hkC.1 hkC.2.1 hkC.2.2.2.2.1 ?_
    refine zF_callV 69 (d2 := (d + 11)) (as := [zR (B 2200)]) dX11_load_66 rfl kX11_130 iX8_copyFrom (ci := 8) rfl eX8_copyFrom (Nat.le_refl _) hOC.1.st.1 hOC.1.st.2.1 rfl rfl (Nat.le_of_ble_eq_true rfl) (zE.mono (zcpF (zt_X8_copyFrom (b := 200) (b' := 2200) hi (Or.inl (by decide)) hOC.1.st hkC.st)) fun ro σa5 hh5 => ?_)
    obtain ⟨er5, fr5, p5⟩ := hh5
    subst er5
    refine ⟨fr5.1, ?_⟩
    show zF G mX11_load (d + 12) 69 [(0, zR (B 0)), (1, zI (L : Int))] [] σa5 _
    have hOD := cO_fr (σ := σa4) hOC fr5
    have hkD := cCt_fr (σ := σa4) hkC fr5
    have hHD := cHs_fr (σ := σa4) hHC fr5
    have fD := p5.1
    have rsD := cRs_cp gN.1.1 p5 rsC
    have rcD := cRc_congr (σ2 := σa5) (fun k2 h2 => fD.at fun j q => q.elim fun k3 q => by have := hi _ _ q.2; omega) rcC
    refine zF_aload_n 70 dX11_load_69 rfl rfl ?_
    refine zF_getR 73 dX11_load_70 rfl gX11_66 hOD.2.1 hOD.2.2.1 hOD.2.2.2.2.2.2.2.2.2.2.1 ?_
    refine zF_callV 76 (d2 := (d + 11)) (as := []) dX11_load_73 rfl kX11_133 iX4_discardAll (ci := 4) rfl eX4_discardAll (Nat.le_refl _) hHD.1 hHD.2.1 rfl rfl (Nat.le_of_ble_eq_true rfl) (zE.mono (zt_X4_discardAll hHD) fun ro σa6 hh6 => ?_)
    obtain ⟨er6, fr6, p6⟩ := hh6
    subst er6
    refine ⟨fr6.1, ?_⟩
    show zF G mX11_load (d + 12) 76 [(0, zR (B 0)), (1, zI (L : Int))] [] σa6 _
    have hOE := cO_fr (σ := σa5) hOD fr6
    have hkE := cCt_fr (σ := σa5) hkD fr6
    have hHE := cHs_fr (σ := σa5) hHD fr6
    have fE := fr6
    have gE := p6
    have rE : cR0 (ldN (ldI t L ((0, 0), zcz f) k).2) σa6 B := ⟨cRc_congr (σ2 := σa6) (fun k2 h2 => fE.at fun j q => Bne hi (by omega) q.1) rcD, cRs_congr (σ2 := σa6) (fun k2 h2 => fE.at fun j q => Bne hi (by omega) q.1) rsD⟩
    refine zF_aload_n 77 dX11_load_76 rfl rfl ?_
    refine zF_getR 80 dX11_load_77 rfl gX11_43 hOE.2.1 hOE.2.2.1 hOE.2.2.2.2.2.2.2.1 ?_
    refine zF_callV 83 (d2 := (d + 11)) (as := []) dX11_load_80 rfl kX11_136 iX10_refresh (ci := 10) rfl eX10_refresh (Nat.le_refl _) hOE.1.wk.1 hOE.1.wk.2.1 rfl rfl (Nat.le_of_ble_eq_true rfl) (zE.mono (zt_X10_refresh hOE.1 rE gN.1.1 gN.1.2.2.1 gN.1.2.1) fun ro σa7 hh7 => ?_)
    obtain ⟨er7, fr7, p7⟩ := hh7
    subst er7
    refine ⟨fr7.1, ?_⟩
    show zF G mX11_load (d + 12) 83 [(0, zR (B 0)), (1, zI (L : Int))] [] σa7 _
    have hOF := cO_fr (σ := σa6) hOE fr7
    have hkF := cCt_fr (σ := σa6) hkE fr7
    have hHF := cHs_fr (σ := σa6) hHE fr7
    have fF := fr7
    have gF := p7
    refine zF_aload_n 84 dX11_load_83 rfl rfl ?_
    refine zF_getR 87 dX11_load_84 rfl gX11_27 hOF.2.1 hOF.2.2.1 hOF.2.2.2.2.2.1 ?_
    refine zF_getI 90 dX11_load_87 rfl gX11_139 (by decide) (by decide) hOF.1.ch.1 hOF.1.ch.2.1 ((p7).c.1.2.1.trans (if_pos (by decide))) ?_
    exact zF_ireturn dX11_load_90 rfl (⟨k, hKT, ((((((fA.wk fun _ _ q => Or.inl q).tr (fB.wk fun _ _ q => Or.inr q) : zFr (PLe B) σ _).wk fun _ _ q => Or.inl q).tr ((zBk_r fC (lo := 100) (hi := 216) (by decide) (by decide)).wk fun _ _ q => Or.inr (Or.inl q))).tr ((zBk_r fD (lo := 100) (hi := 216) (by decide) (by decide)).wk fun _ _ q => Or.inr (Or.inl q))).tr (fE.wk fun _ _ q => Or.inr (Or.inr (Or.inr q)))).tr (fF.wk fun _ _ q => Or.inr (Or.inr (Or.inl q))), (zFr_F fF (fun ⟨k3, a3, b3, q⟩ => absurd q (Bne hi (by omega))) (zFr_F fE (fun q => absurd q.1 (Bne hi (by decide))) (zFr_F fD (fun q => q.elim fun k3 q => absurd q.2 (Bne hi (by have := q.1; omega))) (zFr_F fC (fun q => q.elim fun k3 q => absurd q.2 (Bne hi (by have := q.1; omega))) g1.1)))), (zFr_F fF (fun ⟨k3, a3, b3, q⟩ => absurd q (Bne hi (by omega))) (zFr_F fE (fun q => absurd q.1 (Bne hi (by decide))) (zFr_F fD (fun q => q.elim fun k3 q => absurd q.2 (Bne hi (by have := q.1; omega))) (zFr_F fC (fun q => q.elim fun k3 q => absurd q.2 (Bne hi (by have := q.1; omega))) g1.2)))), Or.inl ⟨z0, rfl, hv, gF, (zFr_F fF (fun ⟨k3, a3, b3, q⟩ => absurd q (Bne hi (by omega))) gE.1), (zFr_F fF (fun ⟨k3, a3, b3, q⟩ => absurd q (Bne hi (by omega))) gE.2)⟩⟩)
  · refine zF_bipush 32 dX11_load_30 rfl (by decide) ?_
    refine zF_aload_n 33 dX11_load_32 rfl rfl ?_
    refine zF_getR 36 dX11_load_33 rfl gX11_75 hOB.2.1 hOB.2.2.1 hOB.2.2.2.2.2.2.2.2.2.2.2.1 ?_
    refine zF_getI 39 dX11_load_36 rfl gX11_121 (by decide) (by decide) hTB.1 hTB.2.1 hsB.2.2.2.2.2.2.1 ?_
    refine zF_isub 40 dX11_load_39 rfl ?_
    exact zF_ireturn dX11_load_40 rfl (⟨k, hKT, (((fA.wk fun _ _ q => Or.inl q).tr (fB.wk fun _ _ q => Or.inr q) : zFr (PLe B) σ _).wk fun _ _ q => Or.inl q), g1.1, g1.2, Or.inr ⟨by assumption, rfl, (fA.wk fun _ _ q => Or.inl q).tr (fB.wk fun _ _ q => Or.inr q)⟩⟩)
end ZCW

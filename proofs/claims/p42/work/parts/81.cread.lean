/-! the class: reading a chain -/
section ZCR
variable {G : zG} {d : Nat} {σ σ0 σ1 : zMem} {B : Nat → Nat} {t : Int → Int} {L : Nat} {s : tS} {D f : Int → Int} {c : Nat → Int → Int}
theorem row_fr {k k' n : Nat} {v : Int} (hi : ∀ i j, B i = B j → i = j) (g : zFr (fun y _ => y = B k') σ σ1) (h : k ≠ k') (e : ∀ j : Int, 0 ≤ j → j < (n : Int) → zia σ (B k) j = v) : ∀ j : Int, 0 ≤ j → j < (n : Int) → zia σ1 (B k) j = v := fun j a b => (g.2.2.2.2.2 _ _ fun q => h (hi _ _ q)).trans (e j a b)
theorem fld_fr {k k' : Nat} {j v : Int} (hi : ∀ i j, B i = B j → i = j) (g : zFr (fun y _ => y = B k') σ σ1) (h : k ≠ k') (e : zia σ (B k) j = v) : zia σ1 (B k) j = v := (g.2.2.2.2.2 _ _ fun q => h (hi _ _ q)).trans e
/-- a cleared state's cells -/
def cZs (σ : zMem) (B : Nat → Nat) : Prop :=
  (zia σ (B 2200) ((0 : Nat) : Int) = 0 ∧ zia σ (B 2200) ((1 : Nat) : Int) = 0 ∧ zia σ (B 2200) ((2 : Nat) : Int) = 0) ∧ (∀ j : Int, 0 ≤ j → j < ((30 : Nat) : Int) → zia σ (B 2205) j = 0) ∧
  ((∀ j : Int, 0 ≤ j → j < ((10 : Nat) : Int) → zia σ (B 2206) j = -1) ∧ (∀ j : Int, 0 ≤ j → j < ((10 : Nat) : Int) → zia σ (B 2207) j = -1) ∧ (∀ j : Int, 0 ≤ j → j < ((10 : Nat) : Int) → zia σ (B 2208) j = 0) ∧ (∀ j : Int, 0 ≤ j → j < ((10 : Nat) : Int) → zia σ (B 2209) j = 0)) ∧
  ((∀ j : Int, 0 ≤ j → j < ((6 : Nat) : Int) → zia σ (B 2210) j = -1) ∧ (∀ j : Int, 0 ≤ j → j < ((6 : Nat) : Int) → zia σ (B 2212) j = 0)) ∧ (∀ j : Int, 0 ≤ j → j < ((24 : Nat) : Int) → zia σ (B 2213) j = 0) ∧ (∀ j : Int, 0 ≤ j → j < ((4 : Nat) : Int) → zia σ (B 2214) j = 0)
theorem cD_0 (h0 : zia σ (B 2100) 0 = 0) (h3 : zia σ (B 2100) 3 = 0) (h7 : zia σ (B 2100) 7 = 0) (z : cZs σ B) : cDm (zcz f) σ B := by
  have e : ∀ j, 0 ≤ j → j < 312 → zcz f j = 0 := fun j a b => if_pos ⟨a, b⟩
  obtain ⟨z0, z1, z2, z3, z4, z5⟩ := z
  have e0 := e 0 (by decide) (by decide)
  have e1 := e 1 (by decide) (by decide)
  have e2 := e 2 (by decide) (by decide)
  refine ⟨⟨by rw [e0]; exact h0, by rw [e1]; exact h3, by rw [e2]; exact h7⟩, fun x a b => by rw [e0] at b; omega, fun x a b => by rw [e1] at b; omega, fun x a b => by rw [e2] at b; omega, ⟨z0.1, z0.2.1, by rw [e 4 (by decide) (by decide)]; exact z0.2.2⟩, fun j a b => by rw [e _ (by omega) (by omega)]; exact z1 j a b, fun j a b => ⟨z2.1 j a b, z2.2.1 j a b, z2.2.2.1 j a b, z2.2.2.2 j a b⟩, fun j a b => ⟨z3.1 j a b, z3.2 j a b⟩, z4, z5⟩
theorem tk_far (h : s.1 ≤ L) (k : L ≤ s.1) : tk t L s.1 = 0 := by
  have a := tbg_b (t := t) h
  unfold tk
  rw [if_neg (by omega)]
theorem zt_X1_clear9 (hk : cCt σ B) : zE G mX1_clear d [zR (B 2100)] σ (fun ro σ1 => ro = .inl none ∧ zFr (fun y _ => y = B 2100) σ σ1 ∧ zia σ1 (B 2100) 0 = 0 ∧ zia σ1 (B 2100) 3 = 0 ∧ zia σ1 (B 2100) 7 = 0) := by
  refine zE_of rfl (by simp [zcat]) (Nat.le_of_ble_eq_true rfl) ?_
  show zF G mX1_clear d 0 [(0, zR (B 2100))] [] σ _
  refine zF_aload_n 1 dX1_clear_0 rfl rfl ?_
  refine zF_iconst 2 dX1_clear_1 rfl ?_
  refine zF_putI 5 dX1_clear_2 rfl pX1_clear_42 (Or.inl rfl) hk.ch.1 hk.ch.2.1 ?_
  refine zF_aload_n 6 dX1_clear_5 rfl rfl ?_
  refine zF_iconst 7 dX1_clear_6 rfl ?_
  refine zF_putI 10 dX1_clear_7 rfl pX1_clear_46 (Or.inl rfl) hk.ch.1 hk.ch.2.1 ?_
  refine zF_aload_n 11 dX1_clear_10 rfl rfl ?_
  refine zF_iconst 12 dX1_clear_11 rfl ?_
  refine zF_putI 15 dX1_clear_12 rfl pX1_clear_49 (Or.inl rfl) hk.ch.1 hk.ch.2.1 ?_
  exact zF_return dX1_clear_15 rfl (⟨rfl, zFr_si rfl (zFr_si rfl (zFr_si rfl zFr.rf)), zsi_F (by decide) (zsi_F (by decide) (zsi_same _ _ _ _)), zsi_F (by decide) (zsi_same _ _ _ _), zsi_same _ _ _ _⟩)
theorem zt_X8_clear9 (hk : cCt σ B) : zE G mX8_clear (d + 1) [zR (B 2200)] σ (fun ro σ1 => ro = .inl none ∧ zFr (zRg 2200 2216 B) σ σ1 ∧ cZs σ1 B) := by
  refine zE_of rfl (by simp [zcat]) (Nat.le_of_ble_eq_true rfl) ?_
  show zF G mX8_clear (d + 1) 0 [(0, zR (B 2200))] [] σ _
  refine zF_aload_n 1 dX8_clear_0 rfl rfl ?_
  refine zF_iconst 2 dX8_clear_1 rfl ?_
  refine zF_putI 5 dX8_clear_2 rfl pX8_clear_51 (Or.inl rfl) hk.st.1 hk.st.2.1 ?_
  refine zF_aload_n 6 dX8_clear_5 rfl rfl ?_
  refine zF_iconst 7 dX8_clear_6 rfl ?_
  refine zF_putI 10 dX8_clear_7 rfl pX8_clear_55 (Or.inl rfl) hk.st.1 hk.st.2.1 ?_
  refine zF_aload_n 11 dX8_clear_10 rfl rfl ?_
  refine zF_iconst 12 dX8_clear_11 rfl ?_
  refine zF_putI 15 dX8_clear_12 rfl pX8_clear_58 (Or.inl rfl) hk.st.1 hk.st.2.1 ?_
  refine zF_aload_n 16 dX8_clear_15 rfl rfl ?_
  refine zF_getR 19 dX8_clear_16 rfl gX8_9 hk.st.1 hk.st.2.1 (cX_2203 hk).1 ?_
  refine zF_iconst 20 dX8_clear_19 rfl ?_
  refine zF_callS 23 (d2 := d) (as := [zR (B 2203), zI 0]) dX8_clear_20 rfl kX8_61 sJ7_fill_53178 (Nat.le_refl _) rfl rfl (Nat.le_of_ble_eq_true rfl) (zE.mono (zt_J7_fill (σ := (zsi (zsi (zsi σ (B 2200) ((0 : Nat) : Int) 0) (B 2200) ((1 : Nat) : Int) 0) (B 2200) ((2 : Nat) : Int) 0)) (cX_2203 hk).2.2 (cX_2203 hk).2.1 (by decide)) fun ro σa1 hh1 => ?_)
  obtain ⟨er1, fr1, p1⟩ := hh1
  subst er1
  refine ⟨fr1.1, ?_⟩
  show zF G mX8_clear (d + 1) 23 [(0, zR (B 2200))] [] σa1 _
  have hk1a := cCt_fr (σ := (zsi (zsi (zsi σ (B 2200) ((0 : Nat) : Int) 0) (B 2200) ((1 : Nat) : Int) 0) (B 2200) ((2 : Nat) : Int) 0)) hk fr1
  have g1x0 : zia σa1 (B 2200) ((0 : Nat) : Int) = 0 := fld_fr (σ := (zsi (zsi (zsi σ (B 2200) ((0 : Nat) : Int) 0) (B 2200) ((1 : Nat) : Int) 0) (B 2200) ((2 : Nat) : Int) 0)) hk.inj fr1 (by decide) (zsi_F (by decide) (zsi_F (by decide) (zsi_same _ _ _ _)))
  have g1x1 : zia σa1 (B 2200) ((1 : Nat) : Int) = 0 := fld_fr (σ := (zsi (zsi (zsi σ (B 2200) ((0 : Nat) : Int) 0) (B 2200) ((1 : Nat) : Int) 0) (B 2200) ((2 : Nat) : Int) 0)) hk.inj fr1 (by decide) (zsi_F (by decide) (zsi_same _ _ _ _))
  have g1x2 : zia σa1 (B 2200) ((2 : Nat) : Int) = 0 := fld_fr (σ := (zsi (zsi (zsi σ (B 2200) ((0 : Nat) : Int) 0) (B 2200) ((1 : Nat) : Int) 0) (B 2200) ((2 : Nat) : Int) 0)) hk.inj fr1 (by decide) (zsi_same _ _ _ _)
  refine zF_aload_n 24 dX8_clear_23 rfl rfl ?_
  refine zF_getR 27 dX8_clear_24 rfl gX8_15 hk1a.st.1 hk1a.st.2.1 (cX_2204 hk1a).1 ?_
  refine zF_iconst 28 dX8_clear_27 rfl ?_
  refine zF_callS 31 (d2 := d) (as := [zR (B 2204), zI 0]) dX8_clear_28 rfl kX8_61 sJ7_fill_53178 (Nat.le_refl _) rfl rfl (Nat.le_of_ble_eq_true rfl) (zE.mono (zt_J7_fill (σ := σa1) (cX_2204 hk1a).2.2 (cX_2204 hk1a).2.1 (by decide)) fun ro σa2 hh2 => ?_)
  obtain ⟨er2, fr2, p2⟩ := hh2
  subst er2
  refine ⟨fr2.1, ?_⟩
  show zF G mX8_clear (d + 1) 31 [(0, zR (B 2200))] [] σa2 _
  have hk2a := cCt_fr (σ := σa1) hk1a fr2
  have r2x2203 := (row_fr (σ := σa1) hk.inj fr2 (by decide) p1)
  have g2x0 : zia σa2 (B 2200) ((0 : Nat) : Int) = 0 := fld_fr (σ := σa1) hk.inj fr2 (by decide) g1x0
  have g2x1 : zia σa2 (B 2200) ((1 : Nat) : Int) = 0 := fld_fr (σ := σa1) hk.inj fr2 (by decide) g1x1
  have g2x2 : zia σa2 (B 2200) ((2 : Nat) : Int) = 0 := fld_fr (σ := σa1) hk.inj fr2 (by decide) g1x2
  refine zF_aload_n 32 dX8_clear_31 rfl rfl ?_
  refine zF_getR 35 dX8_clear_32 rfl gX8_18 hk2a.st.1 hk2a.st.2.1 (cX_2205 hk2a).1 ?_
  refine zF_iconst 36 dX8_clear_35 rfl ?_
  refine zF_callS 39 (d2 := d) (as := [zR (B 2205), zI 0]) dX8_clear_36 rfl kX8_61 sJ7_fill_53178 (Nat.le_refl _) rfl rfl (Nat.le_of_ble_eq_true rfl) (zE.mono (zt_J7_fill (σ := σa2) (cX_2205 hk2a).2.2 (cX_2205 hk2a).2.1 (by decide)) fun ro σa3 hh3 => ?_)
  obtain ⟨er3, fr3, p3⟩ := hh3
  subst er3
  refine ⟨fr3.1, ?_⟩
  show zF G mX8_clear (d + 1) 39 [(0, zR (B 2200))] [] σa3 _
  have hk3a := cCt_fr (σ := σa2) hk2a fr3
  have r3x2203 := (row_fr (σ := σa2) hk.inj fr3 (by decide) r2x2203)
  have r3x2204 := (row_fr (σ := σa2) hk.inj fr3 (by decide) p2)
  have g3x0 : zia σa3 (B 2200) ((0 : Nat) : Int) = 0 := fld_fr (σ := σa2) hk.inj fr3 (by decide) g2x0
  have g3x1 : zia σa3 (B 2200) ((1 : Nat) : Int) = 0 := fld_fr (σ := σa2) hk.inj fr3 (by decide) g2x1
  have g3x2 : zia σa3 (B 2200) ((2 : Nat) : Int) = 0 := fld_fr (σ := σa2) hk.inj fr3 (by decide) g2x2
  refine zF_aload_n 40 dX8_clear_39 rfl rfl ?_
  refine zF_getR 43 dX8_clear_40 rfl gX8_21 hk3a.st.1 hk3a.st.2.1 (cX_2206 hk3a).1 ?_
  refine zF_iconst 44 dX8_clear_43 rfl ?_
  refine zF_callS 47 (d2 := d) (as := [zR (B 2206), zI (-1)]) dX8_clear_44 rfl kX8_61 sJ7_fill_53178 (Nat.le_refl _) rfl rfl (Nat.le_of_ble_eq_true rfl) (zE.mono (zt_J7_fill (σ := σa3) (cX_2206 hk3a).2.2 (cX_2206 hk3a).2.1 (by decide)) fun ro σa4 hh4 => ?_)
  obtain ⟨er4, fr4, p4⟩ := hh4
  subst er4
  refine ⟨fr4.1, ?_⟩
  show zF G mX8_clear (d + 1) 47 [(0, zR (B 2200))] [] σa4 _
  have hk4a := cCt_fr (σ := σa3) hk3a fr4
  have r4x2203 := (row_fr (σ := σa3) hk.inj fr4 (by decide) r3x2203)
  have r4x2204 := (row_fr (σ := σa3) hk.inj fr4 (by decide) r3x2204)
  have r4x2205 := (row_fr (σ := σa3) hk.inj fr4 (by decide) p3)
  have g4x0 : zia σa4 (B 2200) ((0 : Nat) : Int) = 0 := fld_fr (σ := σa3) hk.inj fr4 (by decide) g3x0
  have g4x1 : zia σa4 (B 2200) ((1 : Nat) : Int) = 0 := fld_fr (σ := σa3) hk.inj fr4 (by decide) g3x1
  have g4x2 : zia σa4 (B 2200) ((2 : Nat) : Int) = 0 := fld_fr (σ := σa3) hk.inj fr4 (by decide) g3x2
  refine zF_aload_n 48 dX8_clear_47 rfl rfl ?_
  refine zF_getR 51 dX8_clear_48 rfl gX8_24 hk4a.st.1 hk4a.st.2.1 (cX_2207 hk4a).1 ?_
  refine zF_iconst 52 dX8_clear_51 rfl ?_
  refine zF_callS 55 (d2 := d) (as := [zR (B 2207), zI (-1)]) dX8_clear_52 rfl kX8_61 sJ7_fill_53178 (Nat.le_refl _) rfl rfl (Nat.le_of_ble_eq_true rfl) (zE.mono (zt_J7_fill (σ := σa4) (cX_2207 hk4a).2.2 (cX_2207 hk4a).2.1 (by decide)) fun ro σa5 hh5 => ?_)
  obtain ⟨er5, fr5, p5⟩ := hh5
  subst er5
  refine ⟨fr5.1, ?_⟩
  show zF G mX8_clear (d + 1) 55 [(0, zR (B 2200))] [] σa5 _
  have hk5a := cCt_fr (σ := σa4) hk4a fr5
  have r5x2203 := (row_fr (σ := σa4) hk.inj fr5 (by decide) r4x2203)
  have r5x2204 := (row_fr (σ := σa4) hk.inj fr5 (by decide) r4x2204)
  have r5x2205 := (row_fr (σ := σa4) hk.inj fr5 (by decide) r4x2205)
  have r5x2206 := (row_fr (σ := σa4) hk.inj fr5 (by decide) p4)
  have g5x0 : zia σa5 (B 2200) ((0 : Nat) : Int) = 0 := fld_fr (σ := σa4) hk.inj fr5 (by decide) g4x0
  have g5x1 : zia σa5 (B 2200) ((1 : Nat) : Int) = 0 := fld_fr (σ := σa4) hk.inj fr5 (by decide) g4x1
  have g5x2 : zia σa5 (B 2200) ((2 : Nat) : Int) = 0 := fld_fr (σ := σa4) hk.inj fr5 (by decide) g4x2
  refine zF_aload_n 56 dX8_clear_55 rfl rfl ?_
  refine zF_getR 59 dX8_clear_56 rfl gX8_27 hk5a.st.1 hk5a.st.2.1 (cX_2208 hk5a).1 ?_
  refine zF_iconst 60 dX8_clear_59 rfl ?_
  refine zF_callS 63 (d2 := d) (as := [zR (B 2208), zI 0]) dX8_clear_60 rfl kX8_61 sJ7_fill_53178 (Nat.le_refl _) rfl rfl (Nat.le_of_ble_eq_true rfl) (zE.mono (zt_J7_fill (σ := σa5) (cX_2208 hk5a).2.2 (cX_2208 hk5a).2.1 (by decide)) fun ro σa6 hh6 => ?_)
  obtain ⟨er6, fr6, p6⟩ := hh6
  subst er6
  refine ⟨fr6.1, ?_⟩
  show zF G mX8_clear (d + 1) 63 [(0, zR (B 2200))] [] σa6 _
  have hk6a := cCt_fr (σ := σa5) hk5a fr6
  have r6x2203 := (row_fr (σ := σa5) hk.inj fr6 (by decide) r5x2203)
  have r6x2204 := (row_fr (σ := σa5) hk.inj fr6 (by decide) r5x2204)
  have r6x2205 := (row_fr (σ := σa5) hk.inj fr6 (by decide) r5x2205)
  have r6x2206 := (row_fr (σ := σa5) hk.inj fr6 (by decide) r5x2206)
  have r6x2207 := (row_fr (σ := σa5) hk.inj fr6 (by decide) p5)
  have g6x0 : zia σa6 (B 2200) ((0 : Nat) : Int) = 0 := fld_fr (σ := σa5) hk.inj fr6 (by decide) g5x0
  have g6x1 : zia σa6 (B 2200) ((1 : Nat) : Int) = 0 := fld_fr (σ := σa5) hk.inj fr6 (by decide) g5x1
  have g6x2 : zia σa6 (B 2200) ((2 : Nat) : Int) = 0 := fld_fr (σ := σa5) hk.inj fr6 (by decide) g5x2
  refine zF_aload_n 64 dX8_clear_63 rfl rfl ?_
  refine zF_getR 67 dX8_clear_64 rfl gX8_30 hk6a.st.1 hk6a.st.2.1 (cX_2209 hk6a).1 ?_
  refine zF_iconst 68 dX8_clear_67 rfl ?_
  refine zF_callS 71 (d2 := d) (as := [zR (B 2209), zI 0]) dX8_clear_68 rfl kX8_61 sJ7_fill_53178 (Nat.le_refl _) rfl rfl (Nat.le_of_ble_eq_true rfl) (zE.mono (zt_J7_fill (σ := σa6) (cX_2209 hk6a).2.2 (cX_2209 hk6a).2.1 (by decide)) fun ro σa7 hh7 => ?_)
  obtain ⟨er7, fr7, p7⟩ := hh7
  subst er7
  refine ⟨fr7.1, ?_⟩
  show zF G mX8_clear (d + 1) 71 [(0, zR (B 2200))] [] σa7 _
  have hk7a := cCt_fr (σ := σa6) hk6a fr7
  have r7x2203 := (row_fr (σ := σa6) hk.inj fr7 (by decide) r6x2203)
  have r7x2204 := (row_fr (σ := σa6) hk.inj fr7 (by decide) r6x2204)
  have r7x2205 := (row_fr (σ := σa6) hk.inj fr7 (by decide) r6x2205)
  have r7x2206 := (row_fr (σ := σa6) hk.inj fr7 (by decide) r6x2206)
  have r7x2207 := (row_fr (σ := σa6) hk.inj fr7 (by decide) r6x2207)
  have r7x2208 := (row_fr (σ := σa6) hk.inj fr7 (by decide) p6)
  have g7x0 : zia σa7 (B 2200) ((0 : Nat) : Int) = 0 := fld_fr (σ := σa6) hk.inj fr7 (by decide) g6x0
  have g7x1 : zia σa7 (B 2200) ((1 : Nat) : Int) = 0 := fld_fr (σ := σa6) hk.inj fr7 (by decide) g6x1
  have g7x2 : zia σa7 (B 2200) ((2 : Nat) : Int) = 0 := fld_fr (σ := σa6) hk.inj fr7 (by decide) g6x2
  refine zF_aload_n 72 dX8_clear_71 rfl rfl ?_
  refine zF_getR 75 dX8_clear_72 rfl gX8_33 hk7a.st.1 hk7a.st.2.1 (cX_2210 hk7a).1 ?_
  refine zF_iconst 76 dX8_clear_75 rfl ?_
  refine zF_callS 79 (d2 := d) (as := [zR (B 2210), zI (-1)]) dX8_clear_76 rfl kX8_61 sJ7_fill_53178 (Nat.le_refl _) rfl rfl (Nat.le_of_ble_eq_true rfl) (zE.mono (zt_J7_fill (σ := σa7) (cX_2210 hk7a).2.2 (cX_2210 hk7a).2.1 (by decide)) fun ro σa8 hh8 => ?_)
  obtain ⟨er8, fr8, p8⟩ := hh8
  subst er8
  refine ⟨fr8.1, ?_⟩
  show zF G mX8_clear (d + 1) 79 [(0, zR (B 2200))] [] σa8 _
  have hk8a := cCt_fr (σ := σa7) hk7a fr8
  have r8x2203 := (row_fr (σ := σa7) hk.inj fr8 (by decide) r7x2203)
  have r8x2204 := (row_fr (σ := σa7) hk.inj fr8 (by decide) r7x2204)
  have r8x2205 := (row_fr (σ := σa7) hk.inj fr8 (by decide) r7x2205)
  have r8x2206 := (row_fr (σ := σa7) hk.inj fr8 (by decide) r7x2206)
  have r8x2207 := (row_fr (σ := σa7) hk.inj fr8 (by decide) r7x2207)
  have r8x2208 := (row_fr (σ := σa7) hk.inj fr8 (by decide) r7x2208)
  have r8x2209 := (row_fr (σ := σa7) hk.inj fr8 (by decide) p7)
  have g8x0 : zia σa8 (B 2200) ((0 : Nat) : Int) = 0 := fld_fr (σ := σa7) hk.inj fr8 (by decide) g7x0
  have g8x1 : zia σa8 (B 2200) ((1 : Nat) : Int) = 0 := fld_fr (σ := σa7) hk.inj fr8 (by decide) g7x1
  have g8x2 : zia σa8 (B 2200) ((2 : Nat) : Int) = 0 := fld_fr (σ := σa7) hk.inj fr8 (by decide) g7x2
  refine zF_aload_n 80 dX8_clear_79 rfl rfl ?_
  refine zF_getR 83 dX8_clear_80 rfl gX8_36 hk8a.st.1 hk8a.st.2.1 (cX_2211 hk8a).1 ?_
  refine zF_iconst 84 dX8_clear_83 rfl ?_
  refine zF_callS 87 (d2 := d) (as := [zR (B 2211), zI 0]) dX8_clear_84 rfl kX8_61 sJ7_fill_53178 (Nat.le_refl _) rfl rfl (Nat.le_of_ble_eq_true rfl) (zE.mono (zt_J7_fill (σ := σa8) (cX_2211 hk8a).2.2 (cX_2211 hk8a).2.1 (by decide)) fun ro σa9 hh9 => ?_)
  obtain ⟨er9, fr9, p9⟩ := hh9
  subst er9
  refine ⟨fr9.1, ?_⟩
  show zF G mX8_clear (d + 1) 87 [(0, zR (B 2200))] [] σa9 _
  have hk9a := cCt_fr (σ := σa8) hk8a fr9
  have r9x2203 := (row_fr (σ := σa8) hk.inj fr9 (by decide) r8x2203)
  have r9x2204 := (row_fr (σ := σa8) hk.inj fr9 (by decide) r8x2204)
  have r9x2205 := (row_fr (σ := σa8) hk.inj fr9 (by decide) r8x2205)
  have r9x2206 := (row_fr (σ := σa8) hk.inj fr9 (by decide) r8x2206)
  have r9x2207 := (row_fr (σ := σa8) hk.inj fr9 (by decide) r8x2207)
  have r9x2208 := (row_fr (σ := σa8) hk.inj fr9 (by decide) r8x2208)
  have r9x2209 := (row_fr (σ := σa8) hk.inj fr9 (by decide) r8x2209)
  have r9x2210 := (row_fr (σ := σa8) hk.inj fr9 (by decide) p8)
  have g9x0 : zia σa9 (B 2200) ((0 : Nat) : Int) = 0 := fld_fr (σ := σa8) hk.inj fr9 (by decide) g8x0
  have g9x1 : zia σa9 (B 2200) ((1 : Nat) : Int) = 0 := fld_fr (σ := σa8) hk.inj fr9 (by decide) g8x1
  have g9x2 : zia σa9 (B 2200) ((2 : Nat) : Int) = 0 := fld_fr (σ := σa8) hk.inj fr9 (by decide) g8x2
  refine zF_aload_n 88 dX8_clear_87 rfl rfl ?_
  refine zF_getR 91 dX8_clear_88 rfl gX8_39 hk9a.st.1 hk9a.st.2.1 (cX_2212 hk9a).1 ?_
  refine zF_iconst 92 dX8_clear_91 rfl ?_
  refine zF_callS 95 (d2 := d) (as := [zR (B 2212), zI 0]) dX8_clear_92 rfl kX8_61 sJ7_fill_53178 (Nat.le_refl _) rfl rfl (Nat.le_of_ble_eq_true rfl) (zE.mono (zt_J7_fill (σ := σa9) (cX_2212 hk9a).2.2 (cX_2212 hk9a).2.1 (by decide)) fun ro σa10 hh10 => ?_)
  obtain ⟨er10, fr10, p10⟩ := hh10
  subst er10
  refine ⟨fr10.1, ?_⟩
  show zF G mX8_clear (d + 1) 95 [(0, zR (B 2200))] [] σa10 _
  have hk10a := cCt_fr (σ := σa9) hk9a fr10
  have r10x2203 := (row_fr (σ := σa9) hk.inj fr10 (by decide) r9x2203)
  have r10x2204 := (row_fr (σ := σa9) hk.inj fr10 (by decide) r9x2204)
  have r10x2205 := (row_fr (σ := σa9) hk.inj fr10 (by decide) r9x2205)
  have r10x2206 := (row_fr (σ := σa9) hk.inj fr10 (by decide) r9x2206)
  have r10x2207 := (row_fr (σ := σa9) hk.inj fr10 (by decide) r9x2207)
  have r10x2208 := (row_fr (σ := σa9) hk.inj fr10 (by decide) r9x2208)
  have r10x2209 := (row_fr (σ := σa9) hk.inj fr10 (by decide) r9x2209)
  have r10x2210 := (row_fr (σ := σa9) hk.inj fr10 (by decide) r9x2210)
  have r10x2211 := (row_fr (σ := σa9) hk.inj fr10 (by decide) p9)
  have g10x0 : zia σa10 (B 2200) ((0 : Nat) : Int) = 0 := fld_fr (σ := σa9) hk.inj fr10 (by decide) g9x0
  have g10x1 : zia σa10 (B 2200) ((1 : Nat) : Int) = 0 := fld_fr (σ := σa9) hk.inj fr10 (by decide) g9x1
  have g10x2 : zia σa10 (B 2200) ((2 : Nat) : Int) = 0 := fld_fr (σ := σa9) hk.inj fr10 (by decide) g9x2
  refine zF_aload_n 96 dX8_clear_95 rfl rfl ?_
  refine zF_getR 99 dX8_clear_96 rfl gX8_42 hk10a.st.1 hk10a.st.2.1 (cX_2213 hk10a).1 ?_
  refine zF_iconst 100 dX8_clear_99 rfl ?_
  refine zF_callS 103 (d2 := d) (as := [zR (B 2213), zI 0]) dX8_clear_100 rfl kX8_61 sJ7_fill_53178 (Nat.le_refl _) rfl rfl (Nat.le_of_ble_eq_true rfl) (zE.mono (zt_J7_fill (σ := σa10) (cX_2213 hk10a).2.2 (cX_2213 hk10a).2.1 (by decide)) fun ro σa11 hh11 => ?_)
  obtain ⟨er11, fr11, p11⟩ := hh11
  subst er11
  refine ⟨fr11.1, ?_⟩
  show zF G mX8_clear (d + 1) 103 [(0, zR (B 2200))] [] σa11 _
  have hk11a := cCt_fr (σ := σa10) hk10a fr11
  have r11x2203 := (row_fr (σ := σa10) hk.inj fr11 (by decide) r10x2203)
  have r11x2204 := (row_fr (σ := σa10) hk.inj fr11 (by decide) r10x2204)
  have r11x2205 := (row_fr (σ := σa10) hk.inj fr11 (by decide) r10x2205)
  have r11x2206 := (row_fr (σ := σa10) hk.inj fr11 (by decide) r10x2206)
  have r11x2207 := (row_fr (σ := σa10) hk.inj fr11 (by decide) r10x2207)
  have r11x2208 := (row_fr (σ := σa10) hk.inj fr11 (by decide) r10x2208)
  have r11x2209 := (row_fr (σ := σa10) hk.inj fr11 (by decide) r10x2209)
  have r11x2210 := (row_fr (σ := σa10) hk.inj fr11 (by decide) r10x2210)
  have r11x2211 := (row_fr (σ := σa10) hk.inj fr11 (by decide) r10x2211)
  have r11x2212 := (row_fr (σ := σa10) hk.inj fr11 (by decide) p10)
  have g11x0 : zia σa11 (B 2200) ((0 : Nat) : Int) = 0 := fld_fr (σ := σa10) hk.inj fr11 (by decide) g10x0
  have g11x1 : zia σa11 (B 2200) ((1 : Nat) : Int) = 0 := fld_fr (σ := σa10) hk.inj fr11 (by decide) g10x1
  have g11x2 : zia σa11 (B 2200) ((2 : Nat) : Int) = 0 := fld_fr (σ := σa10) hk.inj fr11 (by decide) g10x2
  refine zF_aload_n 104 dX8_clear_103 rfl rfl ?_
  refine zF_getR 107 dX8_clear_104 rfl gX8_45 hk11a.st.1 hk11a.st.2.1 (cX_2214 hk11a).1 ?_
  refine zF_iconst 108 dX8_clear_107 rfl ?_
  refine zF_callS 111 (d2 := d) (as := [zR (B 2214), zI 0]) dX8_clear_108 rfl kX8_61 sJ7_fill_53178 (Nat.le_refl _) rfl rfl (Nat.le_of_ble_eq_true rfl) (zE.mono (zt_J7_fill (σ := σa11) (cX_2214 hk11a).2.2 (cX_2214 hk11a).2.1 (by decide)) fun ro σa12 hh12 => ?_)
  obtain ⟨er12, fr12, p12⟩ := hh12
  subst er12
  refine ⟨fr12.1, ?_⟩
  show zF G mX8_clear (d + 1) 111 [(0, zR (B 2200))] [] σa12 _
  have hk12a := cCt_fr (σ := σa11) hk11a fr12
  have r12x2203 := (row_fr (σ := σa11) hk.inj fr12 (by decide) r11x2203)
  have r12x2204 := (row_fr (σ := σa11) hk.inj fr12 (by decide) r11x2204)
  have r12x2205 := (row_fr (σ := σa11) hk.inj fr12 (by decide) r11x2205)
  have r12x2206 := (row_fr (σ := σa11) hk.inj fr12 (by decide) r11x2206)
  have r12x2207 := (row_fr (σ := σa11) hk.inj fr12 (by decide) r11x2207)
  have r12x2208 := (row_fr (σ := σa11) hk.inj fr12 (by decide) r11x2208)
  have r12x2209 := (row_fr (σ := σa11) hk.inj fr12 (by decide) r11x2209)
  have r12x2210 := (row_fr (σ := σa11) hk.inj fr12 (by decide) r11x2210)
  have r12x2211 := (row_fr (σ := σa11) hk.inj fr12 (by decide) r11x2211)
  have r12x2212 := (row_fr (σ := σa11) hk.inj fr12 (by decide) r11x2212)
  have r12x2213 := (row_fr (σ := σa11) hk.inj fr12 (by decide) p11)
  have g12x0 : zia σa12 (B 2200) ((0 : Nat) : Int) = 0 := fld_fr (σ := σa11) hk.inj fr12 (by decide) g11x0
  have g12x1 : zia σa12 (B 2200) ((1 : Nat) : Int) = 0 := fld_fr (σ := σa11) hk.inj fr12 (by decide) g11x1
  have g12x2 : zia σa12 (B 2200) ((2 : Nat) : Int) = 0 := fld_fr (σ := σa11) hk.inj fr12 (by decide) g11x2
  refine zF_aload_n 112 dX8_clear_111 rfl rfl ?_
  refine zF_getR 115 dX8_clear_112 rfl gX8_48 hk12a.st.1 hk12a.st.2.1 (cX_2215 hk12a).1 ?_
  refine zF_iconst 116 dX8_clear_115 rfl ?_
  refine zF_callS 119 (d2 := d) (as := [zR (B 2215), zI 0]) dX8_clear_116 rfl kX8_61 sJ7_fill_53178 (Nat.le_refl _) rfl rfl (Nat.le_of_ble_eq_true rfl) (zE.mono (zt_J7_fill (σ := σa12) (cX_2215 hk12a).2.2 (cX_2215 hk12a).2.1 (by decide)) fun ro σa13 hh13 => ?_)
  obtain ⟨er13, fr13, p13⟩ := hh13
  subst er13
  refine ⟨fr13.1, ?_⟩
  show zF G mX8_clear (d + 1) 119 [(0, zR (B 2200))] [] σa13 _
  have hk13a := cCt_fr (σ := σa12) hk12a fr13
  have r13x2203 := (row_fr (σ := σa12) hk.inj fr13 (by decide) r12x2203)
  have r13x2204 := (row_fr (σ := σa12) hk.inj fr13 (by decide) r12x2204)
  have r13x2205 := (row_fr (σ := σa12) hk.inj fr13 (by decide) r12x2205)
  have r13x2206 := (row_fr (σ := σa12) hk.inj fr13 (by decide) r12x2206)
  have r13x2207 := (row_fr (σ := σa12) hk.inj fr13 (by decide) r12x2207)
  have r13x2208 := (row_fr (σ := σa12) hk.inj fr13 (by decide) r12x2208)
  have r13x2209 := (row_fr (σ := σa12) hk.inj fr13 (by decide) r12x2209)
  have r13x2210 := (row_fr (σ := σa12) hk.inj fr13 (by decide) r12x2210)
  have r13x2211 := (row_fr (σ := σa12) hk.inj fr13 (by decide) r12x2211)
  have r13x2212 := (row_fr (σ := σa12) hk.inj fr13 (by decide) r12x2212)
  have r13x2213 := (row_fr (σ := σa12) hk.inj fr13 (by decide) r12x2213)
  have r13x2214 := (row_fr (σ := σa12) hk.inj fr13 (by decide) p12)
  have g13x0 : zia σa13 (B 2200) ((0 : Nat) : Int) = 0 := fld_fr (σ := σa12) hk.inj fr13 (by decide) g12x0
  have g13x1 : zia σa13 (B 2200) ((1 : Nat) : Int) = 0 := fld_fr (σ := σa12) hk.inj fr13 (by decide) g12x1
  have g13x2 : zia σa13 (B 2200) ((2 : Nat) : Int) = 0 := fld_fr (σ := σa12) hk.inj fr13 (by decide) g12x2
  exact zF_return dX8_clear_119 rfl (⟨rfl, ((((((((((((((zFr_si ⟨2200, by decide, by decide, rfl⟩ (zFr_si ⟨2200, by decide, by decide, rfl⟩ (zFr_si ⟨2200, by decide, by decide, rfl⟩ zFr.rf))).tr (fr1.wk fun y _ q => ⟨2203, by decide, by decide, q⟩)).tr (fr2.wk fun y _ q => ⟨2204, by decide, by decide, q⟩)).tr (fr3.wk fun y _ q => ⟨2205, by decide, by decide, q⟩)).tr (fr4.wk fun y _ q => ⟨2206, by decide, by decide, q⟩)).tr (fr5.wk fun y _ q => ⟨2207, by decide, by decide, q⟩)).tr (fr6.wk fun y _ q => ⟨2208, by decide, by decide, q⟩)).tr (fr7.wk fun y _ q => ⟨2209, by decide, by decide, q⟩)).tr (fr8.wk fun y _ q => ⟨2210, by decide, by decide, q⟩)).tr (fr9.wk fun y _ q => ⟨2211, by decide, by decide, q⟩)).tr (fr10.wk fun y _ q => ⟨2212, by decide, by decide, q⟩)).tr (fr11.wk fun y _ q => ⟨2213, by decide, by decide, q⟩)).tr (fr12.wk fun y _ q => ⟨2214, by decide, by decide, q⟩)).tr (fr13.wk fun y _ q => ⟨2215, by decide, by decide, q⟩)), ⟨g13x0, g13x1, g13x2⟩, r13x2205, ⟨r13x2206, r13x2207, r13x2208, r13x2209⟩, ⟨r13x2210, r13x2212⟩, r13x2213, r13x2214⟩)
theorem zt_X2_read (hG : zOS G) (hk : cCt σ B) (hT : cTk σ B t L) (hb : ∀ j, zrg (f j)) : zE G mX2_read (d + 8) [zR (B 30), zI (L : Int)] σ (fun ro σ1 => ro = .inl none ∧ zFr (PLd B) σ σ1 ∧ ∃ k, ldT t L ((0, 0), zcz f) k ∧ cTs σ1 B t L (ldI t L ((0, 0), zcz f) k).1 ∧ ((ldI t L ((0, 0), zcz f) k).1.2 = 0 → ldV (ldI t L ((0, 0), zcz f) k).2 ∧ cDm (ldI t L ((0, 0), zcz f) k).2 σ1 B)) := by
  refine zE_of rfl (by simp [zcat]) (Nat.le_of_ble_eq_true rfl) ?_
  show zF G mX2_read (d + 8) 0 [(0, zR (B 30)), (1, zI (L : Int))] [] σ _
  have hL7 : L ≤ 700 := hT.2.2.2.2.2.2.1
  refine zF_aload_n 1 dX2_read_0 rfl rfl ?_
  refine zF_getR 4 dX2_read_1 rfl gX2_12 hk.1 hk.2.1 hk.2.2.2.1 ?_
  refine zF_callV 7 (d2 := (d + 7)) (as := []) dX2_read_4 rfl kX2_29 iX1_clear (ci := 1) rfl eX1_clear (Nat.le_refl _) hk.ch.1 hk.ch.2.1 rfl rfl (Nat.le_of_ble_eq_true rfl) (zE.mono (zt_X1_clear9 hk) fun ro σa1 hh1 => ?_)
  obtain ⟨er1, fr1, p1⟩ := hh1
  subst er1
  refine ⟨fr1.1, ?_⟩
  show zF G mX2_read (d + 8) 7 [(0, zR (B 30)), (1, zI (L : Int))] [] σa1 _
  have hk1a := cCt_fr (σ := σ) hk fr1
  have f1L : zFr (PLd B) σ σa1 := fr1.wk fun y _ q => Or.inr ⟨2100, by decide, by decide, q⟩
  have hT1a := cTk_l hk hT f1L
  refine zF_aload_n 8 dX2_read_7 rfl rfl ?_
  refine zF_getR 11 dX2_read_8 rfl gX2_21 hk1a.1 hk1a.2.1 hk1a.2.2.2.2.1 ?_
  refine zF_callV 14 (d2 := (d + 7)) (as := []) dX2_read_11 rfl kX2_32 iX8_clear (ci := 8) rfl eX8_clear (Nat.le_refl _) hk1a.st.1 hk1a.st.2.1 rfl rfl (Nat.le_of_ble_eq_true rfl) (zE.mono (zt_X8_clear9 hk1a) fun ro σa2 hh2 => ?_)
  obtain ⟨er2, fr2, p2⟩ := hh2
  subst er2
  refine ⟨fr2.1, ?_⟩
  show zF G mX2_read (d + 8) 14 [(0, zR (B 30)), (1, zI (L : Int))] [] σa2 _
  have hk2a := cCt_fr (σ := σa1) hk1a fr2
  have f2L : zFr (PLd B) σ σa2 := f1L.tr (fr2.wk fun y _ q => Or.inr (q.elim fun k q => ⟨k, by omega, by omega, q.2.2⟩))
  have hT2a := cTk_l hk hT f2L
  have c0a : cDm (zcz f) σa2 B := cD_0 ((fr2.2.2.2.2.2 _ _ fun ⟨k, a, b, q⟩ => by have := hk.inj _ _ q; omega).trans p1.1) ((fr2.2.2.2.2.2 _ _ fun ⟨k, a, b, q⟩ => by have := hk.inj _ _ q; omega).trans p1.2.1) ((fr2.2.2.2.2.2 _ _ fun ⟨k, a, b, q⟩ => by have := hk.inj _ _ q; omega).trans p1.2.2) p2
  refine zF_aload_n 15 dX2_read_14 rfl rfl ?_
  refine zF_getR 18 dX2_read_15 rfl gX2_25 hk2a.1 hk2a.2.1 hk2a.2.2.1 ?_
  refine zF_iload_n 19 dX2_read_18 rfl rfl ?_
  refine zF_callV 22 (d2 := (d + 7)) (as := [zI (L : Int)]) dX2_read_19 rfl kX2_33 iX9_begin (ci := 9) rfl eX9_begin (Nat.le_refl _) hT2a.1 hT2a.2.1 rfl rfl (Nat.le_of_ble_eq_true rfl) (zE.mono (zt_X9_begin hT2a) fun ro σa3 hh3 => ?_)
  obtain ⟨er3, fr3, p3⟩ := hh3
  subst er3
  refine ⟨fr3.1, ?_⟩
  show zF G mX2_read (d + 8) 22 [(0, zR (B 30)), (1, zI (L : Int))] [] σa3 _
  have hk3a := cCt_fr (σ := σa2) hk2a fr3
  have f3L : zFr (PLd B) σ σa3 := f2L.tr (PTk_l fr3)
  have hT3a := cTk_l hk hT f3L
  have c0b : cDm (zcz f) σa3 B := cDm_tk hk2a fr3 c0a
  refine zF_iconst 23 dX2_read_22 rfl ?_
  refine zF_istore_n 24 (ls' := [(2, zI 0), (0, zR (B 30)), (1, zI (L : Int))]) dX2_read_23 rfl (by decide) rfl ?_
  refine zF_locs (ls' := [(2, zI ((0 : Nat) : Int)), (0, zR (B 30)), (1, zI (L : Int))]) ⟨zlI rfl (by first | rfl | omega | (push_cast; omega) | exact congrArg (_ + ·) (zbT (by assumption)) | exact congrArg (_ + ·) (zbF (by assumption)) | exact congrArg (_ + ·) (zbT (by omega)) | exact congrArg (_ + ·) (zbF (by omega)) | exact congrArg (_ + ·) (if_pos (by omega)).symm | exact congrArg (_ + ·) (if_neg (by omega)).symm | exact (if_pos (by omega)).symm | exact (if_neg (by omega)).symm | exact zsub_s (if_pos (by omega)).symm | exact zsub_s0 (if_neg (by omega)).symm | exact zadd0 (if_neg (by omega)).symm | exact zadd0 (zbF (by omega)) | exact (Int.sub_zero _).symm), rfl, rfl, trivial⟩ ?_
  refine zF_while (X := Nat) (fun n => ldM t L ((0, 0), zcz f) n) (fun n σ2 => zFr (PLd B) σ σ2 ∧ cTs σ2 B t L (ldI t L ((0, 0), zcz f) n).1 ∧ ((ldI t L ((0, 0), zcz f) n).1.2 = 0 → cDm (ldI t L ((0, 0), zcz f) n).2 σ2 B) ∧ ldW t L ((0, 0), zcz f) n ∧ ((ldI t L ((0, 0), zcz f) n).1.2 = 0 → n ≤ (ldI t L ((0, 0), zcz f) n).1.1) ∧ n ≤ 700) (fun n => [(2, zI ((n : Nat) : Int)), (0, zR (B 30)), (1, zI (L : Int))]) ?_ 0 σa3 (⟨f3L, p3, fun _ => c0b, ⟨fun m hm9 => absurd hm9 (Nat.not_lt_zero _), fun _ => ldV_0 hb⟩, fun _ => Nat.zero_le _, Nat.zero_le _⟩)
  intro n σ2 hI24 ih24
  show zF G mX2_read (d + 8) 24 [(2, zI ((n : Nat) : Int)), (0, zR (B 30)), (1, zI (L : Int))] [] σ2 _
  obtain ⟨f2, hs2, hd2, hw2, hp2, hn7⟩ := hI24
  have hk2 := cCt_fr hk f2
  have hT2 := cTk_l hk hT f2
  have kdb : 0 ≤ tKd t L (ldI t L ((0, 0), zcz f) n).1 ∧ tKd t L (ldI t L ((0, 0), zcz f) n).1 ≤ 3 := by have kb := tk_b t L (ldI t L ((0, 0), zcz f) n).1.1; unfold tKd; split <;> omega
  refine zF_iload_n 25 dX2_read_24 rfl rfl ?_
  refine zF_sipush 28 dX2_read_25 rfl (by decide) ?_
  refine zF_icmp_ge 51 31 dX2_read_28 rfl rfl (by first | decide | assumption | (constructor <;> omega)) (by first | decide | assumption | (constructor <;> omega)) (fun c1 => ?_) (fun c1 => ?_)
  · have hK : tKd t L (ldI t L ((0, 0), zcz f) n).1 = 0 := by first | omega | (by_cases z : (ldI t L ((0, 0), zcz f) n).1.2 = 0; rw [tKd_0 z]; exact tk_far hs2.1 (by have := hp2 z; omega); exact tKd_e z)
    exact zF_return dX2_read_51 rfl (⟨rfl, f2, n, ⟨hK, hw2.1⟩, hs2, fun z => ⟨hw2.2 z, hd2 z⟩⟩)
  · refine zF_aload_n 32 dX2_read_31 rfl rfl ?_
    refine zF_getR 35 dX2_read_32 rfl gX2_25 hk2.1 hk2.2.1 hk2.2.2.1 ?_
    refine zF_getI 38 dX2_read_35 rfl gX2_39 (by decide) (by decide) hT2.1 hT2.2.1 hs2.2.2.2.2.1 ?_
    refine zF_if_eq 51 41 dX2_read_38 rfl rfl (by first | decide | assumption | (constructor <;> omega)) (fun c2 => ?_) (fun c2 => ?_)
    · have hK : tKd t L (ldI t L ((0, 0), zcz f) n).1 = 0 := by first | omega | (by_cases z : (ldI t L ((0, 0), zcz f) n).1.2 = 0; rw [tKd_0 z]; exact tk_far hs2.1 (by have := hp2 z; omega); exact tKd_e z)
      exact zF_return dX2_read_51 rfl (⟨rfl, f2, n, ⟨hK, hw2.1⟩, hs2, fun z => ⟨hw2.2 z, hd2 z⟩⟩)
    · have h0 : (ldI t L ((0, 0), zcz f) n).1.2 = 0 := tKd_z (t := t) (L := L) (by omega)
      refine zF_aload_n 42 dX2_read_41 rfl rfl ?_
      refine zF_callV 45 (d2 := (d + 7)) (as := []) dX2_read_42 rfl kX2_43 iX2_readClause (ci := 2) rfl eX2_readClause (Nat.le_refl _) hk2.1 hk2.2.1 rfl rfl (Nat.le_of_ble_eq_true rfl) (zE.mono (zt_X2_readClause (s := (ldI t L ((0, 0), zcz f) n).1) (D := (ldI t L ((0, 0), zcz f) n).2) hG hk2 hT2 hs2 (hd2 h0) (hw2.2 h0) h0) fun ro σa4 hh4 => ?_)
      obtain ⟨er4, fr4, p4⟩ := hh4
      subst er4
      refine ⟨fr4.1, ?_⟩
      show zF G mX2_read (d + 8) 45 [(2, zI ((n : Nat) : Int)), (0, zR (B 30)), (1, zI (L : Int))] [] σa4 _
      refine zF_iinc 48 (ls' := [(2, zI (((n : Nat) : Int) + 1)), (0, zR (B 30)), (1, zI (L : Int))]) dX2_read_45 rfl rfl rfl (by decide) rfl ?_
      refine zF_goto 24 dX2_read_48 rfl ?_
      exact zF_locs (ls' := [(2, zI (((n + 1) : Nat) : Int)), (0, zR (B 30)), (1, zI (L : Int))]) ⟨zlI rfl (by first | rfl | omega | (push_cast; omega) | exact congrArg (_ + ·) (zbT (by assumption)) | exact congrArg (_ + ·) (zbF (by assumption)) | exact congrArg (_ + ·) (zbT (by omega)) | exact congrArg (_ + ·) (zbF (by omega)) | exact congrArg (_ + ·) (if_pos (by omega)).symm | exact congrArg (_ + ·) (if_neg (by omega)).symm | exact (if_pos (by omega)).symm | exact (if_neg (by omega)).symm | exact zsub_s (if_pos (by omega)).symm | exact zsub_s0 (if_neg (by omega)).symm | exact zadd0 (if_neg (by omega)).symm | exact zadd0 (zbF (by omega)) | exact (Int.sub_zero _).symm), rfl, rfl, trivial⟩ (ih24 (n + 1) _ (ldM_dec (Nat.zero_le _) h0) (⟨f2.tr fr4, p4.1, p4.2, ⟨fun m hm9 => by
          by_cases q : m = n
          · subst q; omega
          · exact hw2.1 m (by omega), fun z => ldC_V (hw2.2 h0) z⟩, fun z => by have q := ldC_p (t := t) (L := L) (D := (ldI t L ((0, 0), zcz f) n).2) hs2.1 h0 z; have q2 := hp2 h0; have q3 : (ldI t L ((0, 0), zcz f) (n + 1)).1.1 = (ldC t L ((ldI t L ((0, 0), zcz f) n).1, (ldI t L ((0, 0), zcz f) n).2)).1.1 := rfl; omega, by omega⟩))
end ZCR

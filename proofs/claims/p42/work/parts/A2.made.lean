/-! the class made from nothing -/
section ZNB
variable {G : zG} {d : Nat} {σ σ0 σ1 : zMem} {B : Nat → Nat} {f : Int → Int}
def cS2 (σ : zMem) (B : Nat → Nat) : Prop := cSt σ B 2200 ∧ ∀ i j, B i = B j → i = j
theorem cS2_fr {P : Nat → Int → Prop} (h : cS2 σ B) (f : zFr P σ σ1) : cS2 σ1 B := by
  refine ⟨?_, h.2⟩
  have h1 := h.1
  unfold cSt at h1 ⊢
  rw [f.1, f.2.1, f.2.2.1]
  exact h1
theorem cS2_2203 (h : cS2 σ B) : zra σ (B 2200) ((3 : Nat) : Int) = some (B 2203) ∧ B 2203 < zn σ ∧ zkd σ (B 2203) = (1, 4) := h.1.2.2 3 4 (by decide)
theorem cS2_2204 (h : cS2 σ B) : zra σ (B 2200) ((4 : Nat) : Int) = some (B 2204) ∧ B 2204 < zn σ ∧ zkd σ (B 2204) = (1, 10) := h.1.2.2 4 10 (by decide)
theorem cS2_2205 (h : cS2 σ B) : zra σ (B 2200) ((5 : Nat) : Int) = some (B 2205) ∧ B 2205 < zn σ ∧ zkd σ (B 2205) = (1, 30) := h.1.2.2 5 30 (by decide)
theorem cS2_2206 (h : cS2 σ B) : zra σ (B 2200) ((6 : Nat) : Int) = some (B 2206) ∧ B 2206 < zn σ ∧ zkd σ (B 2206) = (1, 10) := h.1.2.2 6 10 (by decide)
theorem cS2_2207 (h : cS2 σ B) : zra σ (B 2200) ((7 : Nat) : Int) = some (B 2207) ∧ B 2207 < zn σ ∧ zkd σ (B 2207) = (1, 10) := h.1.2.2 7 10 (by decide)
theorem cS2_2208 (h : cS2 σ B) : zra σ (B 2200) ((8 : Nat) : Int) = some (B 2208) ∧ B 2208 < zn σ ∧ zkd σ (B 2208) = (1, 10) := h.1.2.2 8 10 (by decide)
theorem cS2_2209 (h : cS2 σ B) : zra σ (B 2200) ((9 : Nat) : Int) = some (B 2209) ∧ B 2209 < zn σ ∧ zkd σ (B 2209) = (1, 10) := h.1.2.2 9 10 (by decide)
theorem cS2_2210 (h : cS2 σ B) : zra σ (B 2200) ((10 : Nat) : Int) = some (B 2210) ∧ B 2210 < zn σ ∧ zkd σ (B 2210) = (1, 6) := h.1.2.2 10 6 (by decide)
theorem cS2_2211 (h : cS2 σ B) : zra σ (B 2200) ((11 : Nat) : Int) = some (B 2211) ∧ B 2211 < zn σ ∧ zkd σ (B 2211) = (1, 6) := h.1.2.2 11 6 (by decide)
theorem cS2_2212 (h : cS2 σ B) : zra σ (B 2200) ((12 : Nat) : Int) = some (B 2212) ∧ B 2212 < zn σ ∧ zkd σ (B 2212) = (1, 6) := h.1.2.2 12 6 (by decide)
theorem cS2_2213 (h : cS2 σ B) : zra σ (B 2200) ((13 : Nat) : Int) = some (B 2213) ∧ B 2213 < zn σ ∧ zkd σ (B 2213) = (1, 24) := h.1.2.2 13 24 (by decide)
theorem cS2_2214 (h : cS2 σ B) : zra σ (B 2200) ((14 : Nat) : Int) = some (B 2214) ∧ B 2214 < zn σ ∧ zkd σ (B 2214) = (1, 4) := h.1.2.2 14 4 (by decide)
theorem cS2_2215 (h : cS2 σ B) : zra σ (B 2200) ((15 : Nat) : Int) = some (B 2215) ∧ B 2215 < zn σ ∧ zkd σ (B 2215) = (1, 100) := h.1.2.2 15 100 (by decide)
theorem zt_X8_clear0 (hk : cS2 σ B) : zE G mX8_clear (d + 1) [zR (B 2200)] σ (fun ro σ1 => ro = .inl none ∧ zFr (zRg 2200 2216 B) σ σ1 ∧ cZs σ1 B) := by
  refine zE_of rfl (by simp [zcat]) (Nat.le_of_ble_eq_true rfl) ?_
  show zF G mX8_clear (d + 1) 0 [(0, zR (B 2200))] [] σ _
  refine zF_aload_n 1 dX8_clear_0 rfl rfl ?_
  refine zF_iconst 2 dX8_clear_1 rfl ?_
  refine zF_putI 5 dX8_clear_2 rfl pX8_clear_51 (Or.inl rfl) hk.1.1 hk.1.2.1 ?_
  refine zF_aload_n 6 dX8_clear_5 rfl rfl ?_
  refine zF_iconst 7 dX8_clear_6 rfl ?_
  refine zF_putI 10 dX8_clear_7 rfl pX8_clear_55 (Or.inl rfl) hk.1.1 hk.1.2.1 ?_
  refine zF_aload_n 11 dX8_clear_10 rfl rfl ?_
  refine zF_iconst 12 dX8_clear_11 rfl ?_
  refine zF_putI 15 dX8_clear_12 rfl pX8_clear_58 (Or.inl rfl) hk.1.1 hk.1.2.1 ?_
  refine zF_aload_n 16 dX8_clear_15 rfl rfl ?_
  refine zF_getR 19 dX8_clear_16 rfl gX8_9 hk.1.1 hk.1.2.1 (cS2_2203 hk).1 ?_
  refine zF_iconst 20 dX8_clear_19 rfl ?_
  refine zF_callS 23 (d2 := d) (as := [zR (B 2203), zI 0]) dX8_clear_20 rfl kX8_61 sJ7_fill_53178 (Nat.le_refl _) rfl rfl (Nat.le_of_ble_eq_true rfl) (zE.mono (zt_J7_fill (σ := (zsi (zsi (zsi σ (B 2200) ((0 : Nat) : Int) 0) (B 2200) ((1 : Nat) : Int) 0) (B 2200) ((2 : Nat) : Int) 0)) (cS2_2203 hk).2.2 (cS2_2203 hk).2.1 (by decide)) fun ro σa1 hh1 => ?_)
  obtain ⟨er1, fr1, p1⟩ := hh1
  subst er1
  refine ⟨fr1.1, ?_⟩
  show zF G mX8_clear (d + 1) 23 [(0, zR (B 2200))] [] σa1 _
  have hk1a := cS2_fr (σ := (zsi (zsi (zsi σ (B 2200) ((0 : Nat) : Int) 0) (B 2200) ((1 : Nat) : Int) 0) (B 2200) ((2 : Nat) : Int) 0)) hk fr1
  have g1x0 : zia σa1 (B 2200) ((0 : Nat) : Int) = 0 := fld_fr (σ := (zsi (zsi (zsi σ (B 2200) ((0 : Nat) : Int) 0) (B 2200) ((1 : Nat) : Int) 0) (B 2200) ((2 : Nat) : Int) 0)) hk.2 fr1 (by decide) (zsi_F (by decide) (zsi_F (by decide) (zsi_same _ _ _ _)))
  have g1x1 : zia σa1 (B 2200) ((1 : Nat) : Int) = 0 := fld_fr (σ := (zsi (zsi (zsi σ (B 2200) ((0 : Nat) : Int) 0) (B 2200) ((1 : Nat) : Int) 0) (B 2200) ((2 : Nat) : Int) 0)) hk.2 fr1 (by decide) (zsi_F (by decide) (zsi_same _ _ _ _))
  have g1x2 : zia σa1 (B 2200) ((2 : Nat) : Int) = 0 := fld_fr (σ := (zsi (zsi (zsi σ (B 2200) ((0 : Nat) : Int) 0) (B 2200) ((1 : Nat) : Int) 0) (B 2200) ((2 : Nat) : Int) 0)) hk.2 fr1 (by decide) (zsi_same _ _ _ _)
  refine zF_aload_n 24 dX8_clear_23 rfl rfl ?_
  refine zF_getR 27 dX8_clear_24 rfl gX8_15 hk1a.1.1 hk1a.1.2.1 (cS2_2204 hk1a).1 ?_
  refine zF_iconst 28 dX8_clear_27 rfl ?_
  refine zF_callS 31 (d2 := d) (as := [zR (B 2204), zI 0]) dX8_clear_28 rfl kX8_61 sJ7_fill_53178 (Nat.le_refl _) rfl rfl (Nat.le_of_ble_eq_true rfl) (zE.mono (zt_J7_fill (σ := σa1) (cS2_2204 hk1a).2.2 (cS2_2204 hk1a).2.1 (by decide)) fun ro σa2 hh2 => ?_)
  obtain ⟨er2, fr2, p2⟩ := hh2
  subst er2
  refine ⟨fr2.1, ?_⟩
  show zF G mX8_clear (d + 1) 31 [(0, zR (B 2200))] [] σa2 _
  have hk2a := cS2_fr (σ := σa1) hk1a fr2
  have r2x2203 := (row_fr (σ := σa1) hk.2 fr2 (by decide) p1)
  have g2x0 : zia σa2 (B 2200) ((0 : Nat) : Int) = 0 := fld_fr (σ := σa1) hk.2 fr2 (by decide) g1x0
  have g2x1 : zia σa2 (B 2200) ((1 : Nat) : Int) = 0 := fld_fr (σ := σa1) hk.2 fr2 (by decide) g1x1
  have g2x2 : zia σa2 (B 2200) ((2 : Nat) : Int) = 0 := fld_fr (σ := σa1) hk.2 fr2 (by decide) g1x2
  refine zF_aload_n 32 dX8_clear_31 rfl rfl ?_
  refine zF_getR 35 dX8_clear_32 rfl gX8_18 hk2a.1.1 hk2a.1.2.1 (cS2_2205 hk2a).1 ?_
  refine zF_iconst 36 dX8_clear_35 rfl ?_
  refine zF_callS 39 (d2 := d) (as := [zR (B 2205), zI 0]) dX8_clear_36 rfl kX8_61 sJ7_fill_53178 (Nat.le_refl _) rfl rfl (Nat.le_of_ble_eq_true rfl) (zE.mono (zt_J7_fill (σ := σa2) (cS2_2205 hk2a).2.2 (cS2_2205 hk2a).2.1 (by decide)) fun ro σa3 hh3 => ?_)
  obtain ⟨er3, fr3, p3⟩ := hh3
  subst er3
  refine ⟨fr3.1, ?_⟩
  show zF G mX8_clear (d + 1) 39 [(0, zR (B 2200))] [] σa3 _
  have hk3a := cS2_fr (σ := σa2) hk2a fr3
  have r3x2203 := (row_fr (σ := σa2) hk.2 fr3 (by decide) r2x2203)
  have r3x2204 := (row_fr (σ := σa2) hk.2 fr3 (by decide) p2)
  have g3x0 : zia σa3 (B 2200) ((0 : Nat) : Int) = 0 := fld_fr (σ := σa2) hk.2 fr3 (by decide) g2x0
  have g3x1 : zia σa3 (B 2200) ((1 : Nat) : Int) = 0 := fld_fr (σ := σa2) hk.2 fr3 (by decide) g2x1
  have g3x2 : zia σa3 (B 2200) ((2 : Nat) : Int) = 0 := fld_fr (σ := σa2) hk.2 fr3 (by decide) g2x2
  refine zF_aload_n 40 dX8_clear_39 rfl rfl ?_
  refine zF_getR 43 dX8_clear_40 rfl gX8_21 hk3a.1.1 hk3a.1.2.1 (cS2_2206 hk3a).1 ?_
  refine zF_iconst 44 dX8_clear_43 rfl ?_
  refine zF_callS 47 (d2 := d) (as := [zR (B 2206), zI (-1)]) dX8_clear_44 rfl kX8_61 sJ7_fill_53178 (Nat.le_refl _) rfl rfl (Nat.le_of_ble_eq_true rfl) (zE.mono (zt_J7_fill (σ := σa3) (cS2_2206 hk3a).2.2 (cS2_2206 hk3a).2.1 (by decide)) fun ro σa4 hh4 => ?_)
  obtain ⟨er4, fr4, p4⟩ := hh4
  subst er4
  refine ⟨fr4.1, ?_⟩
  show zF G mX8_clear (d + 1) 47 [(0, zR (B 2200))] [] σa4 _
  have hk4a := cS2_fr (σ := σa3) hk3a fr4
  have r4x2203 := (row_fr (σ := σa3) hk.2 fr4 (by decide) r3x2203)
  have r4x2204 := (row_fr (σ := σa3) hk.2 fr4 (by decide) r3x2204)
  have r4x2205 := (row_fr (σ := σa3) hk.2 fr4 (by decide) p3)
  have g4x0 : zia σa4 (B 2200) ((0 : Nat) : Int) = 0 := fld_fr (σ := σa3) hk.2 fr4 (by decide) g3x0
  have g4x1 : zia σa4 (B 2200) ((1 : Nat) : Int) = 0 := fld_fr (σ := σa3) hk.2 fr4 (by decide) g3x1
  have g4x2 : zia σa4 (B 2200) ((2 : Nat) : Int) = 0 := fld_fr (σ := σa3) hk.2 fr4 (by decide) g3x2
  refine zF_aload_n 48 dX8_clear_47 rfl rfl ?_
  refine zF_getR 51 dX8_clear_48 rfl gX8_24 hk4a.1.1 hk4a.1.2.1 (cS2_2207 hk4a).1 ?_
  refine zF_iconst 52 dX8_clear_51 rfl ?_
  refine zF_callS 55 (d2 := d) (as := [zR (B 2207), zI (-1)]) dX8_clear_52 rfl kX8_61 sJ7_fill_53178 (Nat.le_refl _) rfl rfl (Nat.le_of_ble_eq_true rfl) (zE.mono (zt_J7_fill (σ := σa4) (cS2_2207 hk4a).2.2 (cS2_2207 hk4a).2.1 (by decide)) fun ro σa5 hh5 => ?_)
  obtain ⟨er5, fr5, p5⟩ := hh5
  subst er5
  refine ⟨fr5.1, ?_⟩
  show zF G mX8_clear (d + 1) 55 [(0, zR (B 2200))] [] σa5 _
  have hk5a := cS2_fr (σ := σa4) hk4a fr5
  have r5x2203 := (row_fr (σ := σa4) hk.2 fr5 (by decide) r4x2203)
  have r5x2204 := (row_fr (σ := σa4) hk.2 fr5 (by decide) r4x2204)
  have r5x2205 := (row_fr (σ := σa4) hk.2 fr5 (by decide) r4x2205)
  have r5x2206 := (row_fr (σ := σa4) hk.2 fr5 (by decide) p4)
  have g5x0 : zia σa5 (B 2200) ((0 : Nat) : Int) = 0 := fld_fr (σ := σa4) hk.2 fr5 (by decide) g4x0
  have g5x1 : zia σa5 (B 2200) ((1 : Nat) : Int) = 0 := fld_fr (σ := σa4) hk.2 fr5 (by decide) g4x1
  have g5x2 : zia σa5 (B 2200) ((2 : Nat) : Int) = 0 := fld_fr (σ := σa4) hk.2 fr5 (by decide) g4x2
  refine zF_aload_n 56 dX8_clear_55 rfl rfl ?_
  refine zF_getR 59 dX8_clear_56 rfl gX8_27 hk5a.1.1 hk5a.1.2.1 (cS2_2208 hk5a).1 ?_
  refine zF_iconst 60 dX8_clear_59 rfl ?_
  refine zF_callS 63 (d2 := d) (as := [zR (B 2208), zI 0]) dX8_clear_60 rfl kX8_61 sJ7_fill_53178 (Nat.le_refl _) rfl rfl (Nat.le_of_ble_eq_true rfl) (zE.mono (zt_J7_fill (σ := σa5) (cS2_2208 hk5a).2.2 (cS2_2208 hk5a).2.1 (by decide)) fun ro σa6 hh6 => ?_)
  obtain ⟨er6, fr6, p6⟩ := hh6
  subst er6
  refine ⟨fr6.1, ?_⟩
  show zF G mX8_clear (d + 1) 63 [(0, zR (B 2200))] [] σa6 _
  have hk6a := cS2_fr (σ := σa5) hk5a fr6
  have r6x2203 := (row_fr (σ := σa5) hk.2 fr6 (by decide) r5x2203)
  have r6x2204 := (row_fr (σ := σa5) hk.2 fr6 (by decide) r5x2204)
  have r6x2205 := (row_fr (σ := σa5) hk.2 fr6 (by decide) r5x2205)
  have r6x2206 := (row_fr (σ := σa5) hk.2 fr6 (by decide) r5x2206)
  have r6x2207 := (row_fr (σ := σa5) hk.2 fr6 (by decide) p5)
  have g6x0 : zia σa6 (B 2200) ((0 : Nat) : Int) = 0 := fld_fr (σ := σa5) hk.2 fr6 (by decide) g5x0
  have g6x1 : zia σa6 (B 2200) ((1 : Nat) : Int) = 0 := fld_fr (σ := σa5) hk.2 fr6 (by decide) g5x1
  have g6x2 : zia σa6 (B 2200) ((2 : Nat) : Int) = 0 := fld_fr (σ := σa5) hk.2 fr6 (by decide) g5x2
  refine zF_aload_n 64 dX8_clear_63 rfl rfl ?_
  refine zF_getR 67 dX8_clear_64 rfl gX8_30 hk6a.1.1 hk6a.1.2.1 (cS2_2209 hk6a).1 ?_
  refine zF_iconst 68 dX8_clear_67 rfl ?_
  refine zF_callS 71 (d2 := d) (as := [zR (B 2209), zI 0]) dX8_clear_68 rfl kX8_61 sJ7_fill_53178 (Nat.le_refl _) rfl rfl (Nat.le_of_ble_eq_true rfl) (zE.mono (zt_J7_fill (σ := σa6) (cS2_2209 hk6a).2.2 (cS2_2209 hk6a).2.1 (by decide)) fun ro σa7 hh7 => ?_)
  obtain ⟨er7, fr7, p7⟩ := hh7
  subst er7
  refine ⟨fr7.1, ?_⟩
  show zF G mX8_clear (d + 1) 71 [(0, zR (B 2200))] [] σa7 _
  have hk7a := cS2_fr (σ := σa6) hk6a fr7
  have r7x2203 := (row_fr (σ := σa6) hk.2 fr7 (by decide) r6x2203)
  have r7x2204 := (row_fr (σ := σa6) hk.2 fr7 (by decide) r6x2204)
  have r7x2205 := (row_fr (σ := σa6) hk.2 fr7 (by decide) r6x2205)
  have r7x2206 := (row_fr (σ := σa6) hk.2 fr7 (by decide) r6x2206)
  have r7x2207 := (row_fr (σ := σa6) hk.2 fr7 (by decide) r6x2207)
  have r7x2208 := (row_fr (σ := σa6) hk.2 fr7 (by decide) p6)
  have g7x0 : zia σa7 (B 2200) ((0 : Nat) : Int) = 0 := fld_fr (σ := σa6) hk.2 fr7 (by decide) g6x0
  have g7x1 : zia σa7 (B 2200) ((1 : Nat) : Int) = 0 := fld_fr (σ := σa6) hk.2 fr7 (by decide) g6x1
  have g7x2 : zia σa7 (B 2200) ((2 : Nat) : Int) = 0 := fld_fr (σ := σa6) hk.2 fr7 (by decide) g6x2
  refine zF_aload_n 72 dX8_clear_71 rfl rfl ?_
  refine zF_getR 75 dX8_clear_72 rfl gX8_33 hk7a.1.1 hk7a.1.2.1 (cS2_2210 hk7a).1 ?_
  refine zF_iconst 76 dX8_clear_75 rfl ?_
  refine zF_callS 79 (d2 := d) (as := [zR (B 2210), zI (-1)]) dX8_clear_76 rfl kX8_61 sJ7_fill_53178 (Nat.le_refl _) rfl rfl (Nat.le_of_ble_eq_true rfl) (zE.mono (zt_J7_fill (σ := σa7) (cS2_2210 hk7a).2.2 (cS2_2210 hk7a).2.1 (by decide)) fun ro σa8 hh8 => ?_)
  obtain ⟨er8, fr8, p8⟩ := hh8
  subst er8
  refine ⟨fr8.1, ?_⟩
  show zF G mX8_clear (d + 1) 79 [(0, zR (B 2200))] [] σa8 _
  have hk8a := cS2_fr (σ := σa7) hk7a fr8
  have r8x2203 := (row_fr (σ := σa7) hk.2 fr8 (by decide) r7x2203)
  have r8x2204 := (row_fr (σ := σa7) hk.2 fr8 (by decide) r7x2204)
  have r8x2205 := (row_fr (σ := σa7) hk.2 fr8 (by decide) r7x2205)
  have r8x2206 := (row_fr (σ := σa7) hk.2 fr8 (by decide) r7x2206)
  have r8x2207 := (row_fr (σ := σa7) hk.2 fr8 (by decide) r7x2207)
  have r8x2208 := (row_fr (σ := σa7) hk.2 fr8 (by decide) r7x2208)
  have r8x2209 := (row_fr (σ := σa7) hk.2 fr8 (by decide) p7)
  have g8x0 : zia σa8 (B 2200) ((0 : Nat) : Int) = 0 := fld_fr (σ := σa7) hk.2 fr8 (by decide) g7x0
  have g8x1 : zia σa8 (B 2200) ((1 : Nat) : Int) = 0 := fld_fr (σ := σa7) hk.2 fr8 (by decide) g7x1
  have g8x2 : zia σa8 (B 2200) ((2 : Nat) : Int) = 0 := fld_fr (σ := σa7) hk.2 fr8 (by decide) g7x2
  refine zF_aload_n 80 dX8_clear_79 rfl rfl ?_
  refine zF_getR 83 dX8_clear_80 rfl gX8_36 hk8a.1.1 hk8a.1.2.1 (cS2_2211 hk8a).1 ?_
  refine zF_iconst 84 dX8_clear_83 rfl ?_
  refine zF_callS 87 (d2 := d) (as := [zR (B 2211), zI 0]) dX8_clear_84 rfl kX8_61 sJ7_fill_53178 (Nat.le_refl _) rfl rfl (Nat.le_of_ble_eq_true rfl) (zE.mono (zt_J7_fill (σ := σa8) (cS2_2211 hk8a).2.2 (cS2_2211 hk8a).2.1 (by decide)) fun ro σa9 hh9 => ?_)
  obtain ⟨er9, fr9, p9⟩ := hh9
  subst er9
  refine ⟨fr9.1, ?_⟩
  show zF G mX8_clear (d + 1) 87 [(0, zR (B 2200))] [] σa9 _
  have hk9a := cS2_fr (σ := σa8) hk8a fr9
  have r9x2203 := (row_fr (σ := σa8) hk.2 fr9 (by decide) r8x2203)
  have r9x2204 := (row_fr (σ := σa8) hk.2 fr9 (by decide) r8x2204)
  have r9x2205 := (row_fr (σ := σa8) hk.2 fr9 (by decide) r8x2205)
  have r9x2206 := (row_fr (σ := σa8) hk.2 fr9 (by decide) r8x2206)
  have r9x2207 := (row_fr (σ := σa8) hk.2 fr9 (by decide) r8x2207)
  have r9x2208 := (row_fr (σ := σa8) hk.2 fr9 (by decide) r8x2208)
  have r9x2209 := (row_fr (σ := σa8) hk.2 fr9 (by decide) r8x2209)
  have r9x2210 := (row_fr (σ := σa8) hk.2 fr9 (by decide) p8)
  have g9x0 : zia σa9 (B 2200) ((0 : Nat) : Int) = 0 := fld_fr (σ := σa8) hk.2 fr9 (by decide) g8x0
  have g9x1 : zia σa9 (B 2200) ((1 : Nat) : Int) = 0 := fld_fr (σ := σa8) hk.2 fr9 (by decide) g8x1
  have g9x2 : zia σa9 (B 2200) ((2 : Nat) : Int) = 0 := fld_fr (σ := σa8) hk.2 fr9 (by decide) g8x2
  refine zF_aload_n 88 dX8_clear_87 rfl rfl ?_
  refine zF_getR 91 dX8_clear_88 rfl gX8_39 hk9a.1.1 hk9a.1.2.1 (cS2_2212 hk9a).1 ?_
  refine zF_iconst 92 dX8_clear_91 rfl ?_
  refine zF_callS 95 (d2 := d) (as := [zR (B 2212), zI 0]) dX8_clear_92 rfl kX8_61 sJ7_fill_53178 (Nat.le_refl _) rfl rfl (Nat.le_of_ble_eq_true rfl) (zE.mono (zt_J7_fill (σ := σa9) (cS2_2212 hk9a).2.2 (cS2_2212 hk9a).2.1 (by decide)) fun ro σa10 hh10 => ?_)
  obtain ⟨er10, fr10, p10⟩ := hh10
  subst er10
  refine ⟨fr10.1, ?_⟩
  show zF G mX8_clear (d + 1) 95 [(0, zR (B 2200))] [] σa10 _
  have hk10a := cS2_fr (σ := σa9) hk9a fr10
  have r10x2203 := (row_fr (σ := σa9) hk.2 fr10 (by decide) r9x2203)
  have r10x2204 := (row_fr (σ := σa9) hk.2 fr10 (by decide) r9x2204)
  have r10x2205 := (row_fr (σ := σa9) hk.2 fr10 (by decide) r9x2205)
  have r10x2206 := (row_fr (σ := σa9) hk.2 fr10 (by decide) r9x2206)
  have r10x2207 := (row_fr (σ := σa9) hk.2 fr10 (by decide) r9x2207)
  have r10x2208 := (row_fr (σ := σa9) hk.2 fr10 (by decide) r9x2208)
  have r10x2209 := (row_fr (σ := σa9) hk.2 fr10 (by decide) r9x2209)
  have r10x2210 := (row_fr (σ := σa9) hk.2 fr10 (by decide) r9x2210)
  have r10x2211 := (row_fr (σ := σa9) hk.2 fr10 (by decide) p9)
  have g10x0 : zia σa10 (B 2200) ((0 : Nat) : Int) = 0 := fld_fr (σ := σa9) hk.2 fr10 (by decide) g9x0
  have g10x1 : zia σa10 (B 2200) ((1 : Nat) : Int) = 0 := fld_fr (σ := σa9) hk.2 fr10 (by decide) g9x1
  have g10x2 : zia σa10 (B 2200) ((2 : Nat) : Int) = 0 := fld_fr (σ := σa9) hk.2 fr10 (by decide) g9x2
  refine zF_aload_n 96 dX8_clear_95 rfl rfl ?_
  refine zF_getR 99 dX8_clear_96 rfl gX8_42 hk10a.1.1 hk10a.1.2.1 (cS2_2213 hk10a).1 ?_
  refine zF_iconst 100 dX8_clear_99 rfl ?_
  refine zF_callS 103 (d2 := d) (as := [zR (B 2213), zI 0]) dX8_clear_100 rfl kX8_61 sJ7_fill_53178 (Nat.le_refl _) rfl rfl (Nat.le_of_ble_eq_true rfl) (zE.mono (zt_J7_fill (σ := σa10) (cS2_2213 hk10a).2.2 (cS2_2213 hk10a).2.1 (by decide)) fun ro σa11 hh11 => ?_)
  obtain ⟨er11, fr11, p11⟩ := hh11
  subst er11
  refine ⟨fr11.1, ?_⟩
  show zF G mX8_clear (d + 1) 103 [(0, zR (B 2200))] [] σa11 _
  have hk11a := cS2_fr (σ := σa10) hk10a fr11
  have r11x2203 := (row_fr (σ := σa10) hk.2 fr11 (by decide) r10x2203)
  have r11x2204 := (row_fr (σ := σa10) hk.2 fr11 (by decide) r10x2204)
  have r11x2205 := (row_fr (σ := σa10) hk.2 fr11 (by decide) r10x2205)
  have r11x2206 := (row_fr (σ := σa10) hk.2 fr11 (by decide) r10x2206)
  have r11x2207 := (row_fr (σ := σa10) hk.2 fr11 (by decide) r10x2207)
  have r11x2208 := (row_fr (σ := σa10) hk.2 fr11 (by decide) r10x2208)
  have r11x2209 := (row_fr (σ := σa10) hk.2 fr11 (by decide) r10x2209)
  have r11x2210 := (row_fr (σ := σa10) hk.2 fr11 (by decide) r10x2210)
  have r11x2211 := (row_fr (σ := σa10) hk.2 fr11 (by decide) r10x2211)
  have r11x2212 := (row_fr (σ := σa10) hk.2 fr11 (by decide) p10)
  have g11x0 : zia σa11 (B 2200) ((0 : Nat) : Int) = 0 := fld_fr (σ := σa10) hk.2 fr11 (by decide) g10x0
  have g11x1 : zia σa11 (B 2200) ((1 : Nat) : Int) = 0 := fld_fr (σ := σa10) hk.2 fr11 (by decide) g10x1
  have g11x2 : zia σa11 (B 2200) ((2 : Nat) : Int) = 0 := fld_fr (σ := σa10) hk.2 fr11 (by decide) g10x2
  refine zF_aload_n 104 dX8_clear_103 rfl rfl ?_
  refine zF_getR 107 dX8_clear_104 rfl gX8_45 hk11a.1.1 hk11a.1.2.1 (cS2_2214 hk11a).1 ?_
  refine zF_iconst 108 dX8_clear_107 rfl ?_
  refine zF_callS 111 (d2 := d) (as := [zR (B 2214), zI 0]) dX8_clear_108 rfl kX8_61 sJ7_fill_53178 (Nat.le_refl _) rfl rfl (Nat.le_of_ble_eq_true rfl) (zE.mono (zt_J7_fill (σ := σa11) (cS2_2214 hk11a).2.2 (cS2_2214 hk11a).2.1 (by decide)) fun ro σa12 hh12 => ?_)
  obtain ⟨er12, fr12, p12⟩ := hh12
  subst er12
  refine ⟨fr12.1, ?_⟩
  show zF G mX8_clear (d + 1) 111 [(0, zR (B 2200))] [] σa12 _
  have hk12a := cS2_fr (σ := σa11) hk11a fr12
  have r12x2203 := (row_fr (σ := σa11) hk.2 fr12 (by decide) r11x2203)
  have r12x2204 := (row_fr (σ := σa11) hk.2 fr12 (by decide) r11x2204)
  have r12x2205 := (row_fr (σ := σa11) hk.2 fr12 (by decide) r11x2205)
  have r12x2206 := (row_fr (σ := σa11) hk.2 fr12 (by decide) r11x2206)
  have r12x2207 := (row_fr (σ := σa11) hk.2 fr12 (by decide) r11x2207)
  have r12x2208 := (row_fr (σ := σa11) hk.2 fr12 (by decide) r11x2208)
  have r12x2209 := (row_fr (σ := σa11) hk.2 fr12 (by decide) r11x2209)
  have r12x2210 := (row_fr (σ := σa11) hk.2 fr12 (by decide) r11x2210)
  have r12x2211 := (row_fr (σ := σa11) hk.2 fr12 (by decide) r11x2211)
  have r12x2212 := (row_fr (σ := σa11) hk.2 fr12 (by decide) r11x2212)
  have r12x2213 := (row_fr (σ := σa11) hk.2 fr12 (by decide) p11)
  have g12x0 : zia σa12 (B 2200) ((0 : Nat) : Int) = 0 := fld_fr (σ := σa11) hk.2 fr12 (by decide) g11x0
  have g12x1 : zia σa12 (B 2200) ((1 : Nat) : Int) = 0 := fld_fr (σ := σa11) hk.2 fr12 (by decide) g11x1
  have g12x2 : zia σa12 (B 2200) ((2 : Nat) : Int) = 0 := fld_fr (σ := σa11) hk.2 fr12 (by decide) g11x2
  refine zF_aload_n 112 dX8_clear_111 rfl rfl ?_
  refine zF_getR 115 dX8_clear_112 rfl gX8_48 hk12a.1.1 hk12a.1.2.1 (cS2_2215 hk12a).1 ?_
  refine zF_iconst 116 dX8_clear_115 rfl ?_
  refine zF_callS 119 (d2 := d) (as := [zR (B 2215), zI 0]) dX8_clear_116 rfl kX8_61 sJ7_fill_53178 (Nat.le_refl _) rfl rfl (Nat.le_of_ble_eq_true rfl) (zE.mono (zt_J7_fill (σ := σa12) (cS2_2215 hk12a).2.2 (cS2_2215 hk12a).2.1 (by decide)) fun ro σa13 hh13 => ?_)
  obtain ⟨er13, fr13, p13⟩ := hh13
  subst er13
  refine ⟨fr13.1, ?_⟩
  show zF G mX8_clear (d + 1) 119 [(0, zR (B 2200))] [] σa13 _
  have hk13a := cS2_fr (σ := σa12) hk12a fr13
  have r13x2203 := (row_fr (σ := σa12) hk.2 fr13 (by decide) r12x2203)
  have r13x2204 := (row_fr (σ := σa12) hk.2 fr13 (by decide) r12x2204)
  have r13x2205 := (row_fr (σ := σa12) hk.2 fr13 (by decide) r12x2205)
  have r13x2206 := (row_fr (σ := σa12) hk.2 fr13 (by decide) r12x2206)
  have r13x2207 := (row_fr (σ := σa12) hk.2 fr13 (by decide) r12x2207)
  have r13x2208 := (row_fr (σ := σa12) hk.2 fr13 (by decide) r12x2208)
  have r13x2209 := (row_fr (σ := σa12) hk.2 fr13 (by decide) r12x2209)
  have r13x2210 := (row_fr (σ := σa12) hk.2 fr13 (by decide) r12x2210)
  have r13x2211 := (row_fr (σ := σa12) hk.2 fr13 (by decide) r12x2211)
  have r13x2212 := (row_fr (σ := σa12) hk.2 fr13 (by decide) r12x2212)
  have r13x2213 := (row_fr (σ := σa12) hk.2 fr13 (by decide) r12x2213)
  have r13x2214 := (row_fr (σ := σa12) hk.2 fr13 (by decide) p12)
  have g13x0 : zia σa13 (B 2200) ((0 : Nat) : Int) = 0 := fld_fr (σ := σa12) hk.2 fr13 (by decide) g12x0
  have g13x1 : zia σa13 (B 2200) ((1 : Nat) : Int) = 0 := fld_fr (σ := σa12) hk.2 fr13 (by decide) g12x1
  have g13x2 : zia σa13 (B 2200) ((2 : Nat) : Int) = 0 := fld_fr (σ := σa12) hk.2 fr13 (by decide) g12x2
  exact zF_return dX8_clear_119 rfl (⟨rfl, ((((((((((((((zFr_si ⟨2200, by decide, by decide, rfl⟩ (zFr_si ⟨2200, by decide, by decide, rfl⟩ (zFr_si ⟨2200, by decide, by decide, rfl⟩ zFr.rf))).tr (fr1.wk fun y _ q => ⟨2203, by decide, by decide, q⟩)).tr (fr2.wk fun y _ q => ⟨2204, by decide, by decide, q⟩)).tr (fr3.wk fun y _ q => ⟨2205, by decide, by decide, q⟩)).tr (fr4.wk fun y _ q => ⟨2206, by decide, by decide, q⟩)).tr (fr5.wk fun y _ q => ⟨2207, by decide, by decide, q⟩)).tr (fr6.wk fun y _ q => ⟨2208, by decide, by decide, q⟩)).tr (fr7.wk fun y _ q => ⟨2209, by decide, by decide, q⟩)).tr (fr8.wk fun y _ q => ⟨2210, by decide, by decide, q⟩)).tr (fr9.wk fun y _ q => ⟨2211, by decide, by decide, q⟩)).tr (fr10.wk fun y _ q => ⟨2212, by decide, by decide, q⟩)).tr (fr11.wk fun y _ q => ⟨2213, by decide, by decide, q⟩)).tr (fr12.wk fun y _ q => ⟨2214, by decide, by decide, q⟩)).tr (fr13.wk fun y _ q => ⟨2215, by decide, by decide, q⟩)), ⟨g13x0, g13x1, g13x2⟩, r13x2205, ⟨r13x2206, r13x2207, r13x2208, r13x2209⟩, ⟨r13x2210, r13x2212⟩, r13x2213, r13x2214⟩)
def zE0 : zMem := (0, fun _ => (0, 0), fun _ _ => 0, fun _ _ => none, 0, 0)
theorem nX11_17 : zNC RX11 17 13 := ⟨_, _, _, _, zCJ4, zi1 35 rfl rfl, zi1 36 rfl rfl, zi1 3 rfl rfl, by decide, by decide⟩
theorem nX11_24 : zNC RX11 24 1 := ⟨_, _, _, _, zCX1, zi1 65 rfl rfl, zi1 66 rfl rfl, zi1 6 rfl rfl, by decide, by decide⟩
theorem nX11_31 : zNC RX11 31 8 := ⟨_, _, _, _, zCX8, zi1 153 rfl rfl, zi1 154 rfl rfl, zi1 7 rfl rfl, by decide, by decide⟩
theorem nX11_38 : zNC RX11 38 10 := ⟨_, _, _, _, zCX10, zi2 1 rfl rfl, zi2 2 rfl rfl, zi1 8 rfl rfl, by decide, by decide⟩
theorem nX11_47 : zNC RX11 47 5 := ⟨_, _, _, _, zCX5, zi2 20 rfl rfl, zi2 21 rfl rfl, zi1 9 rfl rfl, by decide, by decide⟩
theorem nX11_56 : zNC RX11 56 3 := ⟨_, _, _, _, zCX3, zi2 69 rfl rfl, zi2 70 rfl rfl, zi1 10 rfl rfl, by decide, by decide⟩
theorem nX11_63 : zNC RX11 63 4 := ⟨_, _, _, _, zCX4, zi2 88 rfl rfl, zi2 89 rfl rfl, zi1 11 rfl rfl, by decide, by decide⟩
theorem nX11_70 : zNC RX11 70 9 := ⟨_, _, _, _, zCX9, zi2 116 rfl rfl, zi2 117 rfl rfl, zi1 12 rfl rfl, by decide, by decide⟩
theorem nX11_79 : zNC RX11 79 2 := ⟨_, _, _, _, zCX2, zi2 151 rfl rfl, zi2 152 rfl rfl, zi1 13 rfl rfl, by decide, by decide⟩
theorem nX11_88 : zNC RX11 88 7 := ⟨_, _, _, _, zCX7, zi2 173 rfl rfl, zi2 174 rfl rfl, zi1 14 rfl rfl, by decide, by decide⟩
theorem nX4_9 : zNC RX4 9 8 := ⟨_, _, _, _, zCX8, zi2 94 rfl rfl, zi1 154 rfl rfl, zi1 7 rfl rfl, by decide, by decide⟩
theorem nX2_9 : zNC RX2 9 1 := ⟨_, _, _, _, zCX1, zi2 157 rfl rfl, zi1 66 rfl rfl, zi1 6 rfl rfl, by decide, by decide⟩
theorem nX2_18 : zNC RX2 18 8 := ⟨_, _, _, _, zCX8, zi2 159 rfl rfl, zi1 154 rfl rfl, zi1 7 rfl rfl, by decide, by decide⟩
theorem knX11_26 : zCLN RX11 26 mX1_init 0 "CinemaChain" := ⟨zj1 67 rfl rfl, wX1_init, zi1 6 rfl rfl, ⟨by decide, by decide, by decide +kernel⟩, by decide⟩
theorem knX11_33 : zCLN RX11 33 mX8_init 0 "CinemaChain" := ⟨zj1 155 rfl rfl, wX8_init, zi1 7 rfl rfl, ⟨by decide, by decide, by decide +kernel⟩, by decide⟩
theorem knX4_17 : zCLN RX4 17 mX8_init 0 "CinemaChain" := ⟨zj2 96 rfl rfl, wX8_init, zi1 7 rfl rfl, ⟨by decide, by decide, by decide +kernel⟩, by decide⟩
theorem knX2_11 : zCLN RX2 11 mX1_init 0 "CinemaChain" := ⟨zj2 158 rfl rfl, wX1_init, zi1 6 rfl rfl, ⟨by decide, by decide, by decide +kernel⟩, by decide⟩
theorem knX2_20 : zCLN RX2 20 mX8_init 0 "CinemaChain" := ⟨zj2 160 rfl rfl, wX8_init, zi1 7 rfl rfl, ⟨by decide, by decide, by decide +kernel⟩, by decide⟩
def zk1 : zMem := znw zE0 0 11 13
def zk2 : zMem := zmk1 zk1 0 0 2 700
def zk3 : zMem := zsi zk2 0 ((2 : Nat) : Int) (-1)
def zk4 : zMem := znw zk3 0 13 4
def zk5 : zMem := kJ5 zk4 2
def zk6 : zMem := zsr zk5 0 ((3 : Nat) : Int) (some 2)
def zk7 : zMem := znw zk6 0 1 13
def zk8 : zMem := kX1 zk7 4
def zk9 : zMem := zsr zk8 0 ((4 : Nat) : Int) (some 4)
def zk10 : zMem := znw zk9 0 8 16
def zk11 : zMem := kX8 zk10 15
def zk12 : zMem := zsr zk11 0 ((5 : Nat) : Int) (some 15)
def zk13 : zMem := znw zk12 0 10 4
def zk14 : zMem := kX10 zk13 29 4 15
def zk15 : zMem := zsr zk14 0 ((6 : Nat) : Int) (some 29)
def zk16 : zMem := znw zk15 0 5 14
def zk17 : zMem := kX5 zk16 32 4 15 29
def zk18 : zMem := zsr zk17 0 ((7 : Nat) : Int) (some 32)
def zk19 : zMem := znw zk18 0 3 4
def zk20 : zMem := kX3 zk19 42 4 15 29
def zk21 : zMem := zsr zk20 0 ((8 : Nat) : Int) (some 42)
def zk22 : zMem := znw zk21 0 4 5
def zk23 : zMem := zmk1 zk22 44 0 5 10
def zk24 : zMem := znw zk23 0 8 16
def zk25 : zMem := kX8 zk24 46
def zk26 : zMem := zsr zk25 44 ((3 : Nat) : Int) (some 46)
def zk27 : zMem := znw zk26 0 8 16
def zk28 : zMem := kX8 zk27 60
def zk29 : zMem := zsr zk28 45 0 (some 60)
def zk30 : zMem := znw zk29 0 8 16
def zk31 : zMem := kX8 zk30 74
def zk32 : zMem := zsr zk31 45 1 (some 74)
def zk33 : zMem := znw zk32 0 8 16
def zk34 : zMem := kX8 zk33 88
def zk35 : zMem := zsr zk34 45 2 (some 88)
def zk36 : zMem := znw zk35 0 8 16
def zk37 : zMem := kX8 zk36 102
def zk38 : zMem := zsr zk37 45 3 (some 102)
def zk39 : zMem := znw zk38 0 8 16
def zk40 : zMem := kX8 zk39 116
def zk41 : zMem := zsr zk40 45 4 (some 116)
def zk42 : zMem := znw zk41 0 8 16
def zk43 : zMem := kX8 zk42 130
def zk44 : zMem := zsr zk43 45 5 (some 130)
def zk45 : zMem := znw zk44 0 8 16
def zk46 : zMem := kX8 zk45 144
def zk47 : zMem := zsr zk46 45 6 (some 144)
def zk48 : zMem := znw zk47 0 8 16
def zk49 : zMem := kX8 zk48 158
def zk50 : zMem := zsr zk49 45 7 (some 158)
def zk51 : zMem := znw zk50 0 8 16
def zk52 : zMem := kX8 zk51 172
def zk53 : zMem := zsr zk52 45 8 (some 172)
def zk54 : zMem := znw zk53 0 8 16
def zk55 : zMem := kX8 zk54 186
def zk56 : zMem := zsr zk55 45 9 (some 186)
def zk57 : zMem := zsr zk56 0 ((9 : Nat) : Int) (some 44)
def zk58 : zMem := znw zk57 0 9 8
def zk59 : zMem := kX9 zk58 200 1
def zk60 : zMem := zsr zk59 0 ((10 : Nat) : Int) (some 200)
def zk61 : zMem := znw zk60 0 2 3
def zk62 : zMem := znw zk61 0 1 13
def zk63 : zMem := kX1 zk62 202
def zk64 : zMem := zsr zk63 201 ((1 : Nat) : Int) (some 202)
def zk65 : zMem := znw zk64 0 8 16
def zk66 : zMem := kX8 zk65 213
def zk67 : zMem := zsr zk66 201 ((2 : Nat) : Int) (some 213)
def zk68 : zMem := zsr zk67 201 ((0 : Nat) : Int) (some 200)
def zk69 : zMem := zsr zk68 0 ((11 : Nat) : Int) (some 201)
def zk70 : zMem := znw zk69 0 7 4
def zk71 : zMem := kX7 zk70 227 200 4 15 29
def zk72 : zMem := zsr zk71 0 ((12 : Nat) : Int) (some 227)
theorem zc_X4_init (hG : zOS G) (hAO : zAO G) : zE G mX4_init (d + 2) [zR 44] zk22 (fun r σ1 => r = .inl none ∧ σ1 = zk56) := by
  refine zE_of rfl (by simp [zcat]) (Nat.le_of_ble_eq_true rfl) ?_
  show zF G mX4_init (d + 2) 0 [(0, zR 44)] [] zk22 _
  refine zF_aload_n 1 dX4_init_0 rfl rfl ?_
  refine zF_obj 4 dX4_init_1 rfl (zi2 93 rfl rfl) (zi1 33 rfl rfl) (zi1 34 rfl rfl) (by omega) (Nat.le_of_ble_eq_true rfl) ?_
  refine zF_aload_n 5 dX4_init_4 rfl rfl ?_
  refine zF_bipush 7 dX4_init_5 rfl (by decide) ?_
  refine zF_anewS 10 dX4_init_7 rfl (zi2 94 rfl rfl) hAO (by decide) (by decide) (by decide +kernel) (zwl_q (by exact (⟨zwR (show 44 < zn zk22 from by decide +kernel), trivial⟩ : _ ∧ True))) (zwl_m (by exact (⟨zwR (show 44 < zn zk22 from by decide +kernel), trivial⟩ : _ ∧ True))) ?_
  refine zF_putR 13 dX4_init_10 rfl pX4_init_11 (zwf_l (Nat.lt_succ_self _)) (znw_k (by decide +kernel) (by decide +kernel)) (znw_l (σ := zk22) (by decide +kernel)) ?_
  show zF G mX4_init (d + 2) 13 [(0, zR 44)] [] zk23 _
  refine zF_aload_n 14 dX4_init_13 rfl rfl ?_
  refine zF_new 17 (ci := 8) (N := 16) dX4_init_14 rfl nX4_9 rfl (by decide +kernel) (zwl_q (by exact (⟨zwR (show 44 < zn zk23 from by decide +kernel), trivial⟩ : _ ∧ True))) (zwl_m (by exact (⟨zwR (show 44 < zn zk23 from by decide +kernel), trivial⟩ : _ ∧ True))) ?_
  rw [show zn zk23 = 46 from by decide +kernel]
  show zF G mX4_init (d + 2) 17 [(0, zR 44)] [zR 46, zR 44] zk24 _
  refine zF_dup 18 dX4_init_17 rfl rfl ?_
  refine zF_callINn 21 (d2 := 1) (as := []) (rest := [zR 46, zR 44]) dX4_init_18 rfl knX4_17 rfl iX8_init (by omega) rfl rfl (Nat.le_of_ble_eq_true rfl) (by exact (⟨zwR (show 44 < zn zk24 from by decide +kernel), trivial⟩ : _ ∧ True)) (by exact (⟨zwR (show 46 < zn zk24 from by decide +kernel), zwR (show 44 < zn zk24 from by decide +kernel), trivial⟩ : _ ∧ _ ∧ True)) (zE.mono (zt_X8_init (d := 0) (σ := zk24) (by decide +kernel) (by decide +kernel) (by decide +kernel)) fun r σ1 hh => ⟨hh.1, ?_⟩)
  replace hh := hh.2
  subst hh
  show zF G mX4_init (d + 2) 21 [(0, zR 44)] [zR 46, zR 44] zk25 _
  refine zF_putR 24 dX4_init_21 rfl pX4_init_18 (zwf_l (by decide +kernel)) (by decide +kernel) (by decide +kernel) ?_
  show zF G mX4_init (d + 2) 24 [(0, zR 44)] [] zk26 _
  refine zF_iconst 25 dX4_init_24 rfl ?_
  refine zF_istore_n 26 (ls' := [(1, zI 0), (0, zR 44)]) dX4_init_25 rfl (by decide) rfl ?_
  refine zF_iload_n 27 dX4_init_26 rfl rfl ?_
  refine zF_bipush 29 dX4_init_27 rfl (by decide) ?_
  refine zF_icmp_ge 51 32 dX4_init_29 rfl rfl (by decide) (by decide) (fun c => ?_) (fun c => ?_)
  · exact absurd c (by decide)
  refine zF_aload_n 33 dX4_init_32 rfl rfl ?_
  refine zF_getR 36 dX4_init_33 rfl gX4_11 (ci := 4) (by decide +kernel) (by decide +kernel) (show zra zk26 44 ((0 : Nat) : Int) = some 45 from by decide +kernel) ?_
  show zF G mX4_init (d + 2) 36 [(1, zI 0), (0, zR 44)] [zR 45] zk26 _
  refine zF_iload_n 37 dX4_init_36 rfl rfl ?_
  refine zF_new 40 (ci := 8) (N := 16) dX4_init_37 rfl nX4_9 rfl (by decide +kernel) (zwl_q (by exact (⟨trivial, zwR (show 44 < zn zk26 from by decide +kernel), trivial⟩ : _ ∧ _ ∧ True))) (zwl_m (by exact (⟨trivial, zwR (show 45 < zn zk26 from by decide +kernel), trivial⟩ : _ ∧ _ ∧ True))) ?_
  rw [show zn zk26 = 60 from by decide +kernel]
  show zF G mX4_init (d + 2) 40 [(1, zI 0), (0, zR 44)] [zR 60, zI 0, zR 45] zk27 _
  refine zF_dup 41 dX4_init_40 rfl rfl ?_
  refine zF_callINn 44 (d2 := 1) (as := []) (rest := [zR 60, zI 0, zR 45]) dX4_init_41 rfl knX4_17 rfl iX8_init (by omega) rfl rfl (Nat.le_of_ble_eq_true rfl) (by exact (⟨trivial, zwR (show 44 < zn zk27 from by decide +kernel), trivial⟩ : _ ∧ _ ∧ True)) (by exact (⟨zwR (show 60 < zn zk27 from by decide +kernel), trivial, zwR (show 45 < zn zk27 from by decide +kernel), trivial⟩ : _ ∧ _ ∧ _ ∧ True)) (zE.mono (zt_X8_init (d := 0) (σ := zk27) (by decide +kernel) (by decide +kernel) (by decide +kernel)) fun r σ1 hh => ⟨hh.1, ?_⟩)
  replace hh := hh.2
  subst hh
  show zF G mX4_init (d + 2) 44 [(1, zI 0), (0, zR 44)] [zR 60, zI 0, zR 45] zk28 _
  refine zF_aastS 45 (n := 10) dX4_init_44 rfl (by decide +kernel) (by decide +kernel) (by decide +kernel) (by decide +kernel) (by decide) (by decide) ?_
  show zF G mX4_init (d + 2) 45 [(1, zI 0), (0, zR 44)] [] zk29 _
  refine zF_iinc 48 (ls' := [(1, zI 1), (0, zR 44)]) dX4_init_45 rfl rfl rfl (by decide) rfl ?_
  refine zF_goto 26 dX4_init_48 rfl ?_
  refine zF_iload_n 27 dX4_init_26 rfl rfl ?_
  refine zF_bipush 29 dX4_init_27 rfl (by decide) ?_
  refine zF_icmp_ge 51 32 dX4_init_29 rfl rfl (by decide) (by decide) (fun c => ?_) (fun c => ?_)
  · exact absurd c (by decide)
  refine zF_aload_n 33 dX4_init_32 rfl rfl ?_
  refine zF_getR 36 dX4_init_33 rfl gX4_11 (ci := 4) (by decide +kernel) (by decide +kernel) (show zra zk29 44 ((0 : Nat) : Int) = some 45 from by decide +kernel) ?_
  show zF G mX4_init (d + 2) 36 [(1, zI 1), (0, zR 44)] [zR 45] zk29 _
  refine zF_iload_n 37 dX4_init_36 rfl rfl ?_
  refine zF_new 40 (ci := 8) (N := 16) dX4_init_37 rfl nX4_9 rfl (by decide +kernel) (zwl_q (by exact (⟨trivial, zwR (show 44 < zn zk29 from by decide +kernel), trivial⟩ : _ ∧ _ ∧ True))) (zwl_m (by exact (⟨trivial, zwR (show 45 < zn zk29 from by decide +kernel), trivial⟩ : _ ∧ _ ∧ True))) ?_
  rw [show zn zk29 = 74 from by decide +kernel]
  show zF G mX4_init (d + 2) 40 [(1, zI 1), (0, zR 44)] [zR 74, zI 1, zR 45] zk30 _
  refine zF_dup 41 dX4_init_40 rfl rfl ?_
  refine zF_callINn 44 (d2 := 1) (as := []) (rest := [zR 74, zI 1, zR 45]) dX4_init_41 rfl knX4_17 rfl iX8_init (by omega) rfl rfl (Nat.le_of_ble_eq_true rfl) (by exact (⟨trivial, zwR (show 44 < zn zk30 from by decide +kernel), trivial⟩ : _ ∧ _ ∧ True)) (by exact (⟨zwR (show 74 < zn zk30 from by decide +kernel), trivial, zwR (show 45 < zn zk30 from by decide +kernel), trivial⟩ : _ ∧ _ ∧ _ ∧ True)) (zE.mono (zt_X8_init (d := 0) (σ := zk30) (by decide +kernel) (by decide +kernel) (by decide +kernel)) fun r σ1 hh => ⟨hh.1, ?_⟩)
  replace hh := hh.2
  subst hh
  show zF G mX4_init (d + 2) 44 [(1, zI 1), (0, zR 44)] [zR 74, zI 1, zR 45] zk31 _
  refine zF_aastS 45 (n := 10) dX4_init_44 rfl (by decide +kernel) (by decide +kernel) (by decide +kernel) (by decide +kernel) (by decide) (by decide) ?_
  show zF G mX4_init (d + 2) 45 [(1, zI 1), (0, zR 44)] [] zk32 _
  refine zF_iinc 48 (ls' := [(1, zI 2), (0, zR 44)]) dX4_init_45 rfl rfl rfl (by decide) rfl ?_
  refine zF_goto 26 dX4_init_48 rfl ?_
  refine zF_iload_n 27 dX4_init_26 rfl rfl ?_
  refine zF_bipush 29 dX4_init_27 rfl (by decide) ?_
  refine zF_icmp_ge 51 32 dX4_init_29 rfl rfl (by decide) (by decide) (fun c => ?_) (fun c => ?_)
  · exact absurd c (by decide)
  refine zF_aload_n 33 dX4_init_32 rfl rfl ?_
  refine zF_getR 36 dX4_init_33 rfl gX4_11 (ci := 4) (by decide +kernel) (by decide +kernel) (show zra zk32 44 ((0 : Nat) : Int) = some 45 from by decide +kernel) ?_
  show zF G mX4_init (d + 2) 36 [(1, zI 2), (0, zR 44)] [zR 45] zk32 _
  refine zF_iload_n 37 dX4_init_36 rfl rfl ?_
  refine zF_new 40 (ci := 8) (N := 16) dX4_init_37 rfl nX4_9 rfl (by decide +kernel) (zwl_q (by exact (⟨trivial, zwR (show 44 < zn zk32 from by decide +kernel), trivial⟩ : _ ∧ _ ∧ True))) (zwl_m (by exact (⟨trivial, zwR (show 45 < zn zk32 from by decide +kernel), trivial⟩ : _ ∧ _ ∧ True))) ?_
  rw [show zn zk32 = 88 from by decide +kernel]
  show zF G mX4_init (d + 2) 40 [(1, zI 2), (0, zR 44)] [zR 88, zI 2, zR 45] zk33 _
  refine zF_dup 41 dX4_init_40 rfl rfl ?_
  refine zF_callINn 44 (d2 := 1) (as := []) (rest := [zR 88, zI 2, zR 45]) dX4_init_41 rfl knX4_17 rfl iX8_init (by omega) rfl rfl (Nat.le_of_ble_eq_true rfl) (by exact (⟨trivial, zwR (show 44 < zn zk33 from by decide +kernel), trivial⟩ : _ ∧ _ ∧ True)) (by exact (⟨zwR (show 88 < zn zk33 from by decide +kernel), trivial, zwR (show 45 < zn zk33 from by decide +kernel), trivial⟩ : _ ∧ _ ∧ _ ∧ True)) (zE.mono (zt_X8_init (d := 0) (σ := zk33) (by decide +kernel) (by decide +kernel) (by decide +kernel)) fun r σ1 hh => ⟨hh.1, ?_⟩)
  replace hh := hh.2
  subst hh
  show zF G mX4_init (d + 2) 44 [(1, zI 2), (0, zR 44)] [zR 88, zI 2, zR 45] zk34 _
  refine zF_aastS 45 (n := 10) dX4_init_44 rfl (by decide +kernel) (by decide +kernel) (by decide +kernel) (by decide +kernel) (by decide) (by decide) ?_
  show zF G mX4_init (d + 2) 45 [(1, zI 2), (0, zR 44)] [] zk35 _
  refine zF_iinc 48 (ls' := [(1, zI 3), (0, zR 44)]) dX4_init_45 rfl rfl rfl (by decide) rfl ?_
  refine zF_goto 26 dX4_init_48 rfl ?_
  refine zF_iload_n 27 dX4_init_26 rfl rfl ?_
  refine zF_bipush 29 dX4_init_27 rfl (by decide) ?_
  refine zF_icmp_ge 51 32 dX4_init_29 rfl rfl (by decide) (by decide) (fun c => ?_) (fun c => ?_)
  · exact absurd c (by decide)
  refine zF_aload_n 33 dX4_init_32 rfl rfl ?_
  refine zF_getR 36 dX4_init_33 rfl gX4_11 (ci := 4) (by decide +kernel) (by decide +kernel) (show zra zk35 44 ((0 : Nat) : Int) = some 45 from by decide +kernel) ?_
  show zF G mX4_init (d + 2) 36 [(1, zI 3), (0, zR 44)] [zR 45] zk35 _
  refine zF_iload_n 37 dX4_init_36 rfl rfl ?_
  refine zF_new 40 (ci := 8) (N := 16) dX4_init_37 rfl nX4_9 rfl (by decide +kernel) (zwl_q (by exact (⟨trivial, zwR (show 44 < zn zk35 from by decide +kernel), trivial⟩ : _ ∧ _ ∧ True))) (zwl_m (by exact (⟨trivial, zwR (show 45 < zn zk35 from by decide +kernel), trivial⟩ : _ ∧ _ ∧ True))) ?_
  rw [show zn zk35 = 102 from by decide +kernel]
  show zF G mX4_init (d + 2) 40 [(1, zI 3), (0, zR 44)] [zR 102, zI 3, zR 45] zk36 _
  refine zF_dup 41 dX4_init_40 rfl rfl ?_
  refine zF_callINn 44 (d2 := 1) (as := []) (rest := [zR 102, zI 3, zR 45]) dX4_init_41 rfl knX4_17 rfl iX8_init (by omega) rfl rfl (Nat.le_of_ble_eq_true rfl) (by exact (⟨trivial, zwR (show 44 < zn zk36 from by decide +kernel), trivial⟩ : _ ∧ _ ∧ True)) (by exact (⟨zwR (show 102 < zn zk36 from by decide +kernel), trivial, zwR (show 45 < zn zk36 from by decide +kernel), trivial⟩ : _ ∧ _ ∧ _ ∧ True)) (zE.mono (zt_X8_init (d := 0) (σ := zk36) (by decide +kernel) (by decide +kernel) (by decide +kernel)) fun r σ1 hh => ⟨hh.1, ?_⟩)
  replace hh := hh.2
  subst hh
  show zF G mX4_init (d + 2) 44 [(1, zI 3), (0, zR 44)] [zR 102, zI 3, zR 45] zk37 _
  refine zF_aastS 45 (n := 10) dX4_init_44 rfl (by decide +kernel) (by decide +kernel) (by decide +kernel) (by decide +kernel) (by decide) (by decide) ?_
  show zF G mX4_init (d + 2) 45 [(1, zI 3), (0, zR 44)] [] zk38 _
  refine zF_iinc 48 (ls' := [(1, zI 4), (0, zR 44)]) dX4_init_45 rfl rfl rfl (by decide) rfl ?_
  refine zF_goto 26 dX4_init_48 rfl ?_
  refine zF_iload_n 27 dX4_init_26 rfl rfl ?_
  refine zF_bipush 29 dX4_init_27 rfl (by decide) ?_
  refine zF_icmp_ge 51 32 dX4_init_29 rfl rfl (by decide) (by decide) (fun c => ?_) (fun c => ?_)
  · exact absurd c (by decide)
  refine zF_aload_n 33 dX4_init_32 rfl rfl ?_
  refine zF_getR 36 dX4_init_33 rfl gX4_11 (ci := 4) (by decide +kernel) (by decide +kernel) (show zra zk38 44 ((0 : Nat) : Int) = some 45 from by decide +kernel) ?_
  show zF G mX4_init (d + 2) 36 [(1, zI 4), (0, zR 44)] [zR 45] zk38 _
  refine zF_iload_n 37 dX4_init_36 rfl rfl ?_
  refine zF_new 40 (ci := 8) (N := 16) dX4_init_37 rfl nX4_9 rfl (by decide +kernel) (zwl_q (by exact (⟨trivial, zwR (show 44 < zn zk38 from by decide +kernel), trivial⟩ : _ ∧ _ ∧ True))) (zwl_m (by exact (⟨trivial, zwR (show 45 < zn zk38 from by decide +kernel), trivial⟩ : _ ∧ _ ∧ True))) ?_
  rw [show zn zk38 = 116 from by decide +kernel]
  show zF G mX4_init (d + 2) 40 [(1, zI 4), (0, zR 44)] [zR 116, zI 4, zR 45] zk39 _
  refine zF_dup 41 dX4_init_40 rfl rfl ?_
  refine zF_callINn 44 (d2 := 1) (as := []) (rest := [zR 116, zI 4, zR 45]) dX4_init_41 rfl knX4_17 rfl iX8_init (by omega) rfl rfl (Nat.le_of_ble_eq_true rfl) (by exact (⟨trivial, zwR (show 44 < zn zk39 from by decide +kernel), trivial⟩ : _ ∧ _ ∧ True)) (by exact (⟨zwR (show 116 < zn zk39 from by decide +kernel), trivial, zwR (show 45 < zn zk39 from by decide +kernel), trivial⟩ : _ ∧ _ ∧ _ ∧ True)) (zE.mono (zt_X8_init (d := 0) (σ := zk39) (by decide +kernel) (by decide +kernel) (by decide +kernel)) fun r σ1 hh => ⟨hh.1, ?_⟩)
  replace hh := hh.2
  subst hh
  show zF G mX4_init (d + 2) 44 [(1, zI 4), (0, zR 44)] [zR 116, zI 4, zR 45] zk40 _
  refine zF_aastS 45 (n := 10) dX4_init_44 rfl (by decide +kernel) (by decide +kernel) (by decide +kernel) (by decide +kernel) (by decide) (by decide) ?_
  show zF G mX4_init (d + 2) 45 [(1, zI 4), (0, zR 44)] [] zk41 _
  refine zF_iinc 48 (ls' := [(1, zI 5), (0, zR 44)]) dX4_init_45 rfl rfl rfl (by decide) rfl ?_
  refine zF_goto 26 dX4_init_48 rfl ?_
  refine zF_iload_n 27 dX4_init_26 rfl rfl ?_
  refine zF_bipush 29 dX4_init_27 rfl (by decide) ?_
  refine zF_icmp_ge 51 32 dX4_init_29 rfl rfl (by decide) (by decide) (fun c => ?_) (fun c => ?_)
  · exact absurd c (by decide)
  refine zF_aload_n 33 dX4_init_32 rfl rfl ?_
  refine zF_getR 36 dX4_init_33 rfl gX4_11 (ci := 4) (by decide +kernel) (by decide +kernel) (show zra zk41 44 ((0 : Nat) : Int) = some 45 from by decide +kernel) ?_
  show zF G mX4_init (d + 2) 36 [(1, zI 5), (0, zR 44)] [zR 45] zk41 _
  refine zF_iload_n 37 dX4_init_36 rfl rfl ?_
  refine zF_new 40 (ci := 8) (N := 16) dX4_init_37 rfl nX4_9 rfl (by decide +kernel) (zwl_q (by exact (⟨trivial, zwR (show 44 < zn zk41 from by decide +kernel), trivial⟩ : _ ∧ _ ∧ True))) (zwl_m (by exact (⟨trivial, zwR (show 45 < zn zk41 from by decide +kernel), trivial⟩ : _ ∧ _ ∧ True))) ?_
  rw [show zn zk41 = 130 from by decide +kernel]
  show zF G mX4_init (d + 2) 40 [(1, zI 5), (0, zR 44)] [zR 130, zI 5, zR 45] zk42 _
  refine zF_dup 41 dX4_init_40 rfl rfl ?_
  refine zF_callINn 44 (d2 := 1) (as := []) (rest := [zR 130, zI 5, zR 45]) dX4_init_41 rfl knX4_17 rfl iX8_init (by omega) rfl rfl (Nat.le_of_ble_eq_true rfl) (by exact (⟨trivial, zwR (show 44 < zn zk42 from by decide +kernel), trivial⟩ : _ ∧ _ ∧ True)) (by exact (⟨zwR (show 130 < zn zk42 from by decide +kernel), trivial, zwR (show 45 < zn zk42 from by decide +kernel), trivial⟩ : _ ∧ _ ∧ _ ∧ True)) (zE.mono (zt_X8_init (d := 0) (σ := zk42) (by decide +kernel) (by decide +kernel) (by decide +kernel)) fun r σ1 hh => ⟨hh.1, ?_⟩)
  replace hh := hh.2
  subst hh
  show zF G mX4_init (d + 2) 44 [(1, zI 5), (0, zR 44)] [zR 130, zI 5, zR 45] zk43 _
  refine zF_aastS 45 (n := 10) dX4_init_44 rfl (by decide +kernel) (by decide +kernel) (by decide +kernel) (by decide +kernel) (by decide) (by decide) ?_
  show zF G mX4_init (d + 2) 45 [(1, zI 5), (0, zR 44)] [] zk44 _
  refine zF_iinc 48 (ls' := [(1, zI 6), (0, zR 44)]) dX4_init_45 rfl rfl rfl (by decide) rfl ?_
  refine zF_goto 26 dX4_init_48 rfl ?_
  refine zF_iload_n 27 dX4_init_26 rfl rfl ?_
  refine zF_bipush 29 dX4_init_27 rfl (by decide) ?_
  refine zF_icmp_ge 51 32 dX4_init_29 rfl rfl (by decide) (by decide) (fun c => ?_) (fun c => ?_)
  · exact absurd c (by decide)
  refine zF_aload_n 33 dX4_init_32 rfl rfl ?_
  refine zF_getR 36 dX4_init_33 rfl gX4_11 (ci := 4) (by decide +kernel) (by decide +kernel) (show zra zk44 44 ((0 : Nat) : Int) = some 45 from by decide +kernel) ?_
  show zF G mX4_init (d + 2) 36 [(1, zI 6), (0, zR 44)] [zR 45] zk44 _
  refine zF_iload_n 37 dX4_init_36 rfl rfl ?_
  refine zF_new 40 (ci := 8) (N := 16) dX4_init_37 rfl nX4_9 rfl (by decide +kernel) (zwl_q (by exact (⟨trivial, zwR (show 44 < zn zk44 from by decide +kernel), trivial⟩ : _ ∧ _ ∧ True))) (zwl_m (by exact (⟨trivial, zwR (show 45 < zn zk44 from by decide +kernel), trivial⟩ : _ ∧ _ ∧ True))) ?_
  rw [show zn zk44 = 144 from by decide +kernel]
  show zF G mX4_init (d + 2) 40 [(1, zI 6), (0, zR 44)] [zR 144, zI 6, zR 45] zk45 _
  refine zF_dup 41 dX4_init_40 rfl rfl ?_
  refine zF_callINn 44 (d2 := 1) (as := []) (rest := [zR 144, zI 6, zR 45]) dX4_init_41 rfl knX4_17 rfl iX8_init (by omega) rfl rfl (Nat.le_of_ble_eq_true rfl) (by exact (⟨trivial, zwR (show 44 < zn zk45 from by decide +kernel), trivial⟩ : _ ∧ _ ∧ True)) (by exact (⟨zwR (show 144 < zn zk45 from by decide +kernel), trivial, zwR (show 45 < zn zk45 from by decide +kernel), trivial⟩ : _ ∧ _ ∧ _ ∧ True)) (zE.mono (zt_X8_init (d := 0) (σ := zk45) (by decide +kernel) (by decide +kernel) (by decide +kernel)) fun r σ1 hh => ⟨hh.1, ?_⟩)
  replace hh := hh.2
  subst hh
  show zF G mX4_init (d + 2) 44 [(1, zI 6), (0, zR 44)] [zR 144, zI 6, zR 45] zk46 _
  refine zF_aastS 45 (n := 10) dX4_init_44 rfl (by decide +kernel) (by decide +kernel) (by decide +kernel) (by decide +kernel) (by decide) (by decide) ?_
  show zF G mX4_init (d + 2) 45 [(1, zI 6), (0, zR 44)] [] zk47 _
  refine zF_iinc 48 (ls' := [(1, zI 7), (0, zR 44)]) dX4_init_45 rfl rfl rfl (by decide) rfl ?_
  refine zF_goto 26 dX4_init_48 rfl ?_
  refine zF_iload_n 27 dX4_init_26 rfl rfl ?_
  refine zF_bipush 29 dX4_init_27 rfl (by decide) ?_
  refine zF_icmp_ge 51 32 dX4_init_29 rfl rfl (by decide) (by decide) (fun c => ?_) (fun c => ?_)
  · exact absurd c (by decide)
  refine zF_aload_n 33 dX4_init_32 rfl rfl ?_
  refine zF_getR 36 dX4_init_33 rfl gX4_11 (ci := 4) (by decide +kernel) (by decide +kernel) (show zra zk47 44 ((0 : Nat) : Int) = some 45 from by decide +kernel) ?_
  show zF G mX4_init (d + 2) 36 [(1, zI 7), (0, zR 44)] [zR 45] zk47 _
  refine zF_iload_n 37 dX4_init_36 rfl rfl ?_
  refine zF_new 40 (ci := 8) (N := 16) dX4_init_37 rfl nX4_9 rfl (by decide +kernel) (zwl_q (by exact (⟨trivial, zwR (show 44 < zn zk47 from by decide +kernel), trivial⟩ : _ ∧ _ ∧ True))) (zwl_m (by exact (⟨trivial, zwR (show 45 < zn zk47 from by decide +kernel), trivial⟩ : _ ∧ _ ∧ True))) ?_
  rw [show zn zk47 = 158 from by decide +kernel]
  show zF G mX4_init (d + 2) 40 [(1, zI 7), (0, zR 44)] [zR 158, zI 7, zR 45] zk48 _
  refine zF_dup 41 dX4_init_40 rfl rfl ?_
  refine zF_callINn 44 (d2 := 1) (as := []) (rest := [zR 158, zI 7, zR 45]) dX4_init_41 rfl knX4_17 rfl iX8_init (by omega) rfl rfl (Nat.le_of_ble_eq_true rfl) (by exact (⟨trivial, zwR (show 44 < zn zk48 from by decide +kernel), trivial⟩ : _ ∧ _ ∧ True)) (by exact (⟨zwR (show 158 < zn zk48 from by decide +kernel), trivial, zwR (show 45 < zn zk48 from by decide +kernel), trivial⟩ : _ ∧ _ ∧ _ ∧ True)) (zE.mono (zt_X8_init (d := 0) (σ := zk48) (by decide +kernel) (by decide +kernel) (by decide +kernel)) fun r σ1 hh => ⟨hh.1, ?_⟩)
  replace hh := hh.2
  subst hh
  show zF G mX4_init (d + 2) 44 [(1, zI 7), (0, zR 44)] [zR 158, zI 7, zR 45] zk49 _
  refine zF_aastS 45 (n := 10) dX4_init_44 rfl (by decide +kernel) (by decide +kernel) (by decide +kernel) (by decide +kernel) (by decide) (by decide) ?_
  show zF G mX4_init (d + 2) 45 [(1, zI 7), (0, zR 44)] [] zk50 _
  refine zF_iinc 48 (ls' := [(1, zI 8), (0, zR 44)]) dX4_init_45 rfl rfl rfl (by decide) rfl ?_
  refine zF_goto 26 dX4_init_48 rfl ?_
  refine zF_iload_n 27 dX4_init_26 rfl rfl ?_
  refine zF_bipush 29 dX4_init_27 rfl (by decide) ?_
  refine zF_icmp_ge 51 32 dX4_init_29 rfl rfl (by decide) (by decide) (fun c => ?_) (fun c => ?_)
  · exact absurd c (by decide)
  refine zF_aload_n 33 dX4_init_32 rfl rfl ?_
  refine zF_getR 36 dX4_init_33 rfl gX4_11 (ci := 4) (by decide +kernel) (by decide +kernel) (show zra zk50 44 ((0 : Nat) : Int) = some 45 from by decide +kernel) ?_
  show zF G mX4_init (d + 2) 36 [(1, zI 8), (0, zR 44)] [zR 45] zk50 _
  refine zF_iload_n 37 dX4_init_36 rfl rfl ?_
  refine zF_new 40 (ci := 8) (N := 16) dX4_init_37 rfl nX4_9 rfl (by decide +kernel) (zwl_q (by exact (⟨trivial, zwR (show 44 < zn zk50 from by decide +kernel), trivial⟩ : _ ∧ _ ∧ True))) (zwl_m (by exact (⟨trivial, zwR (show 45 < zn zk50 from by decide +kernel), trivial⟩ : _ ∧ _ ∧ True))) ?_
  rw [show zn zk50 = 172 from by decide +kernel]
  show zF G mX4_init (d + 2) 40 [(1, zI 8), (0, zR 44)] [zR 172, zI 8, zR 45] zk51 _
  refine zF_dup 41 dX4_init_40 rfl rfl ?_
  refine zF_callINn 44 (d2 := 1) (as := []) (rest := [zR 172, zI 8, zR 45]) dX4_init_41 rfl knX4_17 rfl iX8_init (by omega) rfl rfl (Nat.le_of_ble_eq_true rfl) (by exact (⟨trivial, zwR (show 44 < zn zk51 from by decide +kernel), trivial⟩ : _ ∧ _ ∧ True)) (by exact (⟨zwR (show 172 < zn zk51 from by decide +kernel), trivial, zwR (show 45 < zn zk51 from by decide +kernel), trivial⟩ : _ ∧ _ ∧ _ ∧ True)) (zE.mono (zt_X8_init (d := 0) (σ := zk51) (by decide +kernel) (by decide +kernel) (by decide +kernel)) fun r σ1 hh => ⟨hh.1, ?_⟩)
  replace hh := hh.2
  subst hh
  show zF G mX4_init (d + 2) 44 [(1, zI 8), (0, zR 44)] [zR 172, zI 8, zR 45] zk52 _
  refine zF_aastS 45 (n := 10) dX4_init_44 rfl (by decide +kernel) (by decide +kernel) (by decide +kernel) (by decide +kernel) (by decide) (by decide) ?_
  show zF G mX4_init (d + 2) 45 [(1, zI 8), (0, zR 44)] [] zk53 _
  refine zF_iinc 48 (ls' := [(1, zI 9), (0, zR 44)]) dX4_init_45 rfl rfl rfl (by decide) rfl ?_
  refine zF_goto 26 dX4_init_48 rfl ?_
  refine zF_iload_n 27 dX4_init_26 rfl rfl ?_
  refine zF_bipush 29 dX4_init_27 rfl (by decide) ?_
  refine zF_icmp_ge 51 32 dX4_init_29 rfl rfl (by decide) (by decide) (fun c => ?_) (fun c => ?_)
  · exact absurd c (by decide)
  refine zF_aload_n 33 dX4_init_32 rfl rfl ?_
  refine zF_getR 36 dX4_init_33 rfl gX4_11 (ci := 4) (by decide +kernel) (by decide +kernel) (show zra zk53 44 ((0 : Nat) : Int) = some 45 from by decide +kernel) ?_
  show zF G mX4_init (d + 2) 36 [(1, zI 9), (0, zR 44)] [zR 45] zk53 _
  refine zF_iload_n 37 dX4_init_36 rfl rfl ?_
  refine zF_new 40 (ci := 8) (N := 16) dX4_init_37 rfl nX4_9 rfl (by decide +kernel) (zwl_q (by exact (⟨trivial, zwR (show 44 < zn zk53 from by decide +kernel), trivial⟩ : _ ∧ _ ∧ True))) (zwl_m (by exact (⟨trivial, zwR (show 45 < zn zk53 from by decide +kernel), trivial⟩ : _ ∧ _ ∧ True))) ?_
  rw [show zn zk53 = 186 from by decide +kernel]
  show zF G mX4_init (d + 2) 40 [(1, zI 9), (0, zR 44)] [zR 186, zI 9, zR 45] zk54 _
  refine zF_dup 41 dX4_init_40 rfl rfl ?_
  refine zF_callINn 44 (d2 := 1) (as := []) (rest := [zR 186, zI 9, zR 45]) dX4_init_41 rfl knX4_17 rfl iX8_init (by omega) rfl rfl (Nat.le_of_ble_eq_true rfl) (by exact (⟨trivial, zwR (show 44 < zn zk54 from by decide +kernel), trivial⟩ : _ ∧ _ ∧ True)) (by exact (⟨zwR (show 186 < zn zk54 from by decide +kernel), trivial, zwR (show 45 < zn zk54 from by decide +kernel), trivial⟩ : _ ∧ _ ∧ _ ∧ True)) (zE.mono (zt_X8_init (d := 0) (σ := zk54) (by decide +kernel) (by decide +kernel) (by decide +kernel)) fun r σ1 hh => ⟨hh.1, ?_⟩)
  replace hh := hh.2
  subst hh
  show zF G mX4_init (d + 2) 44 [(1, zI 9), (0, zR 44)] [zR 186, zI 9, zR 45] zk55 _
  refine zF_aastS 45 (n := 10) dX4_init_44 rfl (by decide +kernel) (by decide +kernel) (by decide +kernel) (by decide +kernel) (by decide) (by decide) ?_
  show zF G mX4_init (d + 2) 45 [(1, zI 9), (0, zR 44)] [] zk56 _
  refine zF_iinc 48 (ls' := [(1, zI 10), (0, zR 44)]) dX4_init_45 rfl rfl rfl (by decide) rfl ?_
  refine zF_goto 26 dX4_init_48 rfl ?_
  refine zF_iload_n 27 dX4_init_26 rfl rfl ?_
  refine zF_bipush 29 dX4_init_27 rfl (by decide) ?_
  refine zF_icmp_ge 51 32 dX4_init_29 rfl rfl (by decide) (by decide) (fun c => ?_) (fun c => ?_)
  rotate_left
  · exact absurd (by decide) c
  exact zF_return dX4_init_51 rfl ⟨rfl, rfl⟩
theorem zc_X2_init (hG : zOS G) (hAO : zAO G) : zE G mX2_init (d + 2) [zR 201, zR 200] zk61 (fun r σ1 => r = .inl none ∧ σ1 = zk68) := by
  refine zE_of rfl (by simp [zcat]) (Nat.le_of_ble_eq_true rfl) ?_
  show zF G mX2_init (d + 2) 0 [(0, zR 201), (1, zR 200)] [] zk61 _
  refine zF_aload_n 1 dX2_init_0 rfl rfl ?_
  refine zF_obj 4 dX2_init_1 rfl (zi2 156 rfl rfl) (zi1 33 rfl rfl) (zi1 34 rfl rfl) (by omega) (Nat.le_of_ble_eq_true rfl) ?_
  refine zF_aload_n 5 dX2_init_4 rfl rfl ?_
  refine zF_new 8 (ci := 1) (N := 13) dX2_init_5 rfl nX2_9 rfl (by decide +kernel) (zwl_q (by exact (⟨zwR (show 201 < zn zk61 from by decide +kernel), zwR (show 200 < zn zk61 from by decide +kernel), trivial⟩ : _ ∧ _ ∧ True))) (zwl_m (by exact (⟨zwR (show 201 < zn zk61 from by decide +kernel), trivial⟩ : _ ∧ True))) ?_
  rw [show zn zk61 = 202 from by decide +kernel]
  show zF G mX2_init (d + 2) 8 [(0, zR 201), (1, zR 200)] [zR 202, zR 201] zk62 _
  refine zF_dup 9 dX2_init_8 rfl rfl ?_
  refine zF_callINn 12 (d2 := 1) (as := []) (rest := [zR 202, zR 201]) dX2_init_9 rfl knX2_11 rfl iX1_init (by omega) rfl rfl (Nat.le_of_ble_eq_true rfl) (by exact (⟨zwR (show 201 < zn zk62 from by decide +kernel), zwR (show 200 < zn zk62 from by decide +kernel), trivial⟩ : _ ∧ _ ∧ True)) (by exact (⟨zwR (show 202 < zn zk62 from by decide +kernel), zwR (show 201 < zn zk62 from by decide +kernel), trivial⟩ : _ ∧ _ ∧ True)) (zE.mono (zt_X1_init (d := 0) (σ := zk62) (by decide +kernel) (by decide +kernel) (by decide +kernel)) fun r σ1 hh => ⟨hh.1, ?_⟩)
  replace hh := hh.2
  subst hh
  show zF G mX2_init (d + 2) 12 [(0, zR 201), (1, zR 200)] [zR 202, zR 201] zk63 _
  refine zF_putR 15 dX2_init_12 rfl pX2_init_12 (zwf_l (by decide +kernel)) (by decide +kernel) (by decide +kernel) ?_
  show zF G mX2_init (d + 2) 15 [(0, zR 201), (1, zR 200)] [] zk64 _
  refine zF_aload_n 16 dX2_init_15 rfl rfl ?_
  refine zF_new 19 (ci := 8) (N := 16) dX2_init_16 rfl nX2_18 rfl (by decide +kernel) (zwl_q (by exact (⟨zwR (show 201 < zn zk64 from by decide +kernel), zwR (show 200 < zn zk64 from by decide +kernel), trivial⟩ : _ ∧ _ ∧ True))) (zwl_m (by exact (⟨zwR (show 201 < zn zk64 from by decide +kernel), trivial⟩ : _ ∧ True))) ?_
  rw [show zn zk64 = 213 from by decide +kernel]
  show zF G mX2_init (d + 2) 19 [(0, zR 201), (1, zR 200)] [zR 213, zR 201] zk65 _
  refine zF_dup 20 dX2_init_19 rfl rfl ?_
  refine zF_callINn 23 (d2 := 1) (as := []) (rest := [zR 213, zR 201]) dX2_init_20 rfl knX2_20 rfl iX8_init (by omega) rfl rfl (Nat.le_of_ble_eq_true rfl) (by exact (⟨zwR (show 201 < zn zk65 from by decide +kernel), zwR (show 200 < zn zk65 from by decide +kernel), trivial⟩ : _ ∧ _ ∧ True)) (by exact (⟨zwR (show 213 < zn zk65 from by decide +kernel), zwR (show 201 < zn zk65 from by decide +kernel), trivial⟩ : _ ∧ _ ∧ True)) (zE.mono (zt_X8_init (d := 0) (σ := zk65) (by decide +kernel) (by decide +kernel) (by decide +kernel)) fun r σ1 hh => ⟨hh.1, ?_⟩)
  replace hh := hh.2
  subst hh
  show zF G mX2_init (d + 2) 23 [(0, zR 201), (1, zR 200)] [zR 213, zR 201] zk66 _
  refine zF_putR 26 dX2_init_23 rfl pX2_init_21 (zwf_l (by decide +kernel)) (by decide +kernel) (by decide +kernel) ?_
  show zF G mX2_init (d + 2) 26 [(0, zR 201), (1, zR 200)] [] zk67 _
  refine zF_aload_n 27 dX2_init_26 rfl rfl ?_
  refine zF_aload_n 28 dX2_init_27 rfl rfl ?_
  refine zF_putR 31 dX2_init_28 rfl pX2_init_25 (zwf_l (by decide +kernel)) (by decide +kernel) (by decide +kernel) ?_
  show zF G mX2_init (d + 2) 31 [(0, zR 201), (1, zR 200)] [] zk68 _
  exact zF_return dX2_init_31 rfl ⟨rfl, rfl⟩
end ZNB

/-! the class: load -/
section ZCW
variable {G : zG} {d : Nat} {σ σ0 σ1 : zMem} {B : Nat → Nat} {N f : Int → Int} {t : Int → Int} {L : Nat} {s : tS}
theorem Bne (hi : ∀ i j, B i = B j → i = j) {i j : Nat} (h : i ≠ j) : B i ≠ B j := fun e => h (hi _ _ e)
theorem zt_X11_checkLength {n m : Int} (hG : zGd G) (hO : cO σ B) {b : Int} (hb1 : zia σ (B 0) ((1 : Nat) : Int) = b) (b0 : 0 ≤ b) (b1 : b ≤ 700) (zn : zrg n) (zm : zrg m) : zE G mX11_checkLength (d + 6) [zR (B 0), zI n, zI m] σ (fun r σ1 => if 0 ≤ n ∧ n ≤ m ∧ n ≤ b then r = .inl none ∧ σ1 = σ else r = .inr eIAE ∧ σ1 = zus σ 1 6) := by
  refine zE_of rfl (by simp [zcat]) (Nat.le_of_ble_eq_true rfl) ?_
  show zF G mX11_checkLength (d + 6) 0 [(0, zR (B 0)), (1, zI n), (2, zI m)] [] σ _
  have hB := hO.1
  refine zF_iload_n 1 dX11_checkLength_0 rfl rfl ?_
  refine zF_if_lt 17 4 dX11_checkLength_1 rfl rfl (by first | decide | assumption | (constructor <;> omega)) (fun c1 => ?_) (fun c1 => ?_)
  · exact zF_throw hG rfl zrxA0 zrxA1 zrxA2 zrxA5 zatA zckA zinA (by decide) (by decide) rfl (i := 0) rfl dX11_checkLength_17 dX11_checkLength_20 dX11_checkLength_21 dX11_checkLength_23 dX11_checkLength_26 (by omega) (Nat.le_of_ble_eq_true rfl) (by rw [if_neg (by omega)]; exact ⟨rfl, rfl⟩)
  · refine zF_iload_n 5 dX11_checkLength_4 rfl rfl ?_
    refine zF_iload_n 6 dX11_checkLength_5 rfl rfl ?_
    refine zF_icmp_gt 17 9 dX11_checkLength_6 rfl rfl (by first | decide | assumption | (constructor <;> omega)) (by first | decide | assumption | (constructor <;> omega)) (fun c2 => ?_) (fun c2 => ?_)
    · exact zF_throw hG rfl zrxA0 zrxA1 zrxA2 zrxA5 zatA zckA zinA (by decide) (by decide) rfl (i := 0) rfl dX11_checkLength_17 dX11_checkLength_20 dX11_checkLength_21 dX11_checkLength_23 dX11_checkLength_26 (by omega) (Nat.le_of_ble_eq_true rfl) (by rw [if_neg (by omega)]; exact ⟨rfl, rfl⟩)
    · refine zF_iload_n 10 dX11_checkLength_9 rfl rfl ?_
      refine zF_aload_n 11 dX11_checkLength_10 rfl rfl ?_
      refine zF_getI 14 dX11_checkLength_11 rfl gX11_100 (by decide) (by decide) hO.2.1 hO.2.2.1 hb1 ?_
      refine zF_icmp_le 27 17 dX11_checkLength_14 rfl rfl (by first | decide | assumption | (constructor <;> omega)) (by first | decide | assumption | (constructor <;> omega)) (fun c3 => ?_) (fun c3 => ?_)
      · exact zF_return dX11_checkLength_27 rfl (by rw [if_pos (by omega)]; exact ⟨rfl, rfl⟩)
      · exact zF_throw hG rfl zrxA0 zrxA1 zrxA2 zrxA5 zatA zckA zinA (by decide) (by decide) rfl (i := 0) rfl dX11_checkLength_17 dX11_checkLength_20 dX11_checkLength_21 dX11_checkLength_23 dX11_checkLength_26 (by omega) (Nat.le_of_ble_eq_true rfl) (by rw [if_neg (by omega)]; exact ⟨rfl, rfl⟩)
theorem cTk_m0 {i v : Int} (hi : ∀ i j, B i = B j → i = j) (h : cTk σ B t L) : cTk (zsi σ (B 0) i v) B t L := by
  have e : zia (zsi σ (B 0) i v) (B 10) = zia σ (B 10) := zsi_at (Bne hi (by decide)) rfl
  unfold cTk at h ⊢
  rw [e]; exact h
theorem cTs_m0 {i v : Int} (hi : ∀ i j, B i = B j → i = j) (h : cTs σ B t L s) : cTs (zsi σ (B 0) i v) B t L s := by
  have e : zia (zsi σ (B 0) i v) (B 20) = zia σ (B 20) := zsi_at (Bne hi (by decide)) rfl
  unfold cTs at h ⊢
  rw [e]; exact h
def PFr (B : Nat → Nat) (h : Nat) (j : Int) : Prop := h = B 0 ∧ (j = 1 ∨ j = 2)
theorem zt_X11_finishReading (hO : cO σ B) (hT : cTk σ B t L) (hs : cTs σ B t L s) : zE G mX11_finishReading (d + 2) [zR (B 0)] σ (fun ro σ1 => ro = .inl none ∧ zFr (PFr B) σ σ1 ∧ zia σ1 (B 0) ((1 : Nat) : Int) = 0 ∧ zia σ1 (B 0) ((2 : Nat) : Int) = (if s.2 = 0 then -1 else ((tbg t L s.1 : Nat) : Int))) := by
  refine zE_of rfl (by simp [zcat]) (Nat.le_of_ble_eq_true rfl) ?_
  show zF G mX11_finishReading (d + 2) 0 [(0, zR (B 0))] [] σ _
  have hB := hO.1
  have hi := hO.1.2.2.2
  refine zF_aload_n 1 dX11_finishReading_0 rfl rfl ?_
  refine zF_iconst 2 dX11_finishReading_1 rfl ?_
  refine zF_putI 5 dX11_finishReading_2 rfl pX11_finishReading_100 (Or.inl rfl) hO.2.1 hO.2.2.1 ?_
  refine zF_aload_n 6 dX11_finishReading_5 rfl rfl ?_
  refine zF_aload_n 7 dX11_finishReading_6 rfl rfl ?_
  refine zF_getR 10 dX11_finishReading_7 rfl gX11_75 hO.2.1 hO.2.2.1 hO.2.2.2.2.2.2.2.2.2.2.2.1 ?_
  refine zF_callVi 13 (d2 := (d + 1)) (as := []) dX11_finishReading_10 rfl kX11_117 iX9_failed (ci := 9) rfl eX9_failed (Nat.le_refl _) (cTk_m0 (σ := σ) hi hT).1 (cTk_m0 (σ := σ) hi hT).2.1 rfl rfl (Nat.le_of_ble_eq_true rfl) (zt_X9_failed (σ := (zsi σ (B 0) ((1 : Nat) : Int) 0)) (cTk_m0 (σ := σ) hi hT) (cTs_m0 (σ := σ) hi hs)) ?_
  refine zF_ifb_eq 26 16 dX11_finishReading_13 rfl rfl (fun c1 => ?_) (fun c1 => ?_)
  · refine zF_iconst 27 dX11_finishReading_26 rfl ?_
    refine zF_putI 30 dX11_finishReading_27 rfl pX11_finishReading_13 (Or.inl rfl) hO.2.1 hO.2.2.1 ?_
    exact zF_return dX11_finishReading_30 rfl (⟨rfl, zFr_si ⟨rfl, Or.inr rfl⟩ (zFr_si ⟨rfl, Or.inl rfl⟩ zFr.rf), zsi_F (by decide) (zsi_same _ _ _ _), (zsi_same _ _ _ _).trans (by first | rfl | (rw [if_pos (by omega)]))⟩)
  · refine zF_aload_n 17 dX11_finishReading_16 rfl rfl ?_
    refine zF_getR 20 dX11_finishReading_17 rfl gX11_75 hO.2.1 hO.2.2.1 hO.2.2.2.2.2.2.2.2.2.2.2.1 ?_
    refine zF_getI 23 dX11_finishReading_20 rfl gX11_154 (by decide) (by decide) (cTk_m0 (σ := σ) hi hT).1 (cTk_m0 (σ := σ) hi hT).2.1 (cTs_m0 (σ := σ) hi hs).2.2.2.2.2.2.2.1 ?_
    refine zF_goto 27 dX11_finishReading_23 rfl ?_
    refine zF_putI 30 dX11_finishReading_27 rfl pX11_finishReading_13 (Or.inl rfl) hO.2.1 hO.2.2.1 ?_
    exact zF_return dX11_finishReading_30 rfl (⟨rfl, zFr_si ⟨rfl, Or.inr rfl⟩ (zFr_si ⟨rfl, Or.inl rfl⟩ zFr.rf), zsi_F (by decide) (zsi_same _ _ _ _), (zsi_same _ _ _ _).trans (by first | rfl | (rw [if_pos (by omega)]))⟩)
theorem zt_X4_discardAll (hH : cHs σ B) : zE G mX4_discardAll d [zR (B 600)] σ (fun ro σ1 => ro = .inl none ∧ zFr (fun h j => h = B 600 ∧ (j = 2 ∨ j = 4)) σ σ1 ∧ zia σ1 (B 600) ((2 : Nat) : Int) = 0 ∧ zia σ1 (B 600) ((4 : Nat) : Int) = 0) := by
  refine zE_of rfl (by simp [zcat]) (Nat.le_of_ble_eq_true rfl) ?_
  show zF G mX4_discardAll d 0 [(0, zR (B 600))] [] σ _
  refine zF_aload_n 1 dX4_discardAll_0 rfl rfl ?_
  refine zF_iconst 2 dX4_discardAll_1 rfl ?_
  refine zF_putI 5 dX4_discardAll_2 rfl pX4_discardAll_30 (Or.inl rfl) hH.1 hH.2.1 ?_
  refine zF_aload_n 6 dX4_discardAll_5 rfl rfl ?_
  refine zF_iconst 7 dX4_discardAll_6 rfl ?_
  refine zF_putI 10 dX4_discardAll_7 rfl pX4_discardAll_39 (Or.inr ⟨rfl, by omega⟩) hH.1 hH.2.1 ?_
  exact zF_return dX4_discardAll_10 rfl (⟨rfl, zFr_si ⟨rfl, Or.inr rfl⟩ (zFr_si ⟨rfl, Or.inl rfl⟩ zFr.rf), zsi_F (by decide) (zsi_same _ _ _ _), zsi_same _ _ _ _⟩)
end ZCW

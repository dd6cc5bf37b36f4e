/-! the reference: undo and snapshot -/
section ZQ3
variable {G : zG} {d : Nat} {σ : zMem} {hm : Nat} {A : Nat → Nat} {N : Int → Int}
def snap (σ : zMem) (A : Nat → Nat) : Int → Int := fun j => if 0 ≤ j ∧ j < 312 then zia σ (A 2) j else 0
/-- a row copied into the present state -/
theorem cp_row {t f : Nat} {σ1 : zMem} {r : Int} {H : Int → Int} (hN : zia σ t = N) (hz : ∀ j, j < 0 ∨ 312 ≤ j → N j = 0) (fr : zFr (fun h j => h = t ∧ 312 * 0 ≤ j ∧ j < 312 * 0 + 312) σ σ1) (p : ∀ k, 0 ≤ k → k < 312 → zia σ1 t (312 * 0 + k) = zia σ f (312 * r + k)) (hH : (fun j => if 0 ≤ j ∧ j < 312 then zia σ f (312 * r + j) else 0) = H) : zia σ1 t = H := by
  funext j
  rw [← hH]
  show zia σ1 t j = if 0 ≤ j ∧ j < 312 then zia σ f (312 * r + j) else 0
  by_cases c : 0 ≤ j ∧ j < 312
  · have := p j c.1 c.2
    rw [show (312 : Int) * 0 + j = j by omega] at this
    rw [if_pos c, this]
  · rw [if_neg c, fr.2.2.2.2.2 t j (fun q => by have := q.2; omega), hN]
    exact hz j (by omega)
theorem mMi_cp {t : Nat} (ht : t ∈ mAr) {lo hi : Int} {σ1 σ2 : zMem} (f : zFr (mMi hm A) σ σ1) (k : zFr (fun h j => h = A t ∧ lo ≤ j ∧ j < hi) σ1 σ2) : zFr (mMi hm A) σ σ2 := f.tr (k.wk fun _ _ q => Or.inr ⟨t, ht, q.1⟩)
theorem zt_X12_undo {H : Int → Int → Int} {u T : Int} (hM : zMo σ hm A) (hS : mST (N, H, u) σ hm A) (g : gS T (N, H, u)) : zE G mX12_undo (d + 6) [zR hm] σ (mopM 0 (oUnV (N, H, u)) (N, H, u) (oUnS (N, H, u)) hm A σ) := by
  refine zE_of rfl (by simp [zcat]) (Nat.le_of_ble_eq_true rfl) ?_
  show zF G mX12_undo (d + 6) 0 [(0, zR hm)] [] σ _
  obtain ⟨hN, hu, hh⟩ := hS
  have hN : zia σ (A 0) = N := hN
  have hu : zia σ hm ((4 : Nat) : Int) = u := hu
  have hh : mHr H u σ A := hh
  have gn : gN T N := g.n
  have hV := gn.v
  have hW := gn.w
  have hX := gn.x
  have hQ := gn.q
  have hb := hV.b
  have hn := hV.n
  have u0 : 0 ≤ u := g.2.1.1
  have u1 : u ≤ 10 := g.2.1.2
  have n0m := zMo_hm1 hM (k := 0) (by decide) zMo_h1
  have n3m := zMo_hm1 hM (k := 3) (by decide) zMo_h1
  refine zF_aload_n 1 dX12_undo_0 rfl rfl ?_
  refine zF_iconst 2 dX12_undo_1 rfl ?_
  refine zF_putI 5 dX12_undo_2 rfl pX12_undo_89 (Or.inl rfl) hM.1 hM.2.1 ?_
  refine zF_aload_n 6 dX12_undo_5 rfl rfl ?_
  refine zF_getI 9 dX12_undo_6 rfl gX12_328 (by decide) (by decide) hM.1 hM.2.1 (zsi_F (by decide) hu) ?_
  refine zF_if_ne 14 12 dX12_undo_9 rfl rfl (by first | decide | assumption | exact hb _ | exact mSh_rg hb _ _ | exact zb_rg _ | (constructor <;> omega)) (fun c1 => ?_) (fun c1 => ?_)
  · refine zF_aload_n 15 dX12_undo_14 rfl rfl ?_
    refine zF_dup 16 dX12_undo_15 rfl rfl ?_
    refine zF_getI 19 dX12_undo_16 rfl gX12_328 (by decide) (by decide) hM.1 hM.2.1 (zsi_F (by decide) hu) ?_
    refine zF_iconst 20 dX12_undo_19 rfl ?_
    refine zF_isub 21 dX12_undo_20 rfl ?_
    refine zF_putI 24 dX12_undo_21 rfl pX12_undo_328 (Or.inl rfl) hM.1 hM.2.1 ?_
    refine zF_aload_n 25 dX12_undo_24 rfl rfl ?_
    refine zF_getR 28 dX12_undo_25 rfl gX12_19 hM.1 hM.2.1 (zM_3 hM).1 ?_
    refine zF_aload_n 29 dX12_undo_28 rfl rfl ?_
    refine zF_getI 32 dX12_undo_29 rfl gX12_328 (by decide) (by decide) hM.1 hM.2.1 (zsi_same _ _ _ _) ?_
    refine zF_aload_n 33 dX12_undo_32 rfl rfl ?_
    refine zF_getR 36 dX12_undo_33 rfl gX12_9 hM.1 hM.2.1 (zM_0 hM).1 ?_
    refine zF_iconst 37 dX12_undo_36 rfl ?_
    refine zF_callS 40 (d2 := (d + 5)) (as := [zR (A 3), zI (u - 1), zR (A 0), zI 0]) dX12_undo_37 rfl kX12_331 sX12_copy (Nat.le_refl _) rfl rfl (Nat.le_of_ble_eq_true rfl) (zE.mono (zt_X12_copy (σ := (zsi (zsi σ hm ((5 : Nat) : Int) 0) hm ((4 : Nat) : Int) (u - 1))) (zM_3 hM).2.2 (zM_3 hM).2.1 (zM_0 hM).2.2 (zM_0 hM).2.1 (by omega) (by omega) (by omega) (by omega) (fun q => absurd q (zMo_ne hM (j := 3) (k := 0) (by decide) (by decide) (by decide)))) fun ro σa1 hh1 => ?_)
    obtain ⟨er1, fr1, p1⟩ := hh1
    subst er1
    refine ⟨fr1.1, ?_⟩
    show zF G mX12_undo (d + 6) 40 [(0, zR hm)] [] σa1 _
    have hMa1 := zMo_f2 fr1 hM
    have hNa1 : zia σa1 (A 0) = H (u - 1) := cp_row (zMo_hN (k := 0) (zMo_hN (k := 0) hN hM (by decide) zMo_h1) hM (by decide) zMo_h1) hQ.z fr1 p1 ((mHr_si (mHr_si hh n3m) n3m) (u - 1) (by omega) (by omega))
    have hha1 := mHr_fr (mHr_si (mHr_si hh n3m) n3m) fr1 (fun _ q => zMo_ne hM (j := 3) (k := 0) (by decide) (by decide) (by decide) q.1)
    refine zF_aload_n 41 dX12_undo_40 rfl rfl ?_
    refine zF_getI 44 dX12_undo_41 rfl gX12_328 (by decide) (by decide) hMa1.1 hMa1.2.1 (zFr_F fr1 (fun q => n0m q.1.symm) (zsi_same _ _ _ _)) ?_
    exact zF_ireturn dX12_undo_44 rfl (mopMR ((mMi_mu (mMi_hm (by decide) zFr.rf) |> (zFr.tr (mMu5 zFr.rf))).tr (mMi_mu (mMi_cp (t := 0) (by decide) zFr.rf fr1))) (zFr_F fr1 (fun q => n0m q.1.symm) (zsi_F (by decide) (zsi_same _ _ _ _))) rfl (if_neg (show ¬ u = 0 by omega)).symm (S1 := (H (u - 1), H, u - 1)) (if_neg (show ¬ u = 0 by omega)) ⟨hNa1, (zFr_F fr1 (fun q => n0m q.1.symm) (zsi_same _ _ _ _)), fun k k0 k1 => hha1 k k0 (by have k2 : k < u - 1 := k1; omega)⟩)
  · refine zF_iconst 13 dX12_undo_12 rfl ?_
    exact zF_ireturn dX12_undo_13 rfl (mopMR (mMu5 zFr.rf) (zsi_same _ _ _ _) rfl (if_pos (show u = 0 by omega)).symm (S1 := (N, H, u)) (if_pos (show u = 0 by omega)) ⟨(zMo_hN (k := 0) hN hM (by decide) zMo_h1), (zsi_F (by decide) hu), (mHr_si hh n3m)⟩)
theorem snap_cp {σ1 : zMem} (hN : zia σ (A 0) = N) (hz : ∀ j, j < 0 ∨ 312 ≤ j → N j = 0) (p : ∀ k, 0 ≤ k → k < 312 → zia σ1 (A 2) (312 * 0 + k) = zia σ (A 0) (312 * 0 + k)) : snap σ1 A = N := by
  funext j
  unfold snap
  by_cases c : 0 ≤ j ∧ j < 312
  · have := p j c.1 c.2
    rw [show (312 : Int) * 0 + j = j by omega, hN] at this
    rw [if_pos c, this]
  · rw [if_neg c, hz j (by omega)]
theorem snap_si {h : Nat} {j v : Int} (hne : A 2 ≠ h) : snap (zsi σ h j v) A = snap σ A := by
  funext i
  unfold snap
  rw [zsi_at hne rfl]
theorem snap_r {σ1 : zMem} {Sn : Int → Int} (h : snap σ1 A = Sn) : (fun j => if 0 ≤ j ∧ j < 312 then zia σ1 (A 2) (312 * 0 + j) else 0) = Sn := by
  rw [← h]
  funext j
  unfold snap
  rw [show (312 : Int) * 0 + j = j by omega]
theorem snap_fr {P : Nat → Int → Prop} {σ1 : zMem} (f : zFr P σ σ1) (hp : ∀ j, ¬ P (A 2) j) : snap σ1 A = snap σ A := by
  unfold snap
  rw [f.at hp]
theorem zt_X12_saveSnapshot {H : Int → Int → Int} {u T : Int} (hM : zMo σ hm A) (hS : mST (N, H, u) σ hm A) (g : gS T (N, H, u)) : zE G mX12_saveSnapshot (d + 6) [zR hm] σ (fun ro σ1 => ro = .inl none ∧ zFr (fun h j => (h = hm ∧ (j = 5 ∨ j = 6)) ∨ h = A 2) σ σ1 ∧ mST (N, H, u) σ1 hm A ∧ snap σ1 A = N ∧ zia σ1 hm ((6 : Nat) : Int) = 1) := by
  refine zE_of rfl (by simp [zcat]) (Nat.le_of_ble_eq_true rfl) ?_
  show zF G mX12_saveSnapshot (d + 6) 0 [(0, zR hm)] [] σ _
  obtain ⟨hN, hu, hh⟩ := hS
  have hN : zia σ (A 0) = N := hN
  have hu : zia σ hm ((4 : Nat) : Int) = u := hu
  have hh : mHr H u σ A := hh
  have gn : gN T N := g.n
  have hV := gn.v
  have hW := gn.w
  have hX := gn.x
  have hQ := gn.q
  have hb := hV.b
  have hn := hV.n
  have u0 : 0 ≤ u := g.2.1.1
  have u1 : u ≤ 10 := g.2.1.2
  have n0m := zMo_hm1 hM (k := 0) (by decide) zMo_h1
  have n3m := zMo_hm1 hM (k := 3) (by decide) zMo_h1
  have n2m := zMo_hm1 hM (k := 2) (by decide) zMo_h1
  refine zF_aload_n 1 dX12_saveSnapshot_0 rfl rfl ?_
  refine zF_iconst 2 dX12_saveSnapshot_1 rfl ?_
  refine zF_putI 5 dX12_saveSnapshot_2 rfl pX12_saveSnapshot_89 (Or.inl rfl) hM.1 hM.2.1 ?_
  refine zF_aload_n 6 dX12_saveSnapshot_5 rfl rfl ?_
  refine zF_getR 9 dX12_saveSnapshot_6 rfl gX12_9 hM.1 hM.2.1 (zM_0 hM).1 ?_
  refine zF_iconst 10 dX12_saveSnapshot_9 rfl ?_
  refine zF_aload_n 11 dX12_saveSnapshot_10 rfl rfl ?_
  refine zF_getR 14 dX12_saveSnapshot_11 rfl gX12_16 hM.1 hM.2.1 (zM_2 hM).1 ?_
  refine zF_iconst 15 dX12_saveSnapshot_14 rfl ?_
  refine zF_callS 18 (d2 := (d + 5)) (as := [zR (A 0), zI 0, zR (A 2), zI 0]) dX12_saveSnapshot_15 rfl kX12_331 sX12_copy (Nat.le_refl _) rfl rfl (Nat.le_of_ble_eq_true rfl) (zE.mono (zt_X12_copy (σ := (zsi σ hm ((5 : Nat) : Int) 0)) (zM_0 hM).2.2 (zM_0 hM).2.1 (zM_2 hM).2.2 (zM_2 hM).2.1 (by omega) (by omega) (by omega) (by omega) (fun q => absurd q (zMo_ne hM (j := 0) (k := 2) (by decide) (by decide) (by decide)))) fun ro σa1 hh1 => ?_)
  obtain ⟨er1, fr1, p1⟩ := hh1
  subst er1
  refine ⟨fr1.1, ?_⟩
  show zF G mX12_saveSnapshot (d + 6) 18 [(0, zR hm)] [] σa1 _
  have hMa1 := zMo_f2 fr1 hM
  have hNa1 : zia σa1 (A 0) = N := (fr1.at fun j q => zMo_ne hM (j := 0) (k := 2) (by decide) (by decide) (by decide) q.1).trans (zMo_hN (k := 0) hN hM (by decide) zMo_h1)
  have hha1 := mHr_fr (mHr_si hh n3m) fr1 (fun _ q => zMo_ne hM (j := 3) (k := 2) (by decide) (by decide) (by decide) q.1)
  have hsn : snap σa1 A = N := snap_cp (zMo_hN (k := 0) hN hM (by decide) zMo_h1) hQ.z p1
  refine zF_aload_n 19 dX12_saveSnapshot_18 rfl rfl ?_
  refine zF_iconst 20 dX12_saveSnapshot_19 rfl ?_
  refine zF_putI 23 dX12_saveSnapshot_20 rfl pX12_saveSnapshot_335 (Or.inr ⟨rfl, Or.inr rfl⟩) hMa1.1 hMa1.2.1 ?_
  exact zF_return dX12_saveSnapshot_23 rfl (⟨rfl, zFr_si (Or.inl ⟨rfl, Or.inr rfl⟩) ((zFr_si (Or.inl ⟨rfl, Or.inl rfl⟩) zFr.rf).tr (fr1.wk fun _ _ q => Or.inr q.1)), ⟨(zMo_hN (k := 0) hNa1 hMa1 (by decide) zMo_h1), (zsi_F (by decide) (zFr_F fr1 (fun q => n2m q.1.symm) (zsi_F (by decide) hu))), (mHr_si hha1 n3m)⟩, (snap_si (v := 1) (j := 6) n2m).trans hsn, zsi_same _ _ _ _⟩)
theorem zt_X12_restoreSnapshot {H : Int → Int → Int} {u T : Int} {Sn : Int → Int} {b : Int} (hM : zMo σ hm A) (hS : mST (N, H, u) σ hm A) (g : gS T (N, H, u)) (hb6 : zia σ hm ((6 : Nat) : Int) = b) (b01 : b = 0 ∨ b = 1) (hs : ¬ b = 0 → snap σ A = Sn) : zE G mX12_restoreSnapshot (d + 6) [zR hm] σ (mopM 0 b (N, H, u) (if b = 0 then (N, H, u) else (Sn, H, 0)) hm A σ) := by
  refine zE_of rfl (by simp [zcat]) (Nat.le_of_ble_eq_true rfl) ?_
  show zF G mX12_restoreSnapshot (d + 6) 0 [(0, zR hm)] [] σ _
  obtain ⟨hN, hu, hh⟩ := hS
  have hN : zia σ (A 0) = N := hN
  have hu : zia σ hm ((4 : Nat) : Int) = u := hu
  have hh : mHr H u σ A := hh
  have gn : gN T N := g.n
  have hV := gn.v
  have hW := gn.w
  have hX := gn.x
  have hQ := gn.q
  have hb := hV.b
  have hn := hV.n
  have u0 : 0 ≤ u := g.2.1.1
  have u1 : u ≤ 10 := g.2.1.2
  have n0m := zMo_hm1 hM (k := 0) (by decide) zMo_h1
  have n3m := zMo_hm1 hM (k := 3) (by decide) zMo_h1
  have n2m := zMo_hm1 hM (k := 2) (by decide) zMo_h1
  refine zF_aload_n 1 dX12_restoreSnapshot_0 rfl rfl ?_
  refine zF_iconst 2 dX12_restoreSnapshot_1 rfl ?_
  refine zF_putI 5 dX12_restoreSnapshot_2 rfl pX12_restoreSnapshot_89 (Or.inl rfl) hM.1 hM.2.1 ?_
  refine zF_aload_n 6 dX12_restoreSnapshot_5 rfl rfl ?_
  refine zF_getI 9 dX12_restoreSnapshot_6 rfl gX12_335 (by decide) (by decide) hM.1 hM.2.1 (zsi_F (by decide) hb6) ?_
  refine zF_if_ne 14 12 dX12_restoreSnapshot_9 rfl rfl (by first | decide | assumption | (constructor <;> omega)) (fun c1 => ?_) (fun c1 => ?_)
  · refine zF_aload_n 15 dX12_restoreSnapshot_14 rfl rfl ?_
    refine zF_getR 18 dX12_restoreSnapshot_15 rfl gX12_16 hM.1 hM.2.1 (zM_2 hM).1 ?_
    refine zF_iconst 19 dX12_restoreSnapshot_18 rfl ?_
    refine zF_aload_n 20 dX12_restoreSnapshot_19 rfl rfl ?_
    refine zF_getR 23 dX12_restoreSnapshot_20 rfl gX12_9 hM.1 hM.2.1 (zM_0 hM).1 ?_
    refine zF_iconst 24 dX12_restoreSnapshot_23 rfl ?_
    refine zF_callS 27 (d2 := (d + 5)) (as := [zR (A 2), zI 0, zR (A 0), zI 0]) dX12_restoreSnapshot_24 rfl kX12_331 sX12_copy (Nat.le_refl _) rfl rfl (Nat.le_of_ble_eq_true rfl) (zE.mono (zt_X12_copy (σ := (zsi σ hm ((5 : Nat) : Int) 0)) (zM_2 hM).2.2 (zM_2 hM).2.1 (zM_0 hM).2.2 (zM_0 hM).2.1 (by omega) (by omega) (by omega) (by omega) (fun q => absurd q (zMo_ne hM (j := 2) (k := 0) (by decide) (by decide) (by decide)))) fun ro σa1 hh1 => ?_)
    obtain ⟨er1, fr1, p1⟩ := hh1
    subst er1
    refine ⟨fr1.1, ?_⟩
    show zF G mX12_restoreSnapshot (d + 6) 27 [(0, zR hm)] [] σa1 _
    have hMa1 := zMo_f2 fr1 hM
    have hNa1 : zia σa1 (A 0) = Sn := cp_row (zMo_hN (k := 0) hN hM (by decide) zMo_h1) hQ.z fr1 p1 (snap_r ((snap_si (v := 0) (j := ((5 : Nat) : Int)) n2m).trans (hs (by assumption))))
    have hha1 := mHr_fr (mHr_si hh n3m) fr1 (fun _ q => zMo_ne hM (j := 3) (k := 0) (by decide) (by decide) (by decide) q.1)
    refine zF_aload_n 28 dX12_restoreSnapshot_27 rfl rfl ?_
    refine zF_iconst 29 dX12_restoreSnapshot_28 rfl ?_
    refine zF_putI 32 dX12_restoreSnapshot_29 rfl pX12_restoreSnapshot_328 (Or.inl rfl) hMa1.1 hMa1.2.1 ?_
    refine zF_iconst 33 dX12_restoreSnapshot_32 rfl ?_
    exact zF_zreturn dX12_restoreSnapshot_33 rfl (by decide) (mopMR (mMi_mu (mMi_hm (by decide) zFr.rf) |> (zFr.tr ((mMu5 zFr.rf).tr (mMi_mu (mMi_cp (t := 0) (by decide) zFr.rf fr1))))) (zsi_F (by decide) (zFr_F fr1 (fun q => n0m q.1.symm) (zsi_same _ _ _ _))) rfl (by omega) (S1 := (Sn, H, 0)) (if_neg (by assumption)) ⟨(zMo_hN (k := 0) hNa1 hMa1 (by decide) zMo_h1), (zsi_same _ _ _ _), fun k k0 k1 => by have k2 : k < 0 := k1; omega⟩)
  · refine zF_iconst 13 dX12_restoreSnapshot_12 rfl ?_
    exact zF_zreturn dX12_restoreSnapshot_13 rfl (by decide) (mopMR (mMu5 zFr.rf) (zsi_same _ _ _ _) rfl (by omega) (S1 := (N, H, u)) (if_pos (by omega)) ⟨(zMo_hN (k := 0) hN hM (by decide) zMo_h1), (zsi_F (by decide) hu), (mHr_si hh n3m)⟩)
theorem zt_X12_undoCount {H : Int → Int → Int} {u T : Int} (hM : zMo σ hm A) (hS : mST (N, H, u) σ hm A) (g : gS T (N, H, u)) : zE G mX12_undoCount (d + 6) [zR hm] σ (fun ro σ1 => ro = .inl (some (zI u)) ∧ σ1 = zsi σ hm ((5 : Nat) : Int) 0) := by
  refine zE_of rfl (by simp [zcat]) (Nat.le_of_ble_eq_true rfl) ?_
  show zF G mX12_undoCount (d + 6) 0 [(0, zR hm)] [] σ _
  obtain ⟨hN, hu, hh⟩ := hS
  have hN : zia σ (A 0) = N := hN
  have hu : zia σ hm ((4 : Nat) : Int) = u := hu
  have hh : mHr H u σ A := hh
  have gn : gN T N := g.n
  have hV := gn.v
  have hW := gn.w
  have hX := gn.x
  have hQ := gn.q
  have hb := hV.b
  have hn := hV.n
  have u0 : 0 ≤ u := g.2.1.1
  have u1 : u ≤ 10 := g.2.1.2
  have n0m := zMo_hm1 hM (k := 0) (by decide) zMo_h1
  have n3m := zMo_hm1 hM (k := 3) (by decide) zMo_h1
  refine zF_aload_n 1 dX12_undoCount_0 rfl rfl ?_
  refine zF_iconst 2 dX12_undoCount_1 rfl ?_
  refine zF_putI 5 dX12_undoCount_2 rfl pX12_undoCount_89 (Or.inl rfl) hM.1 hM.2.1 ?_
  refine zF_aload_n 6 dX12_undoCount_5 rfl rfl ?_
  refine zF_getI 9 dX12_undoCount_6 rfl gX12_328 (by decide) (by decide) hM.1 hM.2.1 (zsi_F (by decide) hu) ?_
  exact zF_ireturn dX12_undoCount_9 rfl (⟨rfl, rfl⟩)
theorem zt_X12_thrown {v : Int} (hM : zMo σ hm A) (hv : zia σ hm ((5 : Nat) : Int) = v) : zP1 G mX12_thrown d [zR hm] σ v := by
  refine zE_of rfl (by simp [zcat]) (Nat.le_of_ble_eq_true rfl) ?_
  show zF G mX12_thrown d 0 [(0, zR hm)] [] σ _
  refine zF_aload_n 1 dX12_thrown_0 rfl rfl ?_
  refine zF_getI 4 dX12_thrown_1 rfl gX12_89 (by decide) (by decide) hM.1 hM.2.1 hv ?_
  exact zF_iretP dX12_thrown_4 rfl (rfl)
end ZQ3

/-! the class: undo and snapshot -/
section ZC9
variable {G : zG} {d : Nat} {σ : zMem} {B : Nat → Nat}
theorem cHr_n {H : Int → Int → Int} {u nx : Int} (h : cHr H u nx σ B) : 0 ≤ u ∧ u ≤ 10 := ⟨h.2.2.1.2.2.1, h.2.2.1.2.2.2⟩
theorem cHr_k {H : Int → Int → Int} {u nx v : Int} (hj : ∀ i j, B i = B j → i = j) (hr : cHr H u nx σ B) (h0 : 0 ≤ v) (h1 : v ≤ u) (hv : v = 0 ∨ v = u) : cHr H v nx (zsi σ (B 600) ((2 : Nat) : Int) v) B := by
  obtain ⟨r1, r2, r3, r4⟩ := hr
  refine ⟨zsi_F (by decide) r1, zsi_same _ _ _ _, by omega, fun k k0 k1 => ?_⟩
  have e : v = u := by omega
  subst e
  have := slb_r (i := (nx + 10 - v + k) % 10) (by omega) (by omega)
  exact cRs_si (fun i hi e => by have := hj _ _ e; omega) (r4 k k0 k1)
theorem cHr_4 {H : Int → Int → Int} {u nx v : Int} (hj : ∀ i j, B i = B j → i = j) (hr : cHr H u nx σ B) : cHr H u nx (zsi σ (B 600) ((4 : Nat) : Int) v) B := by
  obtain ⟨r1, r2, r3, r4⟩ := hr
  refine ⟨zsi_F (by decide) r1, zsi_F (by decide) r2, r3, fun k k0 k1 => ?_⟩
  have := slb_r (i := (nx + 10 - u + k) % 10) (by omega) (by omega)
  exact cRs_si (fun i hi e => by have := hj _ _ e; omega) (r4 k k0 k1)
theorem cR_si {N : Int → Int} {h : Nat} {j v : Int} (hi : ∀ i, i ≤ 302 → B i ≠ h) (k : cR N σ B) : cR N (zsi σ h j v) B := cR_congr (fun i hi2 => zsi_at (hi i hi2) rfl) k
theorem zt_X11_undo {N : Int → Int} {H : Int → Int → Int} {u T : Int} (hG : zGd G) (hO : cO σ B) (hH : cHs σ B) (hc : cST (N, H, u) σ B) (g : gS T (N, H, u)) : zE G mX11_undo (d + 7) [zR (B 0)] σ (copM 0 (oUnV (N, H, u)) (oUnS (N, H, u)) B σ) := by
  refine zE_of rfl (by simp [zcat]) (Nat.le_of_ble_eq_true rfl) ?_
  show zF G mX11_undo (d + 7) 0 [(0, zR (B 0))] [] σ _
  have hB := hO.1
  have gn : gN T N := g.n
  obtain ⟨hR, nx, hr⟩ := hc
  have hR : cR N σ B := hR
  have hr : cHr H u nx σ B := hr
  have hV : mV N := g.n.v
  have hW : mW N := g.n.w
  have hX : mX N := g.n.x
  have hQ : mQ N := g.n.q
  have hb := hV.b
  have hn := hV.n
  have hu := cHr_n hr
  refine zF_aload_n 1 dX11_undo_0 rfl rfl ?_
  refine zF_getR 4 dX11_undo_1 rfl gX11_66 hO.2.1 hO.2.2.1 hO.2.2.2.2.2.2.2.2.2.2.1 ?_
  refine zF_getI 7 dX11_undo_4 rfl gX11_384 (by decide) (by decide) hH.1 hH.2.1 hr.2.1 ?_
  refine zF_if_ne 12 10 dX11_undo_7 rfl rfl (by first | decide | assumption | exact hb _ | exact mSh_rg hb _ _ | exact zb_rg _ | (constructor <;> omega)) (fun c1 => ?_) (fun c1 => ?_)
  · have gu : gN T (H (u - 1)) ∧ cE N (H (u - 1)) := g.2.2 (u - 1) (by show 0 ≤ u - 1; omega) (by show u - 1 < u; omega)
    refine zF_aload_n 13 dX11_undo_12 rfl rfl ?_
    refine zF_getR 16 dX11_undo_13 rfl gX11_66 hO.2.1 hO.2.2.1 hO.2.2.2.2.2.2.2.2.2.2.1 ?_
    refine zF_aload_n 17 dX11_undo_16 rfl rfl ?_
    refine zF_getR 20 dX11_undo_17 rfl gX11_34 hO.2.1 hO.2.2.1 hO.2.2.2.2.2.2.1 ?_
    refine zF_callV 23 (d2 := (d + 6)) (as := [zR (B 200)]) dX11_undo_20 rfl kX11_387 iX4_takeBack (ci := 4) rfl eX4_takeBack (Nat.le_refl _) hH.1 hH.2.1 rfl rfl (Nat.le_of_ble_eq_true rfl) (zE.mono (zt_X4_takeBack hB hH hr (by omega) gu.1.v) fun ro σa1 hh1 => ?_)
    obtain ⟨er1, fr1, p1⟩ := hh1
    subst er1
    refine ⟨fr1.1, ?_⟩
    show zF G mX11_undo (d + 7) 23 [(0, zR (B 0))] [] σa1 _
    have hBr := cM_fr hB fr1
    have hHr := cHs_fr hH fr1
    have hOr := cO_fr hO fr1
    obtain ⟨frx, hsr, hrr⟩ := p1
    have frc : ∀ i, 100 ≤ i → i ≤ 112 → zia σa1 (B i) = zia σ (B i) := fun i h1 h2 => frx.at fun j q => q.elim (zRg.no hB.inj (by omega)) (zRg.no hB.inj (by omega))
    have hR0 : cR0 (H (u - 1)) σa1 B := ⟨cRc_cE hV gu.2 (cRc_congr (fun k hk => frc _ (by omega) (by omega)) hR.1), hsr⟩
    refine zF_aload_n 24 dX11_undo_23 rfl rfl ?_
    refine zF_getR 27 dX11_undo_24 rfl gX11_43 hOr.2.1 hOr.2.2.1 hOr.2.2.2.2.2.2.2.1 ?_
    refine zF_callV 30 (d2 := (d + 6)) (as := []) dX11_undo_27 rfl kX11_136 iX10_refresh (ci := 10) rfl eX10_refresh (Nat.le_refl _) hBr.wk.1 hBr.wk.2.1 rfl rfl (Nat.le_of_ble_eq_true rfl) (zE.mono (zt_X10_refresh (σ := σa1) (N := (H (u - 1))) hBr hR0 gu.1.v gu.1.x gu.1.w) fun ro σa2 hh2 => ?_)
    obtain ⟨er2, fr2, p2⟩ := hh2
    subst er2
    refine ⟨fr2.1, ?_⟩
    show zF G mX11_undo (d + 7) 30 [(0, zR (B 0))] [] σa2 _
    have hBf := cM_fr (σ := σa1) hBr fr2
    have hRf := p2
    have hOf := cO_fr (σ := σa1) hOr fr2
    have hHf := cHs_fr (σ := σa1) hHr fr2
    have hrf := cHr_rg hB.inj fr2 (by omega) hrr
    refine zF_aload_n 31 dX11_undo_30 rfl rfl ?_
    refine zF_getR 34 dX11_undo_31 rfl gX11_66 hOf.2.1 hOf.2.2.1 hOf.2.2.2.2.2.2.2.2.2.2.1 ?_
    refine zF_getI 37 dX11_undo_34 rfl gX11_384 (by decide) (by decide) hHf.1 hHf.2.1 hrf.2.1 ?_
    exact zF_ireturn dX11_undo_37 rfl (copMR (fr1.tr (zRg_mu hB.inj fr2 (by omega))) rfl (if_neg (by assumption)).symm (S' := (H (u - 1), H, u - 1)) (if_neg (by assumption)) ⟨hRf, _, hrf⟩)
  · refine zF_iconst 11 dX11_undo_10 rfl ?_
    exact zF_ireturn dX11_undo_11 rfl (copMR zFr.rf rfl (if_pos (show u = 0 by omega)).symm (S' := (N, H, u)) (if_pos (show u = 0 by omega)) ⟨hR, nx, hr⟩)
theorem zt_X11_saveSnapshot {N : Int → Int} {H : Int → Int → Int} {u T : Int} (hG : zGd G) (hO : cO σ B) (hH : cHs σ B) (hc : cST (N, H, u) σ B) (g : gS T (N, H, u)) : zE G mX11_saveSnapshot (d + 7) [zR (B 0)] σ (fun ro σ1 => ro = .inl none ∧ zFr (fun h j => (h = B 600 ∧ j = 4) ∨ zRg 2000 2016 B h j) σ σ1 ∧ cST (N, H, u) σ1 B ∧ cRs N σ1 B 2000 ∧ zia σ1 (B 600) ((4 : Nat) : Int) = 1) := by
  refine zE_of rfl (by simp [zcat]) (Nat.le_of_ble_eq_true rfl) ?_
  show zF G mX11_saveSnapshot (d + 7) 0 [(0, zR (B 0))] [] σ _
  have hB := hO.1
  have gn : gN T N := g.n
  obtain ⟨hR, nx, hr⟩ := hc
  have hR : cR N σ B := hR
  have hr : cHr H u nx σ B := hr
  have hV : mV N := g.n.v
  have hW : mW N := g.n.w
  have hX : mX N := g.n.x
  have hQ : mQ N := g.n.q
  have hb := hV.b
  have hn := hV.n
  refine zF_aload_n 1 dX11_saveSnapshot_0 rfl rfl ?_
  refine zF_getR 4 dX11_saveSnapshot_1 rfl gX11_66 hO.2.1 hO.2.2.1 hO.2.2.2.2.2.2.2.2.2.2.1 ?_
  refine zF_getR 7 dX11_saveSnapshot_4 rfl gX11_390 hH.1 hH.2.1 hH.2.2.2.1 ?_
  refine zF_aload_n 8 dX11_saveSnapshot_7 rfl rfl ?_
  refine zF_getR 11 dX11_saveSnapshot_8 rfl gX11_34 hO.2.1 hO.2.2.1 hO.2.2.2.2.2.2.1 ?_
  refine zF_callV 14 (d2 := (d + 6)) (as := [zR (B 200)]) dX11_saveSnapshot_11 rfl kX11_130 iX8_copyFrom (ci := 8) rfl eX8_copyFrom (Nat.le_refl _) hH.2.2.2.2.2.2.2.1 hH.2.2.2.2.2.2.2.2.1 rfl rfl (Nat.le_of_ble_eq_true rfl) (zE.mono (zcp3 (zt_X8_copyFrom (b := 2000) (b' := 200) hB.inj (by omega) hH.2.2.2.2.2.2.2 hB.st)) fun ro σa1 hh1 => ?_)
  obtain ⟨er1, fr1, p1⟩ := hh1
  subst er1
  refine ⟨fr1.1, ?_⟩
  show zF G mX11_saveSnapshot (d + 7) 14 [(0, zR (B 0))] [] σa1 _
  have hBr := cM_fr hB fr1
  have hHr := cHs_fr hH fr1
  have hOr := cO_fr hO fr1
  refine zF_aload_n 15 dX11_saveSnapshot_14 rfl rfl ?_
  refine zF_getR 18 dX11_saveSnapshot_15 rfl gX11_66 hOr.2.1 hOr.2.2.1 hOr.2.2.2.2.2.2.2.2.2.2.1 ?_
  refine zF_iconst 19 dX11_saveSnapshot_18 rfl ?_
  refine zF_putI 22 dX11_saveSnapshot_19 rfl pX11_saveSnapshot_393 (Or.inr ⟨rfl, by decide⟩) hHr.1 hHr.2.1 ?_
  exact zF_return dX11_saveSnapshot_22 rfl (⟨rfl, zFr_si (Or.inl ⟨rfl, rfl⟩) ((zBk_rg (lo := 2000) (hi := 2016) (by omega) fr1).wk fun _ _ q => Or.inr q), ⟨cR_si (fun i hi e => by have := hB.inj _ _ e; omega) (cR_rg hB (zBk_rg (lo := 2000) (hi := 2016) (by omega) fr1) (by omega) hR), nx, cHr_4 hB.inj (cHr_rg hB.inj (zBk_rg (lo := 2000) (hi := 2016) (by omega) fr1) (by omega) hr)⟩, cRs_si (fun i hi e => by have := hB.inj _ _ e; omega) (cRs_cp hV p1 hR.2.1), zsi_same _ _ _ _⟩)
theorem zt_X11_restoreSnapshot {N : Int → Int} {H : Int → Int → Int} {u T : Int} {Sn : Int → Int} {b : Int} (hG : zGd G) (hO : cO σ B) (hH : cHs σ B) (hc : cST (N, H, u) σ B) (g : gS T (N, H, u)) (hb4 : zia σ (B 600) ((4 : Nat) : Int) = b) (b01 : b = 0 ∨ b = 1) (gsR : ¬ b = 0 → cRs Sn σ B 2000) (gs : gN T Sn ∧ cE N Sn) : zE G mX11_restoreSnapshot (d + 7) [zR (B 0)] σ (copM 0 b (if b = 0 then (N, H, u) else (Sn, H, 0)) B σ) := by
  refine zE_of rfl (by simp [zcat]) (Nat.le_of_ble_eq_true rfl) ?_
  show zF G mX11_restoreSnapshot (d + 7) 0 [(0, zR (B 0))] [] σ _
  have hB := hO.1
  have gn : gN T N := g.n
  obtain ⟨hR, nx, hr⟩ := hc
  have hR : cR N σ B := hR
  have hr : cHr H u nx σ B := hr
  have hV : mV N := g.n.v
  have hW : mW N := g.n.w
  have hX : mX N := g.n.x
  have hQ : mQ N := g.n.q
  have hb := hV.b
  have hn := hV.n
  have hu := cHr_n hr
  refine zF_aload_n 1 dX11_restoreSnapshot_0 rfl rfl ?_
  refine zF_getR 4 dX11_restoreSnapshot_1 rfl gX11_66 hO.2.1 hO.2.2.1 hO.2.2.2.2.2.2.2.2.2.2.1 ?_
  refine zF_getI 7 dX11_restoreSnapshot_4 rfl gX11_393 (by decide) (by decide) hH.1 hH.2.1 hb4 ?_
  refine zF_if_ne 12 10 dX11_restoreSnapshot_7 rfl rfl (by first | decide | assumption | (constructor <;> omega)) (fun c1 => ?_) (fun c1 => ?_)
  · refine zF_aload_n 13 dX11_restoreSnapshot_12 rfl rfl ?_
    refine zF_getR 16 dX11_restoreSnapshot_13 rfl gX11_34 hO.2.1 hO.2.2.1 hO.2.2.2.2.2.2.1 ?_
    refine zF_aload_n 17 dX11_restoreSnapshot_16 rfl rfl ?_
    refine zF_getR 20 dX11_restoreSnapshot_17 rfl gX11_66 hO.2.1 hO.2.2.1 hO.2.2.2.2.2.2.2.2.2.2.1 ?_
    refine zF_getR 23 dX11_restoreSnapshot_20 rfl gX11_390 hH.1 hH.2.1 hH.2.2.2.1 ?_
    refine zF_callV 26 (d2 := (d + 6)) (as := [zR (B 2000)]) dX11_restoreSnapshot_23 rfl kX11_130 iX8_copyFrom (ci := 8) rfl eX8_copyFrom (Nat.le_refl _) hB.st.1 hB.st.2.1 rfl rfl (Nat.le_of_ble_eq_true rfl) (zE.mono (zcp3 (zt_X8_copyFrom (b := 200) (b' := 2000) hB.inj (by omega) hB.st hH.2.2.2.2.2.2.2)) fun ro σa1 hh1 => ?_)
    obtain ⟨er1, fr1, p1⟩ := hh1
    subst er1
    refine ⟨fr1.1, ?_⟩
    show zF G mX11_restoreSnapshot (d + 7) 26 [(0, zR (B 0))] [] σa1 _
    have hBr := cM_fr hB fr1
    have hHr := cHs_fr hH fr1
    have hOr := cO_fr hO fr1
    have frc := zBk_rg (lo := 200) (hi := 216) (by omega) fr1
    refine zF_aload_n 27 dX11_restoreSnapshot_26 rfl rfl ?_
    refine zF_getR 30 dX11_restoreSnapshot_27 rfl gX11_66 hOr.2.1 hOr.2.2.1 hOr.2.2.2.2.2.2.2.2.2.2.1 ?_
    refine zF_iconst 31 dX11_restoreSnapshot_30 rfl ?_
    refine zF_putI 34 dX11_restoreSnapshot_31 rfl pX11_restoreSnapshot_384 (Or.inl rfl) hHr.1 hHr.2.1 ?_
    have hR0 : cR0 Sn (zsi σa1 (B 600) ((2 : Nat) : Int) 0) B := ⟨cRc_cE hV gs.2 (cRc_congr (fun k hk => zsi_at (fun e => by have := hB.inj _ _ e; omega) (frc.rg hB.inj (by omega))) hR.1), cRs_si (fun i hi e => by have := hB.inj _ _ e; omega) (cRs_cp gs.1.v p1 (gsR (by assumption)))⟩
    have hrr := cHr_k hB.inj (cHr_rg hB.inj frc (by omega) hr) (v := 0) (by omega) (by omega) (Or.inl rfl)
    refine zF_aload_n 35 dX11_restoreSnapshot_34 rfl rfl ?_
    refine zF_getR 38 dX11_restoreSnapshot_35 rfl gX11_43 hOr.2.1 hOr.2.2.1 hOr.2.2.2.2.2.2.2.1 ?_
    refine zF_callV 41 (d2 := (d + 6)) (as := []) dX11_restoreSnapshot_38 rfl kX11_136 iX10_refresh (ci := 10) rfl eX10_refresh (Nat.le_refl _) hBr.wk.1 hBr.wk.2.1 rfl rfl (Nat.le_of_ble_eq_true rfl) (zE.mono (zt_X10_refresh (σ := (zsi σa1 (B 600) ((2 : Nat) : Int) 0)) (N := Sn) hBr hR0 gs.1.v gs.1.x gs.1.w) fun ro σa2 hh2 => ?_)
    obtain ⟨er2, fr2, p2⟩ := hh2
    subst er2
    refine ⟨fr2.1, ?_⟩
    show zF G mX11_restoreSnapshot (d + 7) 41 [(0, zR (B 0))] [] σa2 _
    have hRf := p2
    refine zF_iconst 42 dX11_restoreSnapshot_41 rfl ?_
    exact zF_zreturn dX11_restoreSnapshot_42 rfl (by decide) (copMR ((zRg_mu hB.inj frc (by omega)).tr ((zFr_si (Or.inr (Or.inl ⟨rfl, Or.inr rfl⟩)) zFr.rf).tr (zRg_mu hB.inj fr2 (by omega)))) rfl (by omega) (S' := (Sn, H, 0)) (if_neg (by assumption)) ⟨hRf, nx, cHr_rg hB.inj fr2 (by omega) hrr⟩)
  · refine zF_iconst 11 dX11_restoreSnapshot_10 rfl ?_
    exact zF_zreturn dX11_restoreSnapshot_11 rfl (by decide) (copMR zFr.rf rfl (by omega) (S' := (N, H, u)) (if_pos (by omega)) ⟨hR, nx, hr⟩)
theorem zt_X11_undoCount {N : Int → Int} {H : Int → Int → Int} {u T : Int} (hG : zGd G) (hO : cO σ B) (hH : cHs σ B) (hc : cST (N, H, u) σ B) (g : gS T (N, H, u)) : zE G mX11_undoCount (d + 7) [zR (B 0)] σ (zop 0 u σ) := by
  refine zE_of rfl (by simp [zcat]) (Nat.le_of_ble_eq_true rfl) ?_
  show zF G mX11_undoCount (d + 7) 0 [(0, zR (B 0))] [] σ _
  have hB := hO.1
  have gn : gN T N := g.n
  obtain ⟨hR, nx, hr⟩ := hc
  have hR : cR N σ B := hR
  have hr : cHr H u nx σ B := hr
  have hV : mV N := g.n.v
  have hW : mW N := g.n.w
  have hX : mX N := g.n.x
  have hQ : mQ N := g.n.q
  have hb := hV.b
  have hn := hV.n
  refine zF_aload_n 1 dX11_undoCount_0 rfl rfl ?_
  refine zF_getR 4 dX11_undoCount_1 rfl gX11_66 hO.2.1 hO.2.2.1 hO.2.2.2.2.2.2.2.2.2.2.1 ?_
  refine zF_getI 7 dX11_undoCount_4 rfl gX11_384 (by decide) (by decide) hH.1 hH.2.1 hr.2.1 ?_
  exact zF_ireturn dX11_undoCount_7 rfl (zopR rfl rfl)
end ZC9

/-! the reference: means -/
section ZFM
variable {G : zG} {d : Nat} {σ : zMem} {hm : Nat} {A : Nat → Nat} {N gg : Int → Int}
theorem fill_s (hV : mV N) (hok : gOK N gg) : zsum (fun s => gG gg s 7) (nS N) = cVisN N (nS N) := by
  have hs := nS_eq hV
  exact zsum_congr fun i hi => gG_eq hok (by omega) (by omega)
theorem fill_r (n : Nat) : zsum (fun s => 7 * mCap N s) n = cRoomN N n := zsum_congr fun i _ => Int.mul_comm _ _
theorem zt_X12_meanTakings (hM : zMo σ hm A) (hN : zia σ (A 0) = N) (hV : mV N) : zE G mX12_meanTakings (d + 12) [zR hm] σ (fun ro σ1 => ro = .inl (some (zDb (oMean N))) ∧ σ1 = zsi σ hm ((5 : Nat) : Int) 0) := by
  refine zE_of rfl (by simp [zcat]) (Nat.le_of_ble_eq_true rfl) ?_
  show zF G mX12_meanTakings (d + 12) 0 [(0, zR hm)] [] σ _
  have hb := hV.b
  have hn := hV.n
  refine zF_aload_n 1 dX12_meanTakings_0 rfl rfl ?_
  refine zF_iconst 2 dX12_meanTakings_1 rfl ?_
  refine zF_putI 5 dX12_meanTakings_2 rfl pX12_meanTakings_89 (Or.inl rfl) hM.1 hM.2.1 ?_
  refine zF_aload_n 6 dX12_meanTakings_5 rfl rfl ?_
  refine zF_getR 9 dX12_meanTakings_6 rfl gX12_9 hM.1 hM.2.1 (zM_0 hM).1 ?_
  refine zF_iconst 10 dX12_meanTakings_9 rfl ?_
  refine zF_iaload 11 dX12_meanTakings_10 rfl (zM_0 hM).2.2 (zM_0 hM).2.1 (by omega) (by omega) (congrFun (zMo_hN (k := 0) hN hM (by decide) zMo_h1) _) ?_
  refine zF_if_ne 18 14 dX12_meanTakings_11 rfl rfl (by first | decide | assumption | exact hb _ | exact mSh_rg hb _ _ | exact zb_rg _ | (constructor <;> omega)) (fun c1 => ?_) (fun c1 => ?_)
  · refine zF_aload_n 19 dX12_meanTakings_18 rfl rfl ?_
    refine zF_getR 22 dX12_meanTakings_19 rfl gX12_9 hM.1 hM.2.1 (zM_0 hM).1 ?_
    refine zF_sipush 25 dX12_meanTakings_22 rfl (by decide) ?_
    refine zF_iaload 26 dX12_meanTakings_25 rfl (zM_0 hM).2.2 (zM_0 hM).2.1 (by omega) (by omega) (congrFun (zMo_hN (k := 0) hN hM (by decide) zMo_h1) _) ?_
    refine zF_i2d 27 dX12_meanTakings_26 rfl ?_
    refine zF_aload_n 28 dX12_meanTakings_27 rfl rfl ?_
    refine zF_getR 31 dX12_meanTakings_28 rfl gX12_9 hM.1 hM.2.1 (zM_0 hM).1 ?_
    refine zF_iconst 32 dX12_meanTakings_31 rfl ?_
    refine zF_iaload 33 dX12_meanTakings_32 rfl (zM_0 hM).2.2 (zM_0 hM).2.1 (by omega) (by omega) (congrFun (zMo_hN (k := 0) hN hM (by decide) zMo_h1) _) ?_
    refine zF_i2d 34 dX12_meanTakings_33 rfl ?_
    refine zF_ddiv 35 dX12_meanTakings_34 rfl (zi2d_D _) (zi2d_Z (by rw [zti (hb 3)]; omega)) ?_
    exact zF_dreturn dX12_meanTakings_35 rfl (⟨congrArg (fun z => Sum.inl (some (zDb z))) (if_neg (by omega)).symm, rfl⟩)
  · refine zF_dconst0 15 dX12_meanTakings_14 rfl ?_
    refine zF_goto 35 dX12_meanTakings_15 rfl ?_
    exact zF_dreturn dX12_meanTakings_35 rfl (⟨congrArg (fun z => Sum.inl (some (zDb z))) (if_pos (by omega)).symm, rfl⟩)
theorem zt_X12_filled (hM : zMo σ hm A) (hN : zia σ (A 0) = N) (hV : mV N) (hW : mW N) (hc : mCp N) : zE G mX12_filled (d + 12) [zR hm] σ (fun ro σ1 => ro = .inl (some (zFl (oFill N))) ∧ zFr (mSc hm A) σ σ1 ∧ zia σ1 hm ((5 : Nat) : Int) = 0) := by
  refine zE_of rfl (by simp [zcat]) (Nat.le_of_ble_eq_true rfl) ?_
  show zF G mX12_filled (d + 12) 0 [(0, zR hm)] [] σ _
  have hb := hV.b
  have hn := hV.n
  have hs := nS_eq hV
  have fb := fill_b hV hc
  have zr := fill_zr hV hc
  refine zF_aload_n 1 dX12_filled_0 rfl rfl ?_
  refine zF_iconst 2 dX12_filled_1 rfl ?_
  refine zF_putI 5 dX12_filled_2 rfl pX12_filled_89 (Or.inl rfl) hM.1 hM.2.1 ?_
  refine zF_aload_n 6 dX12_filled_5 rfl rfl ?_
  refine zF_callV 9 (d2 := (d + 11)) (as := []) dX12_filled_6 rfl kX12_244 iX12_layWeek (ci := 12) rfl eX12_layWeek (Nat.le_refl _) hM.1 hM.2.1 rfl rfl (Nat.le_of_ble_eq_true rfl) (zE.mono (zt_X12_layWeek hM (zMo_hN (k := 0) hN hM (by decide) zMo_h1) hV hW) fun ro σa1 hh1 => ?_)
  obtain ⟨er1, fr1, p1⟩ := hh1
  subst er1
  refine ⟨fr1.1, ?_⟩
  show zF G mX12_filled (d + 12) 9 [(0, zR hm)] [] σa1 _
  have hMa1 := zMo_f2 fr1 hM
  have hNa1 : zia σa1 (A 0) = N := zFr_N (σ := (zsi σ hm ((5 : Nat) : Int) 0)) hM (zMo_hN (k := 0) hN hM (by decide) zMo_h1) fr1
  have hga1 := gOK_V hV p1
  refine zF_iconst 10 dX12_filled_9 rfl ?_
  refine zF_istore_n 11 (ls' := [(1, zI 0), (0, zR hm)]) dX12_filled_10 rfl (by decide) rfl ?_
  refine zF_iconst 12 dX12_filled_11 rfl ?_
  refine zF_istore_n 13 (ls' := [(2, zI 0), (1, zI 0), (0, zR hm)]) dX12_filled_12 rfl (by decide) rfl ?_
  refine zF_iconst 14 dX12_filled_13 rfl ?_
  refine zF_istore_n 15 (ls' := [(3, zI 0), (2, zI 0), (1, zI 0), (0, zR hm)]) dX12_filled_14 rfl (by decide) rfl ?_
  refine zF_locs (ls' := (fun (i : Nat) => [(3, zI (i : Int)), (2, zI (zsum (fun s => 7 * mCap N s) i)), (1, zI (zsum (fun s => gG (zia σa1 (A 7)) s 7) i)), (0, zR hm)]) 0) ⟨zlI rfl (by first | rfl | omega | (push_cast; omega) | exact congrArg (_ + ·) (zbT (by assumption)) | exact congrArg (_ + ·) (zbF (by assumption)) | exact congrArg (_ + ·) (zbT (by omega)) | exact congrArg (_ + ·) (zbF (by omega)) | exact congrArg (_ + ·) (if_pos (by omega)).symm | exact congrArg (_ + ·) (if_neg (by omega)).symm | exact (if_pos (by omega)).symm | exact (if_neg (by omega)).symm | exact zsub_s (if_pos (by omega)).symm | exact zsub_s0 (if_neg (by omega)).symm | exact zadd0 (if_neg (by omega)).symm | exact zadd0 (zbF (by omega)) | exact (Int.sub_zero _).symm), zlI rfl (by first | rfl | omega | (push_cast; omega) | exact congrArg (_ + ·) (zbT (by assumption)) | exact congrArg (_ + ·) (zbF (by assumption)) | exact congrArg (_ + ·) (zbT (by omega)) | exact congrArg (_ + ·) (zbF (by omega)) | exact congrArg (_ + ·) (if_pos (by omega)).symm | exact congrArg (_ + ·) (if_neg (by omega)).symm | exact (if_pos (by omega)).symm | exact (if_neg (by omega)).symm | exact zsub_s (if_pos (by omega)).symm | exact zsub_s0 (if_neg (by omega)).symm | exact zadd0 (if_neg (by omega)).symm | exact zadd0 (zbF (by omega)) | exact (Int.sub_zero _).symm), zlI rfl (by first | rfl | omega | (push_cast; omega) | exact congrArg (_ + ·) (zbT (by assumption)) | exact congrArg (_ + ·) (zbF (by assumption)) | exact congrArg (_ + ·) (zbT (by omega)) | exact congrArg (_ + ·) (zbF (by omega)) | exact congrArg (_ + ·) (if_pos (by omega)).symm | exact congrArg (_ + ·) (if_neg (by omega)).symm | exact (if_pos (by omega)).symm | exact (if_neg (by omega)).symm | exact zsub_s (if_pos (by omega)).symm | exact zsub_s0 (if_neg (by omega)).symm | exact zadd0 (if_neg (by omega)).symm | exact zadd0 (zbF (by omega)) | exact (Int.sub_zero _).symm), rfl, trivial⟩ ?_
  refine zF_loop (n := (nS N)) (fun (i : Nat) => [(3, zI (i : Int)), (2, zI (zsum (fun s => 7 * mCap N s) i)), (1, zI (zsum (fun s => gG (zia σa1 (A 7)) s 7) i)), (0, zR hm)]) (fun _ => σa1) (fun i hi ih15 => ?_) ?_
  · show zF G mX12_filled (d + 12) 15 [(3, zI (i : Int)), (2, zI (zsum (fun s => 7 * mCap N s) i)), (1, zI (zsum (fun s => gG (zia σa1 (A 7)) s 7) i)), (0, zR hm)] [] σa1 _
    refine zF_iload_n 16 dX12_filled_15 rfl rfl ?_
    refine zF_aload_n 17 dX12_filled_16 rfl rfl ?_
    refine zF_callVi 20 (d2 := (d + 11)) (as := []) dX12_filled_17 rfl kX12_113 iX12_screens (ci := 12) rfl eX12_screens (Nat.le_refl _) hMa1.1 hMa1.2.1 rfl rfl (Nat.le_of_ble_eq_true rfl) (zn_X12_screens hMa1 hNa1) ?_
    refine zF_icmp_ge 48 23 dX12_filled_20 rfl rfl (by first | decide | assumption | exact hb _ | exact mSh_rg hb _ _ | exact zb_rg _ | (constructor <;> omega)) (by first | decide | assumption | exact hb _ | exact mSh_rg hb _ _ | exact zb_rg _ | (constructor <;> omega)) (fun c1 => ?_) (fun c1 => ?_)
    · exact absurd c1 (by omega)
    · refine zF_iload_n 24 dX12_filled_23 rfl rfl ?_
      refine zF_aload_n 25 dX12_filled_24 rfl rfl ?_
      refine zF_iload_n 26 dX12_filled_25 rfl rfl ?_
      refine zF_callVi 29 (d2 := (d + 11)) (as := [zI (i : Int)]) dX12_filled_26 rfl kX12_171 iX12_guestsOf (ci := 12) rfl eX12_guestsOf (Nat.le_refl _) hMa1.1 hMa1.2.1 rfl rfl (Nat.le_of_ble_eq_true rfl) (zn_X12_guestsOf hMa1 hNa1 rfl (by omega) (by omega)) ?_
      refine zF_iadd 30 dX12_filled_29 rfl ?_
      refine zF_istore_n 31 (ls' := [(1, zI ((zsum (fun s => gG (zia σa1 (A 7)) s 7) i) + (gG (zia σa1 (A 7)) (i : Int) 7))), (3, zI (i : Int)), (2, zI (zsum (fun s => 7 * mCap N s) i)), (0, zR hm)]) dX12_filled_30 rfl (by decide) rfl ?_
      refine zF_iload_n 32 dX12_filled_31 rfl rfl ?_
      refine zF_bipush 34 dX12_filled_32 rfl (by decide) ?_
      refine zF_aload_n 35 dX12_filled_34 rfl rfl ?_
      refine zF_iload_n 36 dX12_filled_35 rfl rfl ?_
      refine zF_callVi 39 (d2 := (d + 11)) (as := [zI (i : Int)]) dX12_filled_36 rfl kX12_155 iX12_capacityOf (ci := 12) rfl eX12_capacityOf (Nat.le_refl _) hMa1.1 hMa1.2.1 rfl rfl (Nat.le_of_ble_eq_true rfl) (zn_X12_capacityOf hMa1 hNa1 (by omega) (by omega)) ?_
      refine zF_imul 40 dX12_filled_39 rfl ?_
      refine zF_iadd 41 dX12_filled_40 rfl ?_
      refine zF_istore_n 42 (ls' := [(2, zI ((zsum (fun s => 7 * mCap N s) i) + (7 * (mCap N (i : Int))))), (1, zI ((zsum (fun s => gG (zia σa1 (A 7)) s 7) i) + (gG (zia σa1 (A 7)) (i : Int) 7))), (3, zI (i : Int)), (0, zR hm)]) dX12_filled_41 rfl (by decide) rfl ?_
      refine zF_iinc 45 (ls' := [(3, zI ((i : Int) + 1)), (2, zI ((zsum (fun s => 7 * mCap N s) i) + (7 * (mCap N (i : Int))))), (1, zI ((zsum (fun s => gG (zia σa1 (A 7)) s 7) i) + (gG (zia σa1 (A 7)) (i : Int) 7))), (0, zR hm)]) dX12_filled_42 rfl rfl rfl (by decide) rfl ?_
      refine zF_goto 15 dX12_filled_45 rfl ?_
      exact zF_locs (ls' := [(3, zI ((i + 1 : Nat) : Int)), (2, zI (zsum (fun s => 7 * mCap N s) (i + 1))), (1, zI (zsum (fun s => gG (zia σa1 (A 7)) s 7) (i + 1))), (0, zR hm)]) ⟨zlI rfl (by first | rfl | omega | (push_cast; omega) | exact congrArg (_ + ·) (zbT (by assumption)) | exact congrArg (_ + ·) (zbF (by assumption)) | exact congrArg (_ + ·) (zbT (by omega)) | exact congrArg (_ + ·) (zbF (by omega)) | exact congrArg (_ + ·) (if_pos (by omega)).symm | exact congrArg (_ + ·) (if_neg (by omega)).symm | exact (if_pos (by omega)).symm | exact (if_neg (by omega)).symm | exact zsub_s (if_pos (by omega)).symm | exact zsub_s0 (if_neg (by omega)).symm | exact zadd0 (if_neg (by omega)).symm | exact zadd0 (zbF (by omega)) | exact (Int.sub_zero _).symm), zlI rfl (by first | rfl | omega | (push_cast; omega) | exact congrArg (_ + ·) (zbT (by assumption)) | exact congrArg (_ + ·) (zbF (by assumption)) | exact congrArg (_ + ·) (zbT (by omega)) | exact congrArg (_ + ·) (zbF (by omega)) | exact congrArg (_ + ·) (if_pos (by omega)).symm | exact congrArg (_ + ·) (if_neg (by omega)).symm | exact (if_pos (by omega)).symm | exact (if_neg (by omega)).symm | exact zsub_s (if_pos (by omega)).symm | exact zsub_s0 (if_neg (by omega)).symm | exact zadd0 (if_neg (by omega)).symm | exact zadd0 (zbF (by omega)) | exact (Int.sub_zero _).symm), zlI rfl (by first | rfl | omega | (push_cast; omega) | exact congrArg (_ + ·) (zbT (by assumption)) | exact congrArg (_ + ·) (zbF (by assumption)) | exact congrArg (_ + ·) (zbT (by omega)) | exact congrArg (_ + ·) (zbF (by omega)) | exact congrArg (_ + ·) (if_pos (by omega)).symm | exact congrArg (_ + ·) (if_neg (by omega)).symm | exact (if_pos (by omega)).symm | exact (if_neg (by omega)).symm | exact zsub_s (if_pos (by omega)).symm | exact zsub_s0 (if_neg (by omega)).symm | exact zadd0 (if_neg (by omega)).symm | exact zadd0 (zbF (by omega)) | exact (Int.sub_zero _).symm), rfl, trivial⟩ ih15
  · show zF G mX12_filled (d + 12) 15 [(3, zI (((nS N) : Nat) : Int)), (2, zI (zsum (fun s => 7 * mCap N s) (nS N))), (1, zI (zsum (fun s => gG (zia σa1 (A 7)) s 7) (nS N))), (0, zR hm)] [] σa1 _
    refine zF_iload_n 16 dX12_filled_15 rfl rfl ?_
    refine zF_aload_n 17 dX12_filled_16 rfl rfl ?_
    refine zF_callVi 20 (d2 := (d + 11)) (as := []) dX12_filled_17 rfl kX12_113 iX12_screens (ci := 12) rfl eX12_screens (Nat.le_refl _) hMa1.1 hMa1.2.1 rfl rfl (Nat.le_of_ble_eq_true rfl) (zn_X12_screens hMa1 hNa1) ?_
    refine zF_icmp_ge 48 23 dX12_filled_20 rfl rfl (by first | decide | assumption | exact hb _ | exact mSh_rg hb _ _ | exact zb_rg _ | (constructor <;> omega)) (by first | decide | assumption | exact hb _ | exact mSh_rg hb _ _ | exact zb_rg _ | (constructor <;> omega)) (fun c2 => ?_) (fun c2 => ?_)
    · refine zF_aload_n 49 dX12_filled_48 rfl rfl ?_
      refine zF_callVi 52 (d2 := (d + 11)) (as := []) dX12_filled_49 rfl kX12_113 iX12_screens (ci := 12) rfl eX12_screens (Nat.le_refl _) hMa1.1 hMa1.2.1 rfl rfl (Nat.le_of_ble_eq_true rfl) (zn_X12_screens hMa1 hNa1) ?_
      refine zF_if_ne 59 55 dX12_filled_52 rfl rfl (by first | decide | assumption | exact hb _ | exact mSh_rg hb _ _ | exact zb_rg _ | (constructor <;> omega)) (fun c3 => ?_) (fun c3 => ?_)
      · refine zF_iload_n 60 dX12_filled_59 rfl rfl ?_
        refine zF_i2f 61 dX12_filled_60 rfl ?_
        refine zF_iload_n 62 dX12_filled_61 rfl rfl ?_
        refine zF_i2f 63 dX12_filled_62 rfl ?_
        refine zF_fdiv 64 dX12_filled_63 rfl (zi2f_D _) ((by rw [fill_r]; exact zi2f_Z (by rw [zti zr]; omega) (by rw [zti zr]; omega))) ?_
        exact zF_freturn dX12_filled_64 rfl (⟨congrArg (fun z => Sum.inl (some (zFl z))) (by unfold oFill; rw [if_neg (by omega), fill_s hV p1, fill_r]), (mSc_fr78 (mSc_hm5 zFr.rf) fr1), (zFr_F fr1 (n78 hM (j := 0)) (zsi_same _ _ _ _))⟩)
      · refine zF_fconst0 56 dX12_filled_55 rfl ?_
        refine zF_goto 64 dX12_filled_56 rfl ?_
        exact zF_freturn dX12_filled_64 rfl (⟨congrArg (fun z => Sum.inl (some (zFl z))) (if_pos (by omega)).symm, (mSc_fr78 (mSc_hm5 zFr.rf) fr1), (zFr_F fr1 (n78 hM (j := 0)) (zsi_same _ _ _ _))⟩)
    · exact absurd c2 (by omega)
end ZFM

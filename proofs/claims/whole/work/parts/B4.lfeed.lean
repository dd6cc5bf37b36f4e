/-! the law's feed and format -/
section ZLW
variable {G : zG} {d n L : Nat} {xs : Nat → Int32} {σ σ1 : zMem} {Q : zRes → zMem → Prop} {i k v T : Int} {S S1 S2 : zS} {N Sn : Int → Int} {sf cc ep : Int} {t : Int → Int} {l : List Int} {vv vv1 cap cap1 : Nat} {r : zRes} {P : Nat → Int → Prop} {hm : Nat} {A : Nat → Nat}
theorem zt_X12_format2 {s : Int} (hG1 : zOS G) (hM : zMo σ hm A) (hN : zia σ (A 0) = N) (hV : mV N) (hX : mX N) (zs : zrg s) : zE G mX12_format (d + 12) [zR hm, zI s] σ (fun ro σ1 => ∃ x, ro = .inl (some (zI x)) ∧ zFr (mFm hm A) σ σ1 ∧ if 0 ≤ s ∧ s < N 1 then zia σ1 hm ((5 : Nat) : Int) = 0 ∧ x = ((fmL N s).length : Int) ∧ mWr σ1 hm A (fmL N s) else zFr (mSc hm A) σ σ1 ∧ zia σ1 hm ((5 : Nat) : Int) = 1) := by
  refine zE_of rfl (by simp [zcat]) (Nat.le_of_ble_eq_true rfl) ?_
  show zF G mX12_format (d + 12) 0 [(0, zR hm), (1, zI s)] [] σ _
  have hb := hV.b
  have hn := hV.n
  refine zF_aload_n 1 dX12_format_0 rfl rfl ?_
  refine zF_iconst 2 dX12_format_1 rfl ?_
  refine zF_putI 5 dX12_format_2 rfl pX12_format_89 (Or.inl rfl) hM.1 hM.2.1 ?_
  refine zF_aload_n 6 dX12_format_5 rfl rfl ?_
  refine zF_iload_n 7 dX12_format_6 rfl rfl ?_
  refine zF_callVi 10 (d2 := (d + 11)) (as := [zI s]) dX12_format_7 rfl kX12_256 iX12_isScreen (ci := 12) rfl eX12_isScreen (Nat.le_refl _) hM.1 hM.2.1 rfl rfl (Nat.le_of_ble_eq_true rfl) (zn_X12_isScreen hM (zMo_hN (k := 0) hN hM (by decide) zMo_h1) (by first | decide | assumption | exact hb _ | exact mSh_rg hb _ _ | exact zb_rg _ | (constructor <;> omega)) (by omega) (by omega)) ?_
  refine zF_ifb_ne 19 13 dX12_format_10 rfl rfl (fun c1 => ?_) (fun c1 => ?_)
  · refine zF_aload_n 20 dX12_format_19 rfl rfl ?_
    refine zF_iconst 21 dX12_format_20 rfl ?_
    refine zF_putI 24 dX12_format_21 rfl pX12_format_311 (Or.inl rfl) hM.1 hM.2.1 ?_
    refine zF_aload_n 25 dX12_format_24 rfl rfl ?_
    refine zF_bipush 27 dX12_format_25 rfl (by decide) ?_
    refine zF_callV 30 (d2 := (d + 11)) (as := [zI 115]) dX12_format_27 rfl kX12_314 iX12_write (ci := 12) rfl eX12_write (Nat.le_refl _) hM.1 hM.2.1 rfl rfl (Nat.le_of_ble_eq_true rfl) (zE.mono (zt_X12_write (l := ([] : List Int)) hM (mWr_0 (zsi_same _ _ _ _)) (by first | omega | (simp only [List.length_append, List.length_cons, List.length_nil, List.length_take, fmD_len]; omega)) (by first | decide | assumption | exact hb _ | exact mSh_rg hb _ _ | exact zb_rg _ | (constructor <;> omega))) fun ro σa1 hh1 => ?_)
    obtain ⟨er1, fr1, p1⟩ := hh1
    subst er1
    refine ⟨fr1.1, ?_⟩
    show zF G mX12_format (d + 12) 30 [(0, zR hm), (1, zI s)] [] σa1 _
    have hMa1 := zMo_f2 fr1 hM
    have hNa1 : zia σa1 (A 0) = N := mPw_N (σ := (zsi (zsi σ hm ((5 : Nat) : Int) 0) hm ((17 : Nat) : Int) 0)) hM fr1 (by decide) (by decide) (zMo_hN (k := 0) (zMo_hN (k := 0) hN hM (by decide) zMo_h1) hM (by decide) zMo_h1)
    refine zF_aload_n 31 dX12_format_30 rfl rfl ?_
    refine zF_bipush 33 dX12_format_31 rfl (by decide) ?_
    refine zF_iload_n 34 dX12_format_33 rfl rfl ?_
    refine zF_iadd 35 dX12_format_34 rfl ?_
    refine zF_callV 38 (d2 := (d + 11)) (as := [zI (48 + s)]) dX12_format_35 rfl kX12_314 iX12_write (ci := 12) rfl eX12_write (Nat.le_refl _) hMa1.1 hMa1.2.1 rfl rfl (Nat.le_of_ble_eq_true rfl) (zE.mono (zt_X12_write (l := (([] : List Int) ++ [115])) hMa1 p1 (by first | omega | (simp only [List.length_append, List.length_cons, List.length_nil, List.length_take, fmD_len]; omega)) (by first | decide | assumption | exact hb _ | exact mSh_rg hb _ _ | exact zb_rg _ | (constructor <;> omega))) fun ro σa2 hh2 => ?_)
    obtain ⟨er2, fr2, p2⟩ := hh2
    subst er2
    refine ⟨fr2.1, ?_⟩
    show zF G mX12_format (d + 12) 38 [(0, zR hm), (1, zI s)] [] σa2 _
    have hMa2 := zMo_f2 fr2 hMa1
    have hNa2 : zia σa2 (A 0) = N := mPw_N (σ := σa1) hMa1 fr2 (by decide) (by decide) hNa1
    refine zF_aload_n 39 dX12_format_38 rfl rfl ?_
    refine zF_bipush 41 dX12_format_39 rfl (by decide) ?_
    refine zF_callV 44 (d2 := (d + 11)) (as := [zI 58]) dX12_format_41 rfl kX12_314 iX12_write (ci := 12) rfl eX12_write (Nat.le_refl _) hMa2.1 hMa2.2.1 rfl rfl (Nat.le_of_ble_eq_true rfl) (zE.mono (zt_X12_write (l := ((([] : List Int) ++ [115]) ++ [(48 + s)])) hMa2 p2 (by first | omega | (simp only [List.length_append, List.length_cons, List.length_nil, List.length_take, fmD_len]; omega)) (by first | decide | assumption | exact hb _ | exact mSh_rg hb _ _ | exact zb_rg _ | (constructor <;> omega))) fun ro σa3 hh3 => ?_)
    obtain ⟨er3, fr3, p3⟩ := hh3
    subst er3
    refine ⟨fr3.1, ?_⟩
    show zF G mX12_format (d + 12) 44 [(0, zR hm), (1, zI s)] [] σa3 _
    have hMa3 := zMo_f2 fr3 hMa2
    have hNa3 : zia σa3 (A 0) = N := mPw_N (σ := σa2) hMa2 fr3 (by decide) (by decide) hNa2
    refine zF_iconst 45 dX12_format_44 rfl ?_
    refine zF_istore_n 46 (ls' := [(2, zI 0), (0, zR hm), (1, zI s)]) dX12_format_45 rfl (by decide) rfl ?_
    refine zF_locs (ls' := [(2, zI ((0 : Nat) : Int)), (0, zR hm), (1, zI s)]) ⟨zlI rfl (by first | rfl | omega | (push_cast; omega) | exact congrArg (_ + ·) (zbT (by assumption)) | exact congrArg (_ + ·) (zbF (by assumption)) | exact congrArg (_ + ·) (zbT (by omega)) | exact congrArg (_ + ·) (zbF (by omega)) | exact congrArg (_ + ·) (if_pos (by omega)).symm | exact congrArg (_ + ·) (if_neg (by omega)).symm | exact (if_pos (by omega)).symm | exact (if_neg (by omega)).symm | exact zsub_s (if_pos (by omega)).symm | exact zsub_s0 (if_neg (by omega)).symm | exact zadd0 (if_neg (by omega)).symm | exact zadd0 (zbF (by omega)) | exact (Int.sub_zero _).symm), rfl, rfl, trivial⟩ ?_
    refine zF_while (X := Nat) (fun x => 7 - x) (fun x σ2 => x ≤ 7 ∧ zFr (mFm hm A) σ σ2 ∧ zia σ2 hm ((5 : Nat) : Int) = 0 ∧ mWr σ2 hm A (fmD N s x)) (fun x => [(2, zI ((x : Nat) : Int)), (0, zR hm), (1, zI s)]) ?_ 0 σa3 (⟨by omega, (((((((zFr_si (Or.inl (Or.inl ⟨rfl, rfl⟩)) (zFr_si (Or.inr (Or.inl ⟨rfl, by decide⟩)) zFr.rf))).tr (mPw_fm fr1))).tr (mPw_fm fr2))).tr (mPw_fm fr3)), (mPw_F (σ := σa2) hMa2 fr3 (by decide) (mPw_F (σ := σa1) hMa1 fr2 (by decide) (mPw_F (σ := (zsi (zsi σ hm ((5 : Nat) : Int) 0) hm ((17 : Nat) : Int) 0)) hM fr1 (by decide) (zsi_F (by decide) (zsi_same _ _ _ _))))), p3⟩)
    intro x σ2 hI46 ih46
    show zF G mX12_format (d + 12) 46 [(2, zI ((x : Nat) : Int)), (0, zR hm), (1, zI s)] [] σ2 _
    obtain ⟨hx, f2, h52, hw2⟩ := hI46
    have hM2 := zMo_f2 f2 hM
    have hN2 := mFm_N hM f2 hN
    refine zF_iload_n 47 dX12_format_46 rfl rfl ?_
    refine zF_bipush 49 dX12_format_47 rfl (by decide) ?_
    refine zF_icmp_ge 89 52 dX12_format_49 rfl rfl (by first | decide | assumption | exact hb _ | exact mSh_rg hb _ _ | exact zb_rg _ | (constructor <;> omega)) (by first | decide | assumption | exact hb _ | exact mSh_rg hb _ _ | exact zb_rg _ | (constructor <;> omega)) (fun c2 => ?_) (fun c2 => ?_)
    · refine zF_aload_n 90 dX12_format_89 rfl rfl ?_
      refine zF_iload_n 91 dX12_format_90 rfl rfl ?_
      refine zF_callVi 94 (d2 := (d + 11)) (as := [zI s]) dX12_format_91 rfl kX12_208 iX12_isHeld (ci := 12) rfl eX12_isHeld (Nat.le_refl _) hM2.1 hM2.2.1 rfl rfl (Nat.le_of_ble_eq_true rfl) (zn_X12_isHeld hM2 hN2 hb (by omega) (by omega)) ?_
      refine zF_ifb_eq 103 97 dX12_format_94 rfl rfl (fun c3 => ?_) (fun c3 => ?_)
      · have hx7 : x = 7 := by omega
        have zl : zsl 40 = 0 := rfl
        refine zF_ldcSW 106 (i := 40) dX12_format_103 rfl rfl ?_
        refine zF_astore_n 107 (ls' := [(2, zR (zbg + 40)), (0, zR hm), (1, zI s)]) dX12_format_106 rfl (by decide) rfl ?_
        refine zF_iconst 108 dX12_format_107 rfl ?_
        refine zF_istore_n 109 (ls' := [(3, zI 0), (2, zR (zbg + 40)), (0, zR hm), (1, zI s)]) dX12_format_108 rfl (by decide) rfl ?_
        refine zF_locs (ls' := [(3, zI ((0 : Nat) : Int)), (2, zR (zbg + 40)), (0, zR hm), (1, zI s)]) ⟨zlI rfl (by first | rfl | omega | (push_cast; omega) | exact congrArg (_ + ·) (zbT (by assumption)) | exact congrArg (_ + ·) (zbF (by assumption)) | exact congrArg (_ + ·) (zbT (by omega)) | exact congrArg (_ + ·) (zbF (by omega)) | exact congrArg (_ + ·) (if_pos (by omega)).symm | exact congrArg (_ + ·) (if_neg (by omega)).symm | exact (if_pos (by omega)).symm | exact (if_neg (by omega)).symm | exact zsub_s (if_pos (by omega)).symm | exact zsub_s0 (if_neg (by omega)).symm | exact zadd0 (if_neg (by omega)).symm | exact zadd0 (zbF (by omega)) | exact (Int.sub_zero _).symm), rfl, rfl, rfl, trivial⟩ ?_
        refine zF_while (X := Nat) (fun x => zsl 40 - x) (fun x σ3 => x ≤ zsl 40 ∧ zFr (mFm hm A) σ σ3 ∧ zia σ3 hm ((5 : Nat) : Int) = 0 ∧ mWr σ3 hm A (fmD N s 7 ++ (zsbi 40).take x)) (fun x => [(3, zI ((x : Nat) : Int)), (2, zR (zbg + 40)), (0, zR hm), (1, zI s)]) ?_ 0 σ2 (⟨Nat.zero_le _, f2, h52, mWr_t0 (mWr_d7 hx7 hw2)⟩)
        intro y σ3 hI109 ih109
        show zF G mX12_format (d + 12) 109 [(3, zI ((y : Nat) : Int)), (2, zR (zbg + 40)), (0, zR hm), (1, zI s)] [] σ3 _
        obtain ⟨hy, f3, h53, hw3⟩ := hI109
        have hM3 := zMo_f2 f3 hM
        have hN3 := mFm_N hM f3 hN
        refine zF_iload_n 110 dX12_format_109 rfl rfl ?_
        refine zF_aload_n 111 dX12_format_110 rfl rfl ?_
        refine zF_callOi 114 (d2 := (d + 11)) (as := []) dX12_format_111 rfl kX12_321 iJ0_length_8abf5 (hG1.1 40 (by decide)).1 eJ0_length_8abf5 (Nat.le_refl _) rfl rfl (Nat.le_of_ble_eq_true rfl) (zt_J0_length (i := 40) hG1 (by decide)) ?_
        refine zF_icmp_ge 132 117 dX12_format_114 rfl rfl (by first | decide | assumption | exact hb _ | exact mSh_rg hb _ _ | exact zb_rg _ | (constructor <;> omega)) (by first | decide | assumption | exact hb _ | exact mSh_rg hb _ _ | exact zb_rg _ | (constructor <;> omega)) (fun c4 => ?_) (fun c4 => ?_)
        · refine zF_aload_n 133 dX12_format_132 rfl rfl ?_
          refine zF_getI 136 dX12_format_133 rfl gX12_311 (by decide) (by decide) hM3.1 hM3.2.1 hw3.1 ?_
          exact zF_ireturn dX12_format_136 rfl ((by
    have h7s := hV.s s (by omega) (by have := hV.n; omega)
    have q := mWr_h40 (by omega) (by omega) hw3
    exact ⟨_, rfl, f3, by rw [if_pos (by omega)]; exact ⟨h53, q.2, q.1⟩⟩))
        · refine zF_aload_n 118 dX12_format_117 rfl rfl ?_
          refine zF_aload_n 119 dX12_format_118 rfl rfl ?_
          refine zF_iload_n 120 dX12_format_119 rfl rfl ?_
          refine zF_callOi 123 (d2 := (d + 11)) (as := [zI ((y : Nat) : Int)]) dX12_format_120 rfl kX12_324 iJ0_charAt_5068e (hG1.1 40 (by decide)).1 eJ0_charAt_5068e (Nat.le_refl _) rfl rfl (Nat.le_of_ble_eq_true rfl) (zt_J0_charAt (i := 40) hG1 (by decide) (k := y) (by omega)) ?_
          have zq := zsc_b 40 (by decide) y (by omega)
          refine zF_callV 126 (d2 := (d + 11)) (as := [zI (zsc 40 y)]) dX12_format_123 rfl kX12_314 iX12_write (ci := 12) rfl eX12_write (Nat.le_refl _) hM3.1 hM3.2.1 rfl rfl (Nat.le_of_ble_eq_true rfl) (zE.mono (zt_X12_write (l := (fmD N s 7 ++ (zsbi 40).take y)) hM3 hw3 (by first | omega | (simp only [List.length_append, List.length_cons, List.length_nil, List.length_take, fmD_len]; omega)) (by first | decide | assumption | exact hb _ | exact mSh_rg hb _ _ | exact zb_rg _ | (constructor <;> omega))) fun ro σa4 hh4 => ?_)
          obtain ⟨er4, fr4, p4⟩ := hh4
          subst er4
          refine ⟨fr4.1, ?_⟩
          show zF G mX12_format (d + 12) 126 [(3, zI ((y : Nat) : Int)), (2, zR (zbg + 40)), (0, zR hm), (1, zI s)] [] σa4 _
          have hMa4 := zMo_f2 fr4 hM3
          have hNa4 : zia σa4 (A 0) = N := mPw_N (σ := σ3) hM3 fr4 (by decide) (by decide) hN3
          refine zF_iinc 129 (ls' := [(3, zI (((y : Nat) : Int) + 1)), (2, zR (zbg + 40)), (0, zR hm), (1, zI s)]) dX12_format_126 rfl rfl rfl (by decide) rfl ?_
          refine zF_goto 109 dX12_format_129 rfl ?_
          exact zF_locs (ls' := [(3, zI (((y + 1) : Nat) : Int)), (2, zR (zbg + 40)), (0, zR hm), (1, zI s)]) ⟨zlI rfl (by first | rfl | omega | (push_cast; omega) | exact congrArg (_ + ·) (zbT (by assumption)) | exact congrArg (_ + ·) (zbF (by assumption)) | exact congrArg (_ + ·) (zbT (by omega)) | exact congrArg (_ + ·) (zbF (by omega)) | exact congrArg (_ + ·) (if_pos (by omega)).symm | exact congrArg (_ + ·) (if_neg (by omega)).symm | exact (if_pos (by omega)).symm | exact (if_neg (by omega)).symm | exact zsub_s (if_pos (by omega)).symm | exact zsub_s0 (if_neg (by omega)).symm | exact zadd0 (if_neg (by omega)).symm | exact zadd0 (zbF (by omega)) | exact (Int.sub_zero _).symm), rfl, rfl, rfl, trivial⟩ (ih109 (y + 1) _ (by omega) (⟨by omega, ((f3).tr (mPw_fm fr4)), (mPw_F (σ := σ3) hM3 fr4 (by decide) h53), mWr_tk (by omega) p4⟩))
      · have hx7 : x = 7 := by omega
        have zl : zsl 39 = 5 := rfl
        refine zF_ldcSW 100 (i := 39) dX12_format_97 rfl rfl ?_
        refine zF_goto 106 dX12_format_100 rfl ?_
        refine zF_astore_n 107 (ls' := [(2, zR (zbg + 39)), (0, zR hm), (1, zI s)]) dX12_format_106 rfl (by decide) rfl ?_
        refine zF_iconst 108 dX12_format_107 rfl ?_
        refine zF_istore_n 109 (ls' := [(3, zI 0), (2, zR (zbg + 39)), (0, zR hm), (1, zI s)]) dX12_format_108 rfl (by decide) rfl ?_
        refine zF_locs (ls' := [(3, zI ((0 : Nat) : Int)), (2, zR (zbg + 39)), (0, zR hm), (1, zI s)]) ⟨zlI rfl (by first | rfl | omega | (push_cast; omega) | exact congrArg (_ + ·) (zbT (by assumption)) | exact congrArg (_ + ·) (zbF (by assumption)) | exact congrArg (_ + ·) (zbT (by omega)) | exact congrArg (_ + ·) (zbF (by omega)) | exact congrArg (_ + ·) (if_pos (by omega)).symm | exact congrArg (_ + ·) (if_neg (by omega)).symm | exact (if_pos (by omega)).symm | exact (if_neg (by omega)).symm | exact zsub_s (if_pos (by omega)).symm | exact zsub_s0 (if_neg (by omega)).symm | exact zadd0 (if_neg (by omega)).symm | exact zadd0 (zbF (by omega)) | exact (Int.sub_zero _).symm), rfl, rfl, rfl, trivial⟩ ?_
        refine zF_while (X := Nat) (fun x => zsl 39 - x) (fun x σ3 => x ≤ zsl 39 ∧ zFr (mFm hm A) σ σ3 ∧ zia σ3 hm ((5 : Nat) : Int) = 0 ∧ mWr σ3 hm A (fmD N s 7 ++ (zsbi 39).take x)) (fun x => [(3, zI ((x : Nat) : Int)), (2, zR (zbg + 39)), (0, zR hm), (1, zI s)]) ?_ 0 σ2 (⟨Nat.zero_le _, f2, h52, mWr_t0 (mWr_d7 hx7 hw2)⟩)
        intro y σ3 hI109 ih109
        show zF G mX12_format (d + 12) 109 [(3, zI ((y : Nat) : Int)), (2, zR (zbg + 39)), (0, zR hm), (1, zI s)] [] σ3 _
        obtain ⟨hy, f3, h53, hw3⟩ := hI109
        have hM3 := zMo_f2 f3 hM
        have hN3 := mFm_N hM f3 hN
        refine zF_iload_n 110 dX12_format_109 rfl rfl ?_
        refine zF_aload_n 111 dX12_format_110 rfl rfl ?_
        refine zF_callOi 114 (d2 := (d + 11)) (as := []) dX12_format_111 rfl kX12_321 iJ0_length_8abf5 (hG1.1 39 (by decide)).1 eJ0_length_8abf5 (Nat.le_refl _) rfl rfl (Nat.le_of_ble_eq_true rfl) (zt_J0_length (i := 39) hG1 (by decide)) ?_
        refine zF_icmp_ge 132 117 dX12_format_114 rfl rfl (by first | decide | assumption | exact hb _ | exact mSh_rg hb _ _ | exact zb_rg _ | (constructor <;> omega)) (by first | decide | assumption | exact hb _ | exact mSh_rg hb _ _ | exact zb_rg _ | (constructor <;> omega)) (fun c5 => ?_) (fun c5 => ?_)
        · refine zF_aload_n 133 dX12_format_132 rfl rfl ?_
          refine zF_getI 136 dX12_format_133 rfl gX12_311 (by decide) (by decide) hM3.1 hM3.2.1 hw3.1 ?_
          exact zF_ireturn dX12_format_136 rfl ((by
    have q := mWr_h39 (by omega) (by omega) hw3
    exact ⟨_, rfl, f3, by rw [if_pos (by omega)]; exact ⟨h53, q.2, q.1⟩⟩))
        · refine zF_aload_n 118 dX12_format_117 rfl rfl ?_
          refine zF_aload_n 119 dX12_format_118 rfl rfl ?_
          refine zF_iload_n 120 dX12_format_119 rfl rfl ?_
          refine zF_callOi 123 (d2 := (d + 11)) (as := [zI ((y : Nat) : Int)]) dX12_format_120 rfl kX12_324 iJ0_charAt_5068e (hG1.1 39 (by decide)).1 eJ0_charAt_5068e (Nat.le_refl _) rfl rfl (Nat.le_of_ble_eq_true rfl) (zt_J0_charAt (i := 39) hG1 (by decide) (k := y) (by omega)) ?_
          have zq := zsc_b 39 (by decide) y (by omega)
          refine zF_callV 126 (d2 := (d + 11)) (as := [zI (zsc 39 y)]) dX12_format_123 rfl kX12_314 iX12_write (ci := 12) rfl eX12_write (Nat.le_refl _) hM3.1 hM3.2.1 rfl rfl (Nat.le_of_ble_eq_true rfl) (zE.mono (zt_X12_write (l := (fmD N s 7 ++ (zsbi 39).take y)) hM3 hw3 (by first | omega | (simp only [List.length_append, List.length_cons, List.length_nil, List.length_take, fmD_len]; omega)) (by first | decide | assumption | exact hb _ | exact mSh_rg hb _ _ | exact zb_rg _ | (constructor <;> omega))) fun ro σa5 hh5 => ?_)
          obtain ⟨er5, fr5, p5⟩ := hh5
          subst er5
          refine ⟨fr5.1, ?_⟩
          show zF G mX12_format (d + 12) 126 [(3, zI ((y : Nat) : Int)), (2, zR (zbg + 39)), (0, zR hm), (1, zI s)] [] σa5 _
          have hMa5 := zMo_f2 fr5 hM3
          have hNa5 : zia σa5 (A 0) = N := mPw_N (σ := σ3) hM3 fr5 (by decide) (by decide) hN3
          refine zF_iinc 129 (ls' := [(3, zI (((y : Nat) : Int) + 1)), (2, zR (zbg + 39)), (0, zR hm), (1, zI s)]) dX12_format_126 rfl rfl rfl (by decide) rfl ?_
          refine zF_goto 109 dX12_format_129 rfl ?_
          exact zF_locs (ls' := [(3, zI (((y + 1) : Nat) : Int)), (2, zR (zbg + 39)), (0, zR hm), (1, zI s)]) ⟨zlI rfl (by first | rfl | omega | (push_cast; omega) | exact congrArg (_ + ·) (zbT (by assumption)) | exact congrArg (_ + ·) (zbF (by assumption)) | exact congrArg (_ + ·) (zbT (by omega)) | exact congrArg (_ + ·) (zbF (by omega)) | exact congrArg (_ + ·) (if_pos (by omega)).symm | exact congrArg (_ + ·) (if_neg (by omega)).symm | exact (if_pos (by omega)).symm | exact (if_neg (by omega)).symm | exact zsub_s (if_pos (by omega)).symm | exact zsub_s0 (if_neg (by omega)).symm | exact zadd0 (if_neg (by omega)).symm | exact zadd0 (zbF (by omega)) | exact (Int.sub_zero _).symm), rfl, rfl, rfl, trivial⟩ (ih109 (y + 1) _ (by omega) (⟨by omega, ((f3).tr (mPw_fm fr5)), (mPw_F (σ := σ3) hM3 fr5 (by decide) h53), mWr_tk (by omega) p5⟩))
    · refine zF_aload_n 53 dX12_format_52 rfl rfl ?_
      refine zF_iload_n 54 dX12_format_53 rfl rfl ?_
      refine zF_iload_n 55 dX12_format_54 rfl rfl ?_
      refine zF_callVi 58 (d2 := (d + 11)) (as := [zI s, zI ((x : Nat) : Int)]) dX12_format_55 rfl kX12_129 iX12_shownOn (ci := 12) rfl eX12_shownOn (Nat.le_refl _) hM2.1 hM2.2.1 rfl rfl (Nat.le_of_ble_eq_true rfl) (zn_X12_shownOn hM2 hN2 hb (by omega) (by omega) (by first | decide | assumption | exact hb _ | exact mSh_rg hb _ _ | exact zb_rg _ | (constructor <;> omega))) ?_
      refine zF_istore_n 59 (ls' := [(3, zI (mSh N s ((x : Nat) : Int))), (2, zI ((x : Nat) : Int)), (0, zR hm), (1, zI s)]) dX12_format_58 rfl (by decide) rfl ?_
      refine zF_aload_n 60 dX12_format_59 rfl rfl ?_
      refine zF_bipush 62 dX12_format_60 rfl (by decide) ?_
      refine zF_callV 65 (d2 := (d + 11)) (as := [zI 32]) dX12_format_62 rfl kX12_314 iX12_write (ci := 12) rfl eX12_write (Nat.le_refl _) hM2.1 hM2.2.1 rfl rfl (Nat.le_of_ble_eq_true rfl) (zE.mono (zt_X12_write (l := (fmD N s x)) hM2 hw2 (by first | omega | (simp only [List.length_append, List.length_cons, List.length_nil, List.length_take, fmD_len]; omega)) (by first | decide | assumption | exact hb _ | exact mSh_rg hb _ _ | exact zb_rg _ | (constructor <;> omega))) fun ro σa6 hh6 => ?_)
      obtain ⟨er6, fr6, p6⟩ := hh6
      subst er6
      refine ⟨fr6.1, ?_⟩
      show zF G mX12_format (d + 12) 65 [(3, zI (mSh N s ((x : Nat) : Int))), (2, zI ((x : Nat) : Int)), (0, zR hm), (1, zI s)] [] σa6 _
      have hMa6 := zMo_f2 fr6 hM2
      have hNa6 : zia σa6 (A 0) = N := mPw_N (σ := σ2) hM2 fr6 (by decide) (by decide) hN2
      refine zF_aload_n 66 dX12_format_65 rfl rfl ?_
      have bm := mSh_b hV (s := s) (by omega) (by omega) (x : Int)
      refine zF_iload_n 67 dX12_format_66 rfl rfl ?_
      refine zF_iconst 68 dX12_format_67 rfl ?_
      refine zF_icmp_ne 76 71 dX12_format_68 rfl rfl (by first | decide | assumption | exact hb _ | exact mSh_rg hb _ _ | exact zb_rg _ | (constructor <;> omega)) (by first | decide | assumption | exact hb _ | exact mSh_rg hb _ _ | exact zb_rg _ | (constructor <;> omega)) (fun c6 => ?_) (fun c6 => ?_)
      · refine zF_bipush 78 dX12_format_76 rfl (by decide) ?_
        refine zF_iload_n 79 dX12_format_78 rfl rfl ?_
        refine zF_iadd 80 dX12_format_79 rfl ?_
        refine zF_callV 83 (d2 := (d + 11)) (as := [zI (48 + (mSh N s ((x : Nat) : Int)))]) dX12_format_80 rfl kX12_314 iX12_write (ci := 12) rfl eX12_write (Nat.le_refl _) hMa6.1 hMa6.2.1 rfl rfl (Nat.le_of_ble_eq_true rfl) (zE.mono (zt_X12_write (l := ((fmD N s x) ++ [32])) hMa6 p6 (by first | omega | (simp only [List.length_append, List.length_cons, List.length_nil, List.length_take, fmD_len]; omega)) (by first | decide | assumption | exact hb _ | exact mSh_rg hb _ _ | exact zb_rg _ | (constructor <;> omega))) fun ro σa7 hh7 => ?_)
        obtain ⟨er7, fr7, p7⟩ := hh7
        subst er7
        refine ⟨fr7.1, ?_⟩
        show zF G mX12_format (d + 12) 83 [(3, zI (mSh N s ((x : Nat) : Int))), (2, zI ((x : Nat) : Int)), (0, zR hm), (1, zI s)] [] σa7 _
        have hMa7 := zMo_f2 fr7 hMa6
        have hNa7 : zia σa7 (A 0) = N := mPw_N (σ := σa6) hMa6 fr7 (by decide) (by decide) hNa6
        refine zF_iinc 86 (ls' := [(2, zI (((x : Nat) : Int) + 1)), (3, zI (mSh N s ((x : Nat) : Int))), (0, zR hm), (1, zI s)]) dX12_format_83 rfl rfl rfl (by decide) rfl ?_
        refine zF_goto 46 dX12_format_86 rfl ?_
        exact zF_locs (ls' := [(2, zI (((x + 1) : Nat) : Int)), (0, zR hm), (1, zI s)]) ⟨zlI rfl (by first | rfl | omega | (push_cast; omega) | exact congrArg (_ + ·) (zbT (by assumption)) | exact congrArg (_ + ·) (zbF (by assumption)) | exact congrArg (_ + ·) (zbT (by omega)) | exact congrArg (_ + ·) (zbF (by omega)) | exact congrArg (_ + ·) (if_pos (by omega)).symm | exact congrArg (_ + ·) (if_neg (by omega)).symm | exact (if_pos (by omega)).symm | exact (if_neg (by omega)).symm | exact zsub_s (if_pos (by omega)).symm | exact zsub_s0 (if_neg (by omega)).symm | exact zadd0 (if_neg (by omega)).symm | exact zadd0 (zbF (by omega)) | exact (Int.sub_zero _).symm), rfl, rfl, trivial⟩ (ih46 (x + 1) _ (by omega) (⟨by omega, ((((f2).tr (mPw_fm fr6))).tr (mPw_fm fr7)), (mPw_F (σ := σa6) hMa6 fr7 (by decide) (mPw_F (σ := σ2) hM2 fr6 (by decide) h52)), mWr_dy (if_neg (by omega)) p7⟩))
      · refine zF_bipush 73 dX12_format_71 rfl (by decide) ?_
        refine zF_goto 80 dX12_format_73 rfl ?_
        refine zF_callV 83 (d2 := (d + 11)) (as := [zI 45]) dX12_format_80 rfl kX12_314 iX12_write (ci := 12) rfl eX12_write (Nat.le_refl _) hMa6.1 hMa6.2.1 rfl rfl (Nat.le_of_ble_eq_true rfl) (zE.mono (zt_X12_write (l := ((fmD N s x) ++ [32])) hMa6 p6 (by first | omega | (simp only [List.length_append, List.length_cons, List.length_nil, List.length_take, fmD_len]; omega)) (by first | decide | assumption | exact hb _ | exact mSh_rg hb _ _ | exact zb_rg _ | (constructor <;> omega))) fun ro σa8 hh8 => ?_)
        obtain ⟨er8, fr8, p8⟩ := hh8
        subst er8
        refine ⟨fr8.1, ?_⟩
        show zF G mX12_format (d + 12) 83 [(3, zI (mSh N s ((x : Nat) : Int))), (2, zI ((x : Nat) : Int)), (0, zR hm), (1, zI s)] [] σa8 _
        have hMa8 := zMo_f2 fr8 hMa6
        have hNa8 : zia σa8 (A 0) = N := mPw_N (σ := σa6) hMa6 fr8 (by decide) (by decide) hNa6
        refine zF_iinc 86 (ls' := [(2, zI (((x : Nat) : Int) + 1)), (3, zI (mSh N s ((x : Nat) : Int))), (0, zR hm), (1, zI s)]) dX12_format_83 rfl rfl rfl (by decide) rfl ?_
        refine zF_goto 46 dX12_format_86 rfl ?_
        exact zF_locs (ls' := [(2, zI (((x + 1) : Nat) : Int)), (0, zR hm), (1, zI s)]) ⟨zlI rfl (by first | rfl | omega | (push_cast; omega) | exact congrArg (_ + ·) (zbT (by assumption)) | exact congrArg (_ + ·) (zbF (by assumption)) | exact congrArg (_ + ·) (zbT (by omega)) | exact congrArg (_ + ·) (zbF (by omega)) | exact congrArg (_ + ·) (if_pos (by omega)).symm | exact congrArg (_ + ·) (if_neg (by omega)).symm | exact (if_pos (by omega)).symm | exact (if_neg (by omega)).symm | exact zsub_s (if_pos (by omega)).symm | exact zsub_s0 (if_neg (by omega)).symm | exact zadd0 (if_neg (by omega)).symm | exact zadd0 (zbF (by omega)) | exact (Int.sub_zero _).symm), rfl, rfl, trivial⟩ (ih46 (x + 1) _ (by omega) (⟨by omega, ((((f2).tr (mPw_fm fr6))).tr (mPw_fm fr8)), (mPw_F (σ := σa6) hMa6 fr8 (by decide) (mPw_F (σ := σ2) hM2 fr6 (by decide) h52)), mWr_dy (if_pos (by omega)) p8⟩))
  · refine zF_aload_n 14 dX12_format_13 rfl rfl ?_
    refine zF_iconst 15 dX12_format_14 rfl ?_
    refine zF_callV 18 (d2 := (d + 11)) (as := [zI 1]) dX12_format_15 rfl kX12_238 iX12_raise (ci := 12) rfl eX12_raise (Nat.le_refl _) hM.1 hM.2.1 rfl rfl (Nat.le_of_ble_eq_true rfl) (zE.mono (zt_X12_raise hM) fun ro σx9 hh9 => ?_)
    obtain ⟨er9, es9⟩ := hh9
    subst er9
    subst es9
    refine ⟨rfl, ?_⟩
    exact zF_ireturn dX12_format_18 rfl (⟨_, rfl, mSc_fm (mSc_hm5 (mSc_hm5 zFr.rf)), by rw [if_neg (by omega)]; exact ⟨mSc_hm5 (mSc_hm5 zFr.rf), (zsi_same _ _ _ _)⟩⟩)
theorem lC_eq (e : ∀ k, k ≠ 11 → zia σ1 (B0 k) = zia σ (B0 k)) (h : lC S Sn sf σ) : lC S Sn sf σ1 := by
  obtain ⟨⟨a, nx, b1, b2, b3, b4⟩, c, c2, c3⟩ := h
  exact ⟨⟨cR_congr2 (fun i h0 h1 => e i (by omega)) a, nx, by rw [e 600 (by decide)]; exact b1, by rw [e 600 (by decide)]; exact b2, b3, fun k k0 k1 => cRs_eq (fun i hi => e _ (by unfold slb; omega)) (b4 k k0 k1)⟩, by rw [e 408 (by decide)]; exact c, by rw [e 600 (by decide)]; exact c2, fun q => cRs_eq (fun i hi => e _ (by omega)) (c3 q)⟩
theorem lTc_eq (e : ∀ k, k ≠ 11 → zia σ1 (B0 k) = zia σ (B0 k)) (h : lTc cc ep t σ) : lTc cc ep t σ1 := by
  unfold lTc at h ⊢
  rw [e 0 (by decide), e 10 (by decide)]
  exact h
theorem lMd_eq (e : ∀ k, zia σ1 (A0 k) = zia σ (A0 k)) (em : zia σ1 228 = zia σ 228) (h : lMd S Sn sf cc ep t l σ) : lMd S Sn sf cc ep t l σ1 := by
  unfold lMd lM lTm mST mHr hrow snap mWr at h ⊢
  rw [e 0, e 1, e 2, e 3, e 16, e 18, em]
  exact h
theorem sbS_v (hs : lSh σ) (hb : lB n σ) (hv : lVv vv) (s : sbS σ σ1 (B0 11) vv vv1 cap cap1) : lVv vv1 := by
  have h1 := hs.1
  have h2 := hb.2.1
  have h3 := hb.1
  have : zbg = 1000000 := rfl
  rcases s.2.2.2 with q | q
  · rw [q.2.2.2.2]; exact hv
  · rw [q.2.2.2.2.2]; exact Or.inr ⟨h1, by omega⟩
theorem lB_gb (hn : n < 512) (hb : lB n σ) (s : sbS σ σ1 (B0 11) vv vv1 cap cap1) : lB (n + 1) σ1 := by
  unfold lB at hb ⊢
  rcases s.2.2.2 with q | q <;> omega
theorem sbS_i (hv : lVv vv) (hv1 : lVv vv1) (s : sbS σ σ1 (B0 11) vv vv1 cap cap1) : (∀ k, k ≠ 11 → zia σ1 (B0 k) = zia σ (B0 k)) ∧ (∀ k, zia σ1 (A0 k) = zia σ (A0 k)) ∧ zia σ1 228 = zia σ 228 :=
  ⟨fun k hk => funext fun j => s.2.2.1 _ _ (fun e => absurd e (hv1.b k)) (fun e => hk (B0_inj _ _ e)) (hv.b k), fun k => funext fun j => s.2.2.1 _ _ (fun e => absurd e (hv1.a k)) (A0_B0 k 11) (hv.a k), funext fun j => s.2.2.1 _ _ (fun e => absurd e.symm hv1.m.1) (fun e => B0_228 11 e.symm) hv.m.1.symm⟩
theorem lSb (hs : lSh σ) (hb : lB n σ) (hv : lVv vv) : cSb σ B0 vv ∧ zn σ + 7 < zbg := by
  have h1 := hs.1
  have h2 := hb.2.1
  have h3 := hb.1
  have : zbg = 1000000 := rfl
  refine ⟨⟨hv.b, fun k => ?_, by omega⟩, by omega⟩
  have := B0_lt k
  omega
theorem fmL_b (hV : mV N) {s : Int} (s0 : 0 ≤ s) (s1 : s < N 1) : lXl (fmL N s) := by
  have hn := hV.n
  have hS := hV.s s s0 (by omega)
  have z : ∀ x ∈ zsbi 24, 0 ≤ x ∧ x < 128 := by decide +kernel
  have q := fmD_b (N := N) ⟨s0, by omega⟩ (fun n _ => by unfold mSh; split <;> omega) 7 (Nat.le_refl _)
  refine ⟨by rw [fmL_len]; split <;> omega, fun x hx => ?_⟩
  unfold fmL at hx
  split at hx
  · exact q x hx
  · rcases List.mem_append.mp hx with hx | hx
    · exact q x hx
    · exact z x hx
theorem mFm_3 {j : Int} {k : Nat} (q : mFm 228 A0 (A0 k) j) : 3 < k ∧ k ≠ 18 := by
  rcases q with (⟨e, _⟩ | e) | ⟨e, _⟩ | e | e | e | e | e | e | e
  · exact absurd e (A0_228 k)
  · have := A0_inj _ _ e; omega
  · exact absurd e (A0_228 k)
  all_goals (have := A0_inj _ _ e; omega)
theorem mFm_5 {j : Int} (q : mFm 228 A0 228 j) : j = 17 ∨ j = 5 ∨ j = 12 ∨ j = 13 := by
  rcases q with (⟨_, e⟩ | e) | ⟨_, e⟩ | e | e | e | e | e | e | e
  · omega
  · exact absurd e.symm (A0_228 _)
  · omega
  all_goals exact absurd e.symm (A0_228 _)
theorem fM_fm : fM (mFm 228 A0) := fun h j z => by
  rcases z with (⟨e, _⟩ | e) | z
  · exact Or.inl e
  · exact Or.inr ⟨_, e⟩
  · exact fM_sc h j z
/-- the reference's new line -/
theorem lMd.fm {l1 : List Int} (f : zFr (mFm 228 A0) σ σ1) (h : lMd S Sn sf cc ep t l σ) (w : mWr σ1 228 A0 l1) : lMd S Sn sf cc ep t l1 σ1 := by
  have ea : ∀ k, ¬ (3 < k ∧ k ≠ 18) → zia σ1 (A0 k) = zia σ (A0 k) := fun k q => f.at fun j z => q (mFm_3 z)
  have em : ∀ j, ¬ (j = 17 ∨ j = 5 ∨ j = 12 ∨ j = 13) → zia σ1 228 j = zia σ 228 j := fun j q => f.2.2.2.2.2 _ _ fun z => q (mFm_5 z)
  obtain ⟨⟨⟨a1, a2, a3⟩, a4, a5, a6⟩, ⟨b1, b2, b3⟩, -⟩ := h
  exact ⟨⟨⟨(ea 0 (by decide)).trans a1, (em _ (by decide)).trans a2, mHr_fr a3 f fun j z => by have := mFm_3 z; omega⟩, (em _ (by decide)).trans a4, fun q => (snap_fr f fun j z => by have := mFm_3 z; omega).trans (a5 q), fun j => by rw [ea 1 (by decide)]; exact a6 j⟩, ⟨(em _ (by decide)).trans b1, (em _ (by decide)).trans b2, fun j x y => by rw [ea 18 (by decide)]; exact b3 j x y⟩, w⟩
/-- what the class's format gives -/
def QFm (N : Int → Int) (s : Int) (vv cap : Nat) (σ : zMem) (ro : zRes) (σ1 : zMem) : Prop := if 0 ≤ s ∧ s < N 1 then ro = .inl (some (zI ((fmL N s).length : Int))) ∧ ∃ vv1 cap1, sbI σ1 (B0 11) vv1 cap1 (fmL N s) ∧ sbS σ σ1 (B0 11) vv vv1 cap cap1 else ro = .inr eNSE ∧ σ1 = zus σ 1 6
theorem lQ_fm {s : Int} (hs : lSh σ) : ∀ r σ1, QFm N s vv cap σ r σ1 → lQ σ 245 r σ1 := fun r σ1 h => by
  unfold QFm at h
  split at h
  · obtain ⟨e, v1, c1, _, g⟩ := h
    exact ⟨⟨(hs.gb g).ol, (hs.gb g).ok⟩, Or.inl ⟨_, e⟩⟩
  · obtain ⟨e, f⟩ := h
    subst f
    exact ⟨⟨hs.ol, hs.ok⟩, Or.inr (Or.inl ⟨e, rfl⟩)⟩
theorem nI_fm {s : Int} : ∀ σ1, ¬ QFm N s vv cap σ (.inr eIAE) σ1 := fun σ1 h => by
  unfold QFm at h
  split at h
  · cases h.1
  · exact absurd h.1.symm (by decide)
theorem lq_fm {s : Int} {ro : zRes} (hn : n < 512) (J : lJ n S Sn sf cc ep t l vv cap σ) (h : lP (QFm S.1 s vv cap σ) 245 1 ro σ1) : (0 ≤ s ∧ s < S.1 1 ∧ ro = .inl (some (zI 0)) ∧ zia σ1 245 0 = zw32 ((fmL S.1 s).length : Int) ∧ ∃ vv1 cap1, (lSh σ1 ∧ lB (n + 1) σ1 ∧ lVv vv1) ∧ lCl S Sn sf cc ep t (fmL S.1 s) vv1 cap1 σ1 ∧ lMd S Sn sf cc ep t l σ1) ∨ (¬ (0 ≤ s ∧ s < S.1 1) ∧ ro = .inl (some (zI 1)) ∧ (lSh σ1 ∧ lB (n + 1) σ1) ∧ lCl S Sn sf cc ep t l vv cap σ1 ∧ lMd S Sn sf cc ep t l σ1) := by
  obtain ⟨⟨hs, hb, hv⟩, -, hc, hm⟩ := J
  obtain ⟨r, σ2, hr, hp⟩ := h
  unfold QFm at hr
  split at hr
  · rename_i q
    obtain ⟨er, v1, c1, hI, g⟩ := hr
    subst er
    rcases hp with ⟨w, e1, e2, e3⟩ | ⟨e1, _⟩ | ⟨e1, _⟩
    · have ew : ((fmL S.1 s).length : Int) = w := by injection e1 with e1; injection e1 with e1; injection e1
      subst ew
      subst e3
      have hv1 := sbS_v hs hb hv g
      obtain ⟨i1, i2, i3⟩ := sbS_i hv hv1 g
      have s2 := hs.gb g
      exact Or.inl ⟨q.1, q.2, e2, o_at _ _, v1, c1, ⟨s2.o, (lB_gb hn hb g).o, hv1⟩, (show lCl S Sn sf cc ep t (fmL S.1 s) v1 c1 σ2 from ⟨lC_eq i1 hc.1, lTc_eq i1 hc.2.1, hI⟩).o s2 hv1, (lMd_eq i2 i3 hm).o⟩
    · cases e1
    · cases e1
  · rename_i q
    obtain ⟨er, f⟩ := hr
    subst er
    subst f
    rcases hp with ⟨w, e1, e2, e3⟩ | ⟨e1, e2, e3⟩ | ⟨e1, _⟩
    · cases e1
    · subst e3
      exact Or.inr ⟨q, e2, ⟨hs.us, hb.us hn⟩, hc.us, hm.us⟩
    · exact absurd e1 (by decide)
theorem lw_format (hg : lGd G L xs) (i0 : 0 ≤ i) (i6 : i + 6 ≤ (L : Int)) (hn : n < 512) (J : lI n σ) (K : ∀ σ1, lI (n + 1) σ1 → zF G mL_law (d + 40) 2286 (lLs i) [] σ1 Q) : zF G mL_law (d + 40) 2099 (lLs i) [] σ Q := by
  obtain ⟨S, Sn, sf, cc, ep, t, l, vv, cap, J⟩ := J
  obtain ⟨⟨hs, hb, hv⟩, ⟨hD, hT, hL⟩, hc, hm⟩ := id J
  obtain ⟨hGd, hG, hOD, hOP, hX, hNx⟩ := hg
  have gn := hD.gn
  have hR := hc.1.1.1
  have hbs := lSb hs hb hv
  show zF G mL_law (d + 40) 2099 [(0, zR (zbg + 500)), (1, zR (B0 0)), (2, zR 228), (3, zR 245), (4, zI i)] [] σ _
  refine zF_aload_n 2100 dL_law_2099 rfl rfl ?_
  refine zF_aload_n 2101 dL_law_2100 rfl rfl ?_
  refine zF_iload 2103 dL_law_2101 rfl rfl ?_
  refine zF_iconst 2104 dL_law_2103 rfl ?_
  refine zF_iadd 2105 dL_law_2104 rfl ?_
  refine zF_sload 2106 dL_law_2105 rfl hX (by omega) (by omega) ?_
  refine zF_aload_n 2107 dL_law_2106 rfl rfl ?_
  refine zF_callSH 2110 (d2 := d + 39) (as := [zR (B0 0), zI (lx xs i 1), zR 245]) (rest := []) dL_law_2107 rfl kLH_format sL_format (by omega) rfl rfl (Nat.le_of_ble_eq_true rfl) ⟨zwO, zwR hs.bl, zwR hs.ml, zwR hs.ol, trivial, trivial⟩ trivial (zEH.mono (zl_format (d2 := d + 10) (by omega) hs.bk hs.bl hs.ol ((zt_X11_format hGd hG hOD hs.cO hR gn.v gn.x hbs.1 hbs.2 hc.2.2 (zrg_x _)).mono fun _ _ h => (h : QFm S.1 _ vv cap σ _ _)) (lQ_fm hs) nI_fm) fun ro σ1 hh => ?_)
  rcases lq_fm hn J hh with ⟨q0, q1, er, ev, vv1, cap1, ⟨s1, b1, hv1⟩, c1, m1⟩ | ⟨q0, er, ⟨s1, b1⟩, c1, m1⟩ <;> subst er <;> refine ⟨_, rfl, ?_⟩
  · show zF G _ _ _ _ [zI _] σ1 _
    refine zF_istore 2112 (ls' := (5, zI _) :: lLs i) dL_law_2110 rfl (by decide) rfl ?_
    have hN1 := m1.1.1.1
    refine zF_aload_n 2113 dL_law_2112 rfl rfl ?_
    refine zF_aload_n 2114 dL_law_2113 rfl rfl ?_
    refine zF_iload 2116 dL_law_2114 rfl rfl ?_
    refine zF_iconst 2117 dL_law_2116 rfl ?_
    refine zF_iadd 2118 dL_law_2117 rfl ?_
    refine zF_sload 2119 dL_law_2118 rfl hX (by omega) (by omega) ?_
    refine zF_callV 2122 (d2 := d + 12) (as := [zI (lx xs i 1)]) dL_law_2119 rfl kLX12_format iX12_format (ci := 12) rfl eX12_format (by omega) s1.zMo.1 s1.zMo.2.1 rfl rfl (Nat.le_of_ble_eq_true rfl) (zE.mono (zt_X12_format2 hG s1.zMo hN1 gn.v gn.x (zrg_x _)) fun r σ2 hh2 => ?_)
    obtain ⟨x, er2, f2, hh3⟩ := hh2
    subst er2
    refine ⟨f2.1, ?_⟩
    show zF G _ _ _ _ [zI x] σ2 _
    refine zF_istore 2124 (ls' := (6, zI x) :: (5, zI _) :: lLs i) dL_law_2122 rfl (by decide) rfl ?_
    rw [if_pos ⟨q0, q1⟩] at hh3
    obtain ⟨e5, ex, hw⟩ := hh3
    replace ev := (congrFun (f2.at (fM_245 fM_fm)) 0).trans ev
    have s2 := s1.fr f2
    refine lw_tail 2124 dL_law_2124 dL_law_2125 dL_law_2128 dL_law_2130 dL_law_2135 dL_law_2137 dL_law_2140 dL_law_2141 dL_law_2142 dL_law_2143 dL_law_2145 dL_law_2146 dL_law_2147 dL_law_2152 (by decide) lk3_0 rfl e5 (fun _ => ev) (fun _ => ex) s2 ?_
    exact K σ2 ⟨S, Sn, sf, cc, ep, t, _, vv1, cap1, ⟨s2, b1.fr f2, hv1⟩, ⟨hD.up (by push_cast; omega), hT, fmL_b gn.v q0 q1⟩, c1.fM s1 hv1 fM_fm f2, m1.fm f2 hw⟩
  · show zF G _ _ _ _ [zI _] σ1 _
    refine zF_istore 2112 (ls' := (5, zI _) :: lLs i) dL_law_2110 rfl (by decide) rfl ?_
    have hN1 := m1.1.1.1
    refine zF_aload_n 2113 dL_law_2112 rfl rfl ?_
    refine zF_aload_n 2114 dL_law_2113 rfl rfl ?_
    refine zF_iload 2116 dL_law_2114 rfl rfl ?_
    refine zF_iconst 2117 dL_law_2116 rfl ?_
    refine zF_iadd 2118 dL_law_2117 rfl ?_
    refine zF_sload 2119 dL_law_2118 rfl hX (by omega) (by omega) ?_
    refine zF_callV 2122 (d2 := d + 12) (as := [zI (lx xs i 1)]) dL_law_2119 rfl kLX12_format iX12_format (ci := 12) rfl eX12_format (by omega) s1.zMo.1 s1.zMo.2.1 rfl rfl (Nat.le_of_ble_eq_true rfl) (zE.mono (zt_X12_format2 hG s1.zMo hN1 gn.v gn.x (zrg_x _)) fun r σ2 hh2 => ?_)
    obtain ⟨x, er2, f2, hh3⟩ := hh2
    subst er2
    refine ⟨f2.1, ?_⟩
    show zF G _ _ _ _ [zI x] σ2 _
    refine zF_istore 2124 (ls' := (6, zI x) :: (5, zI _) :: lLs i) dL_law_2122 rfl (by decide) rfl ?_
    rw [if_neg q0] at hh3
    obtain ⟨f3, e5⟩ := hh3
    have s2 := s1.fr f2
    refine lw_tail 2124 dL_law_2124 dL_law_2125 dL_law_2128 dL_law_2130 dL_law_2135 dL_law_2137 dL_law_2140 dL_law_2141 dL_law_2142 dL_law_2143 dL_law_2145 dL_law_2146 dL_law_2147 dL_law_2152 (by decide) lk3_1 rfl e5 (fun h => absurd h (by decide)) (v := 0) (fun h => absurd h (by decide)) s2 ?_
    exact K σ2 ⟨S, Sn, sf, cc, ep, t, l, vv, cap, ⟨s2, b1.fr f2, hv⟩, ⟨hD.up (by push_cast; omega), hT, hL⟩, c1.fM s1 hv fM_fm f2, m1.sc f3⟩
theorem zby_m (a : Int) : zby a % 256 = a % 256 := by unfold zby; omega
theorem PBf_k {k : Nat} {j : Int} (q : PBf B0 (B0 k) j) : (k = 0 ∧ j = 1) ∨ k = 10 := by
  rcases q with ⟨e, c⟩ | e
  · exact Or.inl ⟨B0_inj _ _ e, c⟩
  · exact Or.inr (B0_inj _ _ e)
theorem fB_bf : fB (PBf B0) := fun h j z => by
  rcases z with ⟨z, _⟩ | z
  · exact ⟨0, z⟩
  · exact ⟨10, z⟩
theorem fM_pf : fM (mPf 228 A0) := fun h j z => by
  rcases z with ⟨e, _⟩ | e
  · exact Or.inl e
  · exact Or.inr ⟨18, e⟩
/-- the text after a feed -/
def ftx (t g : Int → Int) (cc : Int) : Int → Int := fun j => if cc ≤ j ∧ j < cc + 20 then zby (g (j - cc)) else t j
theorem lTt_f {g : Int → Int} (h : lTt cc ep t) (c : cc + 20 ≤ 700) : lTt (cc + 20) ep (ftx t g cc) := by
  obtain ⟨a, b, e⟩ := h
  refine ⟨by omega, b, fun j j0 j1 => ?_⟩
  unfold ftx
  split
  · have := zby_b (g (j - cc)); omega
  · exact e j j0 (by omega)
theorem lCl.fd {g : Int → Int} (s : lSh σ) (hv : lVv vv) (f : zFr (PBf B0) σ σ1) (e : zia σ1 (B0 0) ((1 : Nat) : Int) = cc + 20) (eb : ∀ j, zia σ1 (B0 10) j = if cc ≤ j ∧ j < cc + 20 then zby (g (j - cc)) else zia σ (B0 10) j) (h : lCl S Sn sf cc ep t l vv cap σ) : lCl S Sn sf (cc + 20) ep (ftx t g cc) l vv cap σ1 := by
  have z : ∀ k j, ¬ ((k = 0 ∧ j = 1) ∨ k = 10) → ¬ PBf B0 (B0 k) j := fun k j a b => a (PBf_k b)
  refine ⟨lC_fr f (fun k j a b => z _ _ (by omega)) (fun k j a b => z _ _ (by omega)) (z _ _ (by decide)) (z _ _ (by decide)) (z _ _ (by decide)) (z _ _ (by decide)) h.1, ⟨e, (f.2.2.2.2.2 _ _ (z _ _ (by decide))).trans h.2.1.2.1, fun j j0 j1 => ?_⟩, sbI_fr f (fun j => z _ _ (by omega)) (fun j q => by
    obtain ⟨k, e⟩ := fB_bf _ _ q
    exact hv.b k e.symm) h.2.2⟩
  rw [eb]
  unfold ftx
  split
  · rfl
  · exact h.2.1.2.2 j j0 (by omega)
theorem lMd.fd {g : Int → Int} (f : zFr (mPf 228 A0) σ σ1) (e : zia σ1 228 ((19 : Nat) : Int) = cc + 20) (eb : ∀ j, zia σ1 (A0 18) j = if cc ≤ j ∧ j < cc + 20 then g (j - cc) % 256 else zia σ (A0 18) j) (h : lMd S Sn sf cc ep t l σ) : lMd S Sn sf (cc + 20) ep (ftx t g cc) l σ1 := by
  have ea : ∀ k, k ≠ 18 → zia σ1 (A0 k) = zia σ (A0 k) := fun k q => f.at fun j z => by
    rcases z with ⟨e, _⟩ | e
    · exact A0_228 k e
    · exact q (A0_inj _ _ e)
  have em : ∀ j, j ≠ 5 → j ≠ 19 → zia σ1 228 j = zia σ 228 j := fun j q q2 => f.2.2.2.2.2 _ _ fun z => by
    rcases z with ⟨_, e⟩ | e
    · omega
    · exact absurd e.symm (A0_228 18)
  obtain ⟨⟨⟨a1, a2, a3⟩, a4, a5, a6⟩, ⟨b1, b2, b3⟩, c1, c2⟩ := h
  have n18 : ∀ k j, k ≠ 18 → ¬ mPf 228 A0 (A0 k) j := fun k j q z => by
    rcases z with ⟨e, _⟩ | e
    · exact A0_228 k e
    · exact q (A0_inj _ _ e)
  refine ⟨⟨⟨(ea 0 (by decide)).trans a1, (em _ (by decide) (by decide)).trans a2, mHr_fr a3 f fun j => n18 3 j (by decide)⟩, (em _ (by decide) (by decide)).trans a4, fun q => (snap_fr f fun j => n18 2 j (by decide)).trans (a5 q), fun j => by rw [ea 1 (by decide)]; exact a6 j⟩, ⟨e, (em _ (by decide) (by decide)).trans b2, fun j x y => ?_⟩, (em _ (by decide) (by decide)).trans c1, fun j hj => by rw [ea 16 (by decide)]; exact c2 j hj⟩
  rw [eb]
  unfold ftx
  split
  · rw [zby_m]
  · exact b3 j x (by omega)
theorem lw_feed (hg : lGd G L xs) (i0 : 0 ≤ i) (i6 : i + 6 ≤ (L : Int)) (hn : n < 512) (J : lI n σ) (K : ∀ σ1, lI (n + 1) σ1 → zF G mL_law (d + 40) 2286 (lLs i) [] σ1 Q) : zF G mL_law (d + 40) 212 (lLs i) [] σ Q := by
  obtain ⟨S, Sn, sf, cc, ep, t, l, vv, cap, J⟩ := J
  obtain ⟨⟨hs, hb, hv⟩, ⟨hD, hT, hL⟩, hc, hm⟩ := id J
  obtain ⟨hGd, hG, hOD, hOP, hX, hNx⟩ := hg
  have gn := hD.gn
  have hR := hc.1.1.1
  show zF G mL_law (d + 40) 212 [(0, zR (zbg + 500)), (1, zR (B0 0)), (2, zR 228), (3, zR 245), (4, zI i)] [] σ _
  by_cases c20 : cc + 20 ≤ 700
  · refine zF_aload_n 213 dL_law_212 rfl rfl ?_
    refine zF_aload_n 214 dL_law_213 rfl rfl ?_
    refine zF_iload 216 dL_law_214 rfl rfl ?_
    refine zF_iconst 217 dL_law_216 rfl ?_
    refine zF_iadd 218 dL_law_217 rfl ?_
    refine zF_sload 219 dL_law_218 rfl hX (by omega) (by omega) ?_
    refine zF_aload_n 220 dL_law_219 rfl rfl ?_
    refine zF_iload 222 dL_law_220 rfl rfl ?_
    refine zF_iconst 223 dL_law_222 rfl ?_
    refine zF_iadd 224 dL_law_223 rfl ?_
    refine zF_sload 225 dL_law_224 rfl hX (by omega) (by omega) ?_
    refine zF_aload_n 226 dL_law_225 rfl rfl ?_
    refine zF_iload 228 dL_law_226 rfl rfl ?_
    refine zF_iconst 229 dL_law_228 rfl ?_
    refine zF_iadd 230 dL_law_229 rfl ?_
    refine zF_sload 231 dL_law_230 rfl hX (by omega) (by omega) ?_
    refine zF_aload_n 232 dL_law_231 rfl rfl ?_
    refine zF_iload 234 dL_law_232 rfl rfl ?_
    refine zF_iconst 235 dL_law_234 rfl ?_
    refine zF_iadd 236 dL_law_235 rfl ?_
    refine zF_sload 237 dL_law_236 rfl hX (by omega) (by omega) ?_
    refine zF_aload_n 238 dL_law_237 rfl rfl ?_
    refine zF_iload 240 dL_law_238 rfl rfl ?_
    refine zF_iconst 241 dL_law_240 rfl ?_
    refine zF_iadd 242 dL_law_241 rfl ?_
    refine zF_sload 243 dL_law_242 rfl hX (by omega) (by omega) ?_
    refine zF_callV 246 (d2 := d + 6) (as := [zI (lx xs i 1), zI (lx xs i 2), zI (lx xs i 3), zI (lx xs i 4), zI (lx xs i 5)]) dL_law_243 rfl kLX11_feed iX11_feed (ci := 11) rfl eX11_feed (by omega) hs.bk hs.bl rfl rfl (Nat.le_of_ble_eq_true rfl) (zE.mono (zt_X11_feed hs.cO hs.tl.1 hs.tl.2 hc.2.1.1 hT.1.1 hT.1.2 (zrg_x _) (zrg_x _) (zrg_x _) (zrg_x _) (zrg_x _)) fun r σ1 hh => ?_)
    rw [if_pos c20] at hh
    obtain ⟨er, f, q1, q2⟩ := hh
    subst er
    refine ⟨f.1, ?_⟩
    show zF G _ _ _ _ [zI _] σ1 _
    have s1 := hs.fr f
    have c1 := hc.fd hs hv f q1 q2
    have m1 := hm.fB fB_bf f
    refine zF_aload_n 247 dL_law_246 rfl rfl ?_
    refine zF_aload_n 248 dL_law_247 rfl rfl ?_
    refine zF_iload 250 dL_law_248 rfl rfl ?_
    refine zF_iconst 251 dL_law_250 rfl ?_
    refine zF_iadd 252 dL_law_251 rfl ?_
    refine zF_sload 253 dL_law_252 rfl hX (by omega) (by omega) ?_
    refine zF_aload_n 254 dL_law_253 rfl rfl ?_
    refine zF_iload 256 dL_law_254 rfl rfl ?_
    refine zF_iconst 257 dL_law_256 rfl ?_
    refine zF_iadd 258 dL_law_257 rfl ?_
    refine zF_sload 259 dL_law_258 rfl hX (by omega) (by omega) ?_
    refine zF_aload_n 260 dL_law_259 rfl rfl ?_
    refine zF_iload 262 dL_law_260 rfl rfl ?_
    refine zF_iconst 263 dL_law_262 rfl ?_
    refine zF_iadd 264 dL_law_263 rfl ?_
    refine zF_sload 265 dL_law_264 rfl hX (by omega) (by omega) ?_
    refine zF_aload_n 266 dL_law_265 rfl rfl ?_
    refine zF_iload 268 dL_law_266 rfl rfl ?_
    refine zF_iconst 269 dL_law_268 rfl ?_
    refine zF_iadd 270 dL_law_269 rfl ?_
    refine zF_sload 271 dL_law_270 rfl hX (by omega) (by omega) ?_
    refine zF_aload_n 272 dL_law_271 rfl rfl ?_
    refine zF_iload 274 dL_law_272 rfl rfl ?_
    refine zF_iconst 275 dL_law_274 rfl ?_
    refine zF_iadd 276 dL_law_275 rfl ?_
    refine zF_sload 277 dL_law_276 rfl hX (by omega) (by omega) ?_
    refine zF_callV 280 (d2 := d + 6) (as := [zI (lx xs i 1), zI (lx xs i 2), zI (lx xs i 3), zI (lx xs i 4), zI (lx xs i 5)]) dL_law_277 rfl kLX12_feed iX12_feed (ci := 12) rfl eX12_feed (by omega) s1.zMo.1 s1.zMo.2.1 rfl rfl (Nat.le_of_ble_eq_true rfl) (zE.mono (zt_X12_feed s1.zMo m1.2.1.1 hT.1.1 hT.1.2 (zrg_x _) (zrg_x _) (zrg_x _) (zrg_x _) (zrg_x _)) fun r σ2 hh2 => ?_)
    rw [if_pos c20] at hh2
    obtain ⟨er2, f2, _, q3, q4⟩ := hh2
    subst er2
    refine ⟨f2.1, ?_⟩
    show zF G _ _ _ _ [zI _, zI _] σ2 _
    refine lq_end dL_law_280 rfl rfl rfl ?_
    exact K σ2 ⟨S, Sn, sf, cc + 20, ep, _, l, vv, cap, ⟨s1.fr f2, ((hb.fr f).fr f2).up hn, hv⟩, ⟨hD.up (by push_cast; omega), lTt_f hT c20, hL⟩, c1.fM s1 hv fM_pf f2, m1.fd f2 q3 q4⟩
  · refine zF_aload_n 213 dL_law_212 rfl rfl ?_
    refine zF_aload_n 214 dL_law_213 rfl rfl ?_
    refine zF_iload 216 dL_law_214 rfl rfl ?_
    refine zF_iconst 217 dL_law_216 rfl ?_
    refine zF_iadd 218 dL_law_217 rfl ?_
    refine zF_sload 219 dL_law_218 rfl hX (by omega) (by omega) ?_
    refine zF_aload_n 220 dL_law_219 rfl rfl ?_
    refine zF_iload 222 dL_law_220 rfl rfl ?_
    refine zF_iconst 223 dL_law_222 rfl ?_
    refine zF_iadd 224 dL_law_223 rfl ?_
    refine zF_sload 225 dL_law_224 rfl hX (by omega) (by omega) ?_
    refine zF_aload_n 226 dL_law_225 rfl rfl ?_
    refine zF_iload 228 dL_law_226 rfl rfl ?_
    refine zF_iconst 229 dL_law_228 rfl ?_
    refine zF_iadd 230 dL_law_229 rfl ?_
    refine zF_sload 231 dL_law_230 rfl hX (by omega) (by omega) ?_
    refine zF_aload_n 232 dL_law_231 rfl rfl ?_
    refine zF_iload 234 dL_law_232 rfl rfl ?_
    refine zF_iconst 235 dL_law_234 rfl ?_
    refine zF_iadd 236 dL_law_235 rfl ?_
    refine zF_sload 237 dL_law_236 rfl hX (by omega) (by omega) ?_
    refine zF_aload_n 238 dL_law_237 rfl rfl ?_
    refine zF_iload 240 dL_law_238 rfl rfl ?_
    refine zF_iconst 241 dL_law_240 rfl ?_
    refine zF_iadd 242 dL_law_241 rfl ?_
    refine zF_sload 243 dL_law_242 rfl hX (by omega) (by omega) ?_
    refine zF_callV 246 (d2 := d + 6) (as := [zI (lx xs i 1), zI (lx xs i 2), zI (lx xs i 3), zI (lx xs i 4), zI (lx xs i 5)]) dL_law_243 rfl kLX11_feed iX11_feed (ci := 11) rfl eX11_feed (by omega) hs.bk hs.bl rfl rfl (Nat.le_of_ble_eq_true rfl) (zE.mono (zt_X11_feed hs.cO hs.tl.1 hs.tl.2 hc.2.1.1 hT.1.1 hT.1.2 (zrg_x _) (zrg_x _) (zrg_x _) (zrg_x _) (zrg_x _)) fun r σ1 hh => ?_)
    rw [if_neg c20] at hh
    obtain ⟨er, es⟩ := hh
    subst er
    subst es
    refine ⟨rfl, ?_⟩
    show zF G _ _ _ _ [zI _] σ1 _
    have s1 := hs
    have c1 := hc
    have m1 := hm
    refine zF_aload_n 247 dL_law_246 rfl rfl ?_
    refine zF_aload_n 248 dL_law_247 rfl rfl ?_
    refine zF_iload 250 dL_law_248 rfl rfl ?_
    refine zF_iconst 251 dL_law_250 rfl ?_
    refine zF_iadd 252 dL_law_251 rfl ?_
    refine zF_sload 253 dL_law_252 rfl hX (by omega) (by omega) ?_
    refine zF_aload_n 254 dL_law_253 rfl rfl ?_
    refine zF_iload 256 dL_law_254 rfl rfl ?_
    refine zF_iconst 257 dL_law_256 rfl ?_
    refine zF_iadd 258 dL_law_257 rfl ?_
    refine zF_sload 259 dL_law_258 rfl hX (by omega) (by omega) ?_
    refine zF_aload_n 260 dL_law_259 rfl rfl ?_
    refine zF_iload 262 dL_law_260 rfl rfl ?_
    refine zF_iconst 263 dL_law_262 rfl ?_
    refine zF_iadd 264 dL_law_263 rfl ?_
    refine zF_sload 265 dL_law_264 rfl hX (by omega) (by omega) ?_
    refine zF_aload_n 266 dL_law_265 rfl rfl ?_
    refine zF_iload 268 dL_law_266 rfl rfl ?_
    refine zF_iconst 269 dL_law_268 rfl ?_
    refine zF_iadd 270 dL_law_269 rfl ?_
    refine zF_sload 271 dL_law_270 rfl hX (by omega) (by omega) ?_
    refine zF_aload_n 272 dL_law_271 rfl rfl ?_
    refine zF_iload 274 dL_law_272 rfl rfl ?_
    refine zF_iconst 275 dL_law_274 rfl ?_
    refine zF_iadd 276 dL_law_275 rfl ?_
    refine zF_sload 277 dL_law_276 rfl hX (by omega) (by omega) ?_
    refine zF_callV 280 (d2 := d + 6) (as := [zI (lx xs i 1), zI (lx xs i 2), zI (lx xs i 3), zI (lx xs i 4), zI (lx xs i 5)]) dL_law_277 rfl kLX12_feed iX12_feed (ci := 12) rfl eX12_feed (by omega) s1.zMo.1 s1.zMo.2.1 rfl rfl (Nat.le_of_ble_eq_true rfl) (zE.mono (zt_X12_feed s1.zMo m1.2.1.1 hT.1.1 hT.1.2 (zrg_x _) (zrg_x _) (zrg_x _) (zrg_x _) (zrg_x _)) fun r σ2 hh2 => ?_)
    rw [if_neg c20] at hh2
    obtain ⟨x, er2, en2, e5, ex, eo, ⟨s2, b2⟩, c2, m2⟩ := lq_mop hs hb hv hc hm (mop_5 hh2)
    subst er2
    refine ⟨en2, ?_⟩
    show zF G _ _ _ _ [zI _, zI _] σ2 _
    refine lq_end dL_law_280 rfl rfl (ex rfl) ?_
    exact K σ2 ⟨S, Sn, sf, cc, ep, t, l, vv, cap, ⟨s2, b2.up hn, hv⟩, ⟨hD.up (by push_cast; omega), hT, hL⟩, c2, m2⟩
end ZLW

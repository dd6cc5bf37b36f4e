/-! the reference: program -/
section ZQ8
variable {G : zG} {d : Nat} {σ : zMem} {hm : Nat} {A : Nat → Nat} {N : Int → Int}
theorem prN_now (hV : mV N) {h : Int} {b : Int → Int} {x : Nat} (hx : x < nn N h) {k : Int} (k0 : 0 ≤ k) (k1 : k < 8) : mS (prN N h b x) (rk N h x) k = mS N (rk N h x) k := by
  have hn := hV.n
  have r := rk_b hV (h := h) (k := (x : Int)) (by omega) (by omega)
  rcases prN_at hV (h := h) (b := b) (n := x) (by omega) (rk N h x) k r.1 (by omega) k0 k1 with z | ⟨i, i1, i2, _⟩
  · exact z.2
  · exact absurd i2 (rk_ne N h (by omega) hx (by omega))
theorem prN_held (hV : mV N) {h : Int} {b : Int → Int} {x : Nat} (hx : x < nn N h) : zb (mS (prN N h b x) (rk N h x) 7 = 1) = mS N (rk N h x) 7 := by
  have hn := hV.n
  have r := rk_b hV (h := h) (k := (x : Int)) (by omega) (by omega)
  have q := hV.s (rk N h x) r.1 (by omega)
  have e := prN_now hV (b := b) hx (k := 7) (by omega) (by omega)
  by_cases c : mS N (rk N h x) 7 = 1
  · rw [← zbT (by omega), c]
  · rw [← zbF (by omega)]; omega
theorem prC_b (N : Int → Int) (h : Int) (b : Int → Int) (n : Nat) : 0 ≤ prC N h b n ∧ prC N h b n ≤ n := by
  have x := zsum_ge (f := fun k => zb (mS N (rk N h k) 4 ≠ b k ∨ mS N (rk N h k) 5 ≠ -1)) (n := n) (a := 0) fun i _ => zb_ge _
  have y := zsum_le (f := fun k => zb (mS N (rk N h k) 4 ≠ b k ∨ mS N (rk N h k) 5 ≠ -1)) (n := n) (a := 1) fun i _ => zb_le _
  unfold prC
  omega
theorem bF_b (hV : mV N) (hW : mW N) {h : Int} {b : Int → Int} (v : pVc (N 2) (ch0 N h) (nn N h) b) : ∀ k : Nat, k < nn N h → -1 ≤ b k ∧ b k < N 2 := fun k hk => by
  have q := v k hk
  have r := rk_b hV (h := h) (k := (k : Int)) (by omega) (by omega)
  rcases ch0_b hV (h := h) (k := (k : Int)) (by omega) (by omega) with ⟨a, e, e1, e2⟩ | ⟨a, e⟩
  · have := q.2 (by omega)
    have := hW (rk N h k) r.1 r.2.1
    omega
  · exact q.1 e
/-- the best program can be had -/
theorem gS_pr {T : Int} {S : zS} (g : gS T S) {h : Int} (h0 : 0 ≤ h) (h1 : h < S.1 0) (x : ∃ c, pLx S.1 h (lmP S.1 h) (ch0 S.1 h) c) (hb : 0 ≤ bG S.1 h (lmP S.1 h)) (hm : pMax S.1 h (lmP S.1 h) (ch0 S.1 h) (bG S.1 h (lmP S.1 h))) : gS T (oPrS S h) := by
  obtain ⟨c, x⟩ := x
  have hn := g.n.v.n
  have l := bF_sp x
  have gp : 0 ≤ pG S.1 h (lmP S.1 h) (bF S.1 h (lmP S.1 h)) := by
    obtain ⟨⟨t, t1, t2⟩, _⟩ := hm
    have := l.2.1 t t1
    omega
  obtain ⟨a, b⟩ := prN_gN g.n h0 h1 l.1 (pG_prints g.n.v g.n.q.c h0 (by omega) gp)
  exact gS_rec g a b
theorem zt_X12_program {H : Int → Int → Int} {u T : Int} {h : Int} (hM : zMo σ hm A) (hS : mST (N, H, u) σ hm A) (g : gS T (N, H, u)) (zrh : zrg h) : zE G mX12_program (d + 16) [zR hm, zI h] σ (mopM (if 0 ≤ h ∧ h < N 0 then 0 else 1) (oPrV N h) (N, H, u) (oPrS (N, H, u) h) hm A σ) := by
  refine zE_of rfl (by simp [zcat]) (Nat.le_of_ble_eq_true rfl) ?_
  show zF G mX12_program (d + 16) 0 [(0, zR hm), (1, zI h)] [] σ _
  obtain ⟨hN, hu, hh⟩ := hS
  have hN : zia σ (A 0) = N := hN
  have hu : zia σ hm ((4 : Nat) : Int) = u := hu
  have hh : mHr H u σ A := hh
  have gn : gN T N := g.n
  have hV := gn.v
  have hW := gn.w
  have hX := gn.x
  have hQ := gn.q
  have hb := hV.b
  have hn := hV.n
  have u0 : 0 ≤ u := g.2.1.1
  have u1 : u ≤ 10 := g.2.1.2
  have n0m := zMo_hm1 hM (k := 0) (by decide) zMo_h1
  have n3m := zMo_hm1 hM (k := 3) (by decide) zMo_h1
  refine zF_aload_n 1 dX12_program_0 rfl rfl ?_
  refine zF_iconst 2 dX12_program_1 rfl ?_
  refine zF_putI 5 dX12_program_2 rfl pX12_program_89 (Or.inl rfl) hM.1 hM.2.1 ?_
  refine zF_aload_n 6 dX12_program_5 rfl rfl ?_
  refine zF_iload_n 7 dX12_program_6 rfl rfl ?_
  refine zF_callVi 10 (d2 := (d + 15)) (as := [zI h]) dX12_program_7 rfl kX12_241 iX12_isHouse (ci := 12) rfl eX12_isHouse (Nat.le_refl _) hM.1 hM.2.1 rfl rfl (Nat.le_of_ble_eq_true rfl) (zn_X12_isHouse hM (zMo_hN (k := 0) hN hM (by decide) zMo_h1) (by first | decide | assumption | exact hbx _ | exact hb _ | exact zb_rg _ | (constructor <;> omega)) (by omega) (by omega)) ?_
  refine zF_ifb_ne 19 13 dX12_program_10 rfl rfl (fun c1 => ?_) (fun c1 => ?_)
  · refine zF_aload_n 20 dX12_program_19 rfl rfl ?_
    refine zF_callV 23 (d2 := (d + 15)) (as := []) dX12_program_20 rfl kX12_292 iX12_record (ci := 12) rfl eX12_record (Nat.le_refl _) hM.1 hM.2.1 rfl rfl (Nat.le_of_ble_eq_true rfl) (zE.mono (zt_X12_record hM (zsi_F (by decide) hu) u0 u1) fun ro σa1 hh1 => ?_)
    obtain ⟨er1, fr1, p1⟩ := hh1
    subst er1
    refine ⟨fr1.1, ?_⟩
    show zF G mX12_program (d + 16) 23 [(0, zR hm), (1, zI h)] [] σa1 _
    have hMa1 := zMo_f2 fr1 hM
    have hNa1 : zia σa1 (A 0) = N := (fr1.at fun j q => q.elim (zMo_ne hM (j := 0) (k := 3) (by decide) (by decide) (by decide)) (fun q => n0m q.1)).trans (zMo_hN (k := 0) hN hM (by decide) zMo_h1)
    have hha1 := mHr_rec (zMo_hN (k := 0) hN hM (by decide) zMo_h1) hQ.z (mHr_si hh n3m) u0 u1 ⟨fr1, p1⟩
    refine zF_aload_n 24 dX12_program_23 rfl rfl ?_
    refine zF_iload_n 25 dX12_program_24 rfl rfl ?_
    refine zF_callV 28 (d2 := (d + 15)) (as := [zI h]) dX12_program_25 rfl kX12_225 iX12_layBest (ci := 12) rfl eX12_layBest (Nat.le_refl _) hMa1.1 hMa1.2.1 rfl rfl (Nat.le_of_ble_eq_true rfl) (zE.mono (zt_X12_layBest (σ := σa1) hMa1 hNa1 hV hQ.c (by omega) (by omega)) fun ro σa2 hh2 => ?_)
    obtain ⟨er2, fr2, p2⟩ := hh2
    subst er2
    refine ⟨fr2.1, ?_⟩
    show zF G mX12_program (d + 16) 28 [(0, zR hm), (1, zI h)] [] σa2 _
    have hMa2 := zMo_f2 fr2 hMa1
    have hNa2 : zia σa2 (A 0) = N := mLb_N (σ := σa1) hMa1 hNa1 fr2
    refine zF_iconst 29 dX12_program_28 rfl ?_
    refine zF_istore_n 30 (ls' := [(2, zI 0), (0, zR hm), (1, zI h)]) dX12_program_29 rfl (by decide) rfl ?_
    refine zF_iconst 31 dX12_program_30 rfl ?_
    refine zF_istore_n 32 (ls' := [(3, zI 0), (2, zI 0), (0, zR hm), (1, zI h)]) dX12_program_31 rfl (by decide) rfl ?_
    refine zF_locs (ls' := [(3, zI ((0 : Nat) : Int)), (2, zI (prC N h (bF N h (lmP N h)) 0)), (0, zR hm), (1, zI h)]) ⟨zlI rfl (by first | rfl | omega | (push_cast; omega) | exact congrArg (_ + ·) (zbT (by omega)) | exact congrArg (_ + ·) (zbF (by omega))), zlI rfl (by first | rfl | omega | (push_cast; omega) | exact congrArg (_ + ·) (zbT (by omega)) | exact congrArg (_ + ·) (zbF (by omega))), rfl, rfl, trivial⟩ ?_
    refine zF_while (X := Nat) (fun x => nn N h - x) (fun x σ2 => x ≤ nn N h ∧ zFr (fun y _ => y = A 0) σa2 σ2 ∧ zia σ2 (A 0) = (prN N h (bF N h (lmP N h)) x)) (fun x => [(3, zI ((x : Nat) : Int)), (2, zI (prC N h (bF N h (lmP N h)) x)), (0, zR hm), (1, zI h)]) ?_ 0 σa2 (⟨by omega, zFr.rf, hNa2⟩)
    intro x σ2 hI32 ih32
    show zF G mX12_program (d + 16) 32 [(3, zI ((x : Nat) : Int)), (2, zI (prC N h (bF N h (lmP N h)) x)), (0, zR hm), (1, zI h)] [] σ2 _
    obtain ⟨hx, frp, hN2⟩ := hI32
    have hM2 := zMo_fr hMa2 frp
    have e12 : zia σ2 hm ((12 : Nat) : Int) = ((nn N h : Nat) : Int) := (frp.2.2.2.2.2 hm _ (fun q => n0m q.symm)).trans p2.1.1
    have e9 : ∀ k : Int, 0 ≤ k → k < (nn N h : Int) → zia σ2 (A 9) k = rk N h k := fun k a b => (frp.2.2.2.2.2 _ k (zMo_ne hM (j := 9) (k := 0) (by decide) (by decide) (by decide))).trans (p2.1.2 k a b)
    have hok := bG_ok hV hX hQ (h := h) (by omega) (by omega) ⟨_, p2.2.2.2.1⟩
    have e11 : ∀ k : Nat, k < nn N h → zia σ2 (A 11) k = (bF N h (lmP N h)) k := fun k a => (frp.2.2.2.2.2 _ k (zMo_ne hM (j := 11) (k := 0) (by decide) (by decide) (by decide))).trans (p2.2.2.1 hok k a)
    have hnn := nn_eq hQ.c h
    have hLx : pLx N h (lmP N h) (ch0 N h) (bF N h (lmP N h)) := p2.2.2.2.2 hok
    have hVx : mV (prN N h (bF N h (lmP N h)) x) := prN_V hV (bF_b hV hW hLx.1) x hx
    have hbx := hVx.b
    refine zF_iload_n 33 dX12_program_32 rfl rfl ?_
    refine zF_aload_n 34 dX12_program_33 rfl rfl ?_
    refine zF_getI 37 dX12_program_34 rfl gX12_199 (by decide) (by decide) hM2.1 hM2.2.1 e12 ?_
    refine zF_icmp_ge 122 40 dX12_program_37 rfl rfl (by first | decide | assumption | exact hbx _ | exact hb _ | exact zb_rg _ | (constructor <;> omega)) (by first | decide | assumption | exact hbx _ | exact hb _ | exact zb_rg _ | (constructor <;> omega)) (fun c2 => ?_) (fun c2 => ?_)
    · refine zF_iload_n 123 dX12_program_122 rfl rfl ?_
      exact zF_ireturn dX12_program_123 rfl (mopMR ((((mMu5 zFr.rf).tr (mMi_mu (mMi_C zFr.rf fr1))).tr (mMi_mu (mLb_mi fr2))).tr (mMi_mu (frp.wk fun _ _ q => Or.inr ⟨0, by decide, q⟩))) ((frp.2.2.2.2.2 hm _ (fun q => n0m q.symm)).trans (zFr_F fr2 (mLb_hm hMa1 (by decide)) (zFr_F fr1 (fun q => q.elim (fun q => n3m q.symm) (fun q => absurd q.2 (by decide))) (zsi_same _ _ _ _)))) (by repeat (first | rw [if_pos (by omega)] | rw [if_neg (by omega)])) (by unfold oPrV; rw [show x = nn N h by omega]) (S1 := oPrS (N, H, u) h) rfl ⟨(by have ex : x = nn N h := (by omega); show zia σ2 (A 0) = prN N h (bF N h (lmP N h)) (nn N h); rw [← ex]; exact hN2), (frp.2.2.2.2.2 hm _ (fun q => n0m q.symm)).trans (zFr_F fr2 (mLb_hm hMa1 (by decide)) p1.1), mHr_fr (mHr_fr hha1 fr2 (fun _ => mLb_no hM (by decide) (by decide) (by decide) (by decide))) frp (fun _ q => zMo_ne hM (j := 3) (k := 0) (by decide) (by decide) (by decide) q)⟩)
    · have hx2 : x < nn N h := by omega
      have rb := rk_b hV (h := h) (k := (x : Int)) (by omega) (by omega)
      have q4 := prN_now hV (b := (bF N h (lmP N h))) hx2 (k := 4) (by omega) (by omega)
      have q5 := prN_now hV (b := (bF N h (lmP N h))) hx2 (k := 5) (by omega) (by omega)
      have bb := bF_b hV hW hLx.1 x hx2
      have qs := hV.s (rk N h x) rb.1 (by omega)
      refine zF_aload_n 41 dX12_program_40 rfl rfl ?_
      refine zF_getR 44 dX12_program_41 rfl gX12_29 hM2.1 hM2.2.1 (zM_9 hM2).1 ?_
      refine zF_iload_n 45 dX12_program_44 rfl rfl ?_
      refine zF_iaload 46 dX12_program_45 rfl (zM_9 hM2).2.2 (zM_9 hM2).2.1 (by omega) (by omega) (e9 _ (by omega) (by omega)) ?_
      refine zF_istore 48 (ls' := [(4, zI (rk N h ((x : Nat) : Int))), (3, zI ((x : Nat) : Int)), (2, zI (prC N h (bF N h (lmP N h)) x)), (0, zR hm), (1, zI h)]) dX12_program_46 rfl (by decide) rfl ?_
      refine zF_aload_n 49 dX12_program_48 rfl rfl ?_
      refine zF_iload 51 dX12_program_49 rfl rfl ?_
      refine zF_iconst 52 dX12_program_51 rfl ?_
      refine zF_callVi 55 (d2 := (d + 15)) (as := [zI (rk N h ((x : Nat) : Int)), zI 4]) dX12_program_52 rfl kX12_119 iX12_of (ci := 12) rfl eX12_of (Nat.le_refl _) hM2.1 hM2.2.1 rfl rfl (Nat.le_of_ble_eq_true rfl) (zn_X12_of hM2 hN2 (by omega) (by omega)) ?_
      refine zF_aload_n 56 dX12_program_55 rfl rfl ?_
      refine zF_getR 59 dX12_program_56 rfl gX12_35 hM2.1 hM2.2.1 (zM_11 hM2).1 ?_
      refine zF_iload_n 60 dX12_program_59 rfl rfl ?_
      refine zF_iaload 61 dX12_program_60 rfl (zM_11 hM2).2.2 (zM_11 hM2).2.1 (by omega) (by omega) (e11 x (by omega)) ?_
      refine zF_icmp_ne 73 64 dX12_program_61 rfl rfl (by first | decide | assumption | exact hbx _ | exact hb _ | exact zb_rg _ | (constructor <;> omega)) (by first | decide | assumption | exact hbx _ | exact hb _ | exact zb_rg _ | (constructor <;> omega)) (fun c3 => ?_) (fun c3 => ?_)
      · refine zF_iconst 74 dX12_program_73 rfl ?_
        refine zF_goto 78 dX12_program_74 rfl ?_
        refine zF_istore 80 (ls' := [(5, zI 1), (4, zI (rk N h ((x : Nat) : Int))), (3, zI ((x : Nat) : Int)), (2, zI (prC N h (bF N h (lmP N h)) x)), (0, zR hm), (1, zI h)]) dX12_program_78 rfl (by decide) rfl ?_
        refine zF_iload_n 81 dX12_program_80 rfl rfl ?_
        refine zF_iload 83 dX12_program_81 rfl rfl ?_
        refine zF_if_eq 90 86 dX12_program_83 rfl rfl (by first | decide | assumption | exact hbx _ | exact hb _ | exact zb_rg _ | (constructor <;> omega)) (fun c4 => ?_) (fun c4 => ?_)
        · exact absurd c4 (by decide)
        · refine zF_iconst 87 dX12_program_86 rfl ?_
          refine zF_goto 91 dX12_program_87 rfl ?_
          refine zF_iadd 92 dX12_program_91 rfl ?_
          refine zF_istore_n 93 (ls' := [(2, zI ((prC N h (bF N h (lmP N h)) x) + 1)), (5, zI 1), (4, zI (rk N h ((x : Nat) : Int))), (3, zI ((x : Nat) : Int)), (0, zR hm), (1, zI h)]) dX12_program_92 rfl (by decide) rfl ?_
          refine zF_aload_n 94 dX12_program_93 rfl rfl ?_
          refine zF_getR 97 dX12_program_94 rfl gX12_9 hM2.1 hM2.2.1 (zM_0 hM2).1 ?_
          refine zF_iload 99 dX12_program_97 rfl rfl ?_
          refine zF_aload_n 100 dX12_program_99 rfl rfl ?_
          refine zF_getR 103 dX12_program_100 rfl gX12_35 hM2.1 hM2.2.1 (zM_11 hM2).1 ?_
          refine zF_iload_n 104 dX12_program_103 rfl rfl ?_
          refine zF_iaload 105 dX12_program_104 rfl (zM_11 hM2).2.2 (zM_11 hM2).2.1 (by omega) (by omega) (e11 x (by omega)) ?_
          refine zF_iconst 106 dX12_program_105 rfl ?_
          refine zF_iconst 107 dX12_program_106 rfl ?_
          refine zF_aload_n 108 dX12_program_107 rfl rfl ?_
          refine zF_iload 110 dX12_program_108 rfl rfl ?_
          refine zF_callVi 113 (d2 := (d + 15)) (as := [zI (rk N h ((x : Nat) : Int))]) dX12_program_110 rfl kX12_208 iX12_isHeld (ci := 12) rfl eX12_isHeld (Nat.le_refl _) hM2.1 hM2.2.1 rfl rfl (Nat.le_of_ble_eq_true rfl) (zn_X12_isHeld hM2 hN2 hbx (by omega) (by omega)) ?_
          refine zF_callS 116 (d2 := (d + 15)) (as := [zR (A 0), zI (rk N h ((x : Nat) : Int)), zI ((bF N h (lmP N h)) ((x : Nat) : Int)), zI (-1), zI 0, zI (zb (mS (prN N h (bF N h (lmP N h)) x) (rk N h ((x : Nat) : Int)) 7 = 1))]) dX12_program_113 rfl kX12_274 sX12_book (Nat.le_refl _) rfl rfl (Nat.le_of_ble_eq_true rfl) (zE.mono (zt_X12_book (zM_0 hM2).2.2 (zM_0 hM2).2.1 (by omega) (by omega) (zb01 _)) fun ro σa3 hh3 => ?_)
          obtain ⟨er3, fr3, p3⟩ := hh3
          subst er3
          refine ⟨fr3.1, ?_⟩
          show zF G mX12_program (d + 16) 116 [(2, zI ((prC N h (bF N h (lmP N h)) x) + 1)), (5, zI 1), (4, zI (rk N h ((x : Nat) : Int))), (3, zI ((x : Nat) : Int)), (0, zR hm), (1, zI h)] [] σa3 _
          have hMa3 := zMo_f2 fr3 hM2
          have hNa3 : zia σa3 (A 0) = (prN N h (bF N h (lmP N h)) (x + 1)) := by rw [p3, hN2, prN_held hV (by omega)]; rfl
          refine zF_iinc 119 (ls' := [(3, zI (((x : Nat) : Int) + 1)), (2, zI ((prC N h (bF N h (lmP N h)) x) + 1)), (5, zI 1), (4, zI (rk N h ((x : Nat) : Int))), (0, zR hm), (1, zI h)]) dX12_program_116 rfl rfl rfl (by decide) rfl ?_
          refine zF_goto 32 dX12_program_119 rfl ?_
          exact zF_locs (ls' := [(3, zI (((x + 1) : Nat) : Int)), (2, zI (prC N h (bF N h (lmP N h)) (x + 1))), (0, zR hm), (1, zI h)]) ⟨zlI rfl (by first | rfl | omega | (push_cast; omega) | exact congrArg (_ + ·) (zbT (by omega)) | exact congrArg (_ + ·) (zbF (by omega))), zlI rfl (by first | rfl | omega | (push_cast; omega) | exact congrArg (_ + ·) (zbT (by omega)) | exact congrArg (_ + ·) (zbF (by omega))), rfl, rfl, trivial⟩ (ih32 (x + 1) _ (by omega) (⟨by omega, frp.tr (fr3.wk fun _ _ q => q.1), hNa3⟩))
      · refine zF_aload_n 65 dX12_program_64 rfl rfl ?_
        refine zF_iload 67 dX12_program_65 rfl rfl ?_
        refine zF_callVi 70 (d2 := (d + 15)) (as := [zI (rk N h ((x : Nat) : Int))]) dX12_program_67 rfl kX12_125 iX12_isSplit (ci := 12) rfl eX12_isSplit (Nat.le_refl _) hM2.1 hM2.2.1 rfl rfl (Nat.le_of_ble_eq_true rfl) (zn_X12_isSplit hM2 hN2 hbx (by omega) (by omega)) ?_
        refine zF_ifb_eq 77 73 dX12_program_70 rfl rfl (fun c5 => ?_) (fun c5 => ?_)
        · refine zF_iconst 78 dX12_program_77 rfl ?_
          refine zF_istore 80 (ls' := [(5, zI 0), (4, zI (rk N h ((x : Nat) : Int))), (3, zI ((x : Nat) : Int)), (2, zI (prC N h (bF N h (lmP N h)) x)), (0, zR hm), (1, zI h)]) dX12_program_78 rfl (by decide) rfl ?_
          refine zF_iload_n 81 dX12_program_80 rfl rfl ?_
          refine zF_iload 83 dX12_program_81 rfl rfl ?_
          refine zF_if_eq 90 86 dX12_program_83 rfl rfl (by first | decide | assumption | exact hbx _ | exact hb _ | exact zb_rg _ | (constructor <;> omega)) (fun c6 => ?_) (fun c6 => ?_)
          · refine zF_iconst 91 dX12_program_90 rfl ?_
            refine zF_iadd 92 dX12_program_91 rfl ?_
            refine zF_istore_n 93 (ls' := [(2, zI ((prC N h (bF N h (lmP N h)) x) + 0)), (5, zI 0), (4, zI (rk N h ((x : Nat) : Int))), (3, zI ((x : Nat) : Int)), (0, zR hm), (1, zI h)]) dX12_program_92 rfl (by decide) rfl ?_
            refine zF_aload_n 94 dX12_program_93 rfl rfl ?_
            refine zF_getR 97 dX12_program_94 rfl gX12_9 hM2.1 hM2.2.1 (zM_0 hM2).1 ?_
            refine zF_iload 99 dX12_program_97 rfl rfl ?_
            refine zF_aload_n 100 dX12_program_99 rfl rfl ?_
            refine zF_getR 103 dX12_program_100 rfl gX12_35 hM2.1 hM2.2.1 (zM_11 hM2).1 ?_
            refine zF_iload_n 104 dX12_program_103 rfl rfl ?_
            refine zF_iaload 105 dX12_program_104 rfl (zM_11 hM2).2.2 (zM_11 hM2).2.1 (by omega) (by omega) (e11 x (by omega)) ?_
            refine zF_iconst 106 dX12_program_105 rfl ?_
            refine zF_iconst 107 dX12_program_106 rfl ?_
            refine zF_aload_n 108 dX12_program_107 rfl rfl ?_
            refine zF_iload 110 dX12_program_108 rfl rfl ?_
            refine zF_callVi 113 (d2 := (d + 15)) (as := [zI (rk N h ((x : Nat) : Int))]) dX12_program_110 rfl kX12_208 iX12_isHeld (ci := 12) rfl eX12_isHeld (Nat.le_refl _) hM2.1 hM2.2.1 rfl rfl (Nat.le_of_ble_eq_true rfl) (zn_X12_isHeld hM2 hN2 hbx (by omega) (by omega)) ?_
            refine zF_callS 116 (d2 := (d + 15)) (as := [zR (A 0), zI (rk N h ((x : Nat) : Int)), zI ((bF N h (lmP N h)) ((x : Nat) : Int)), zI (-1), zI 0, zI (zb (mS (prN N h (bF N h (lmP N h)) x) (rk N h ((x : Nat) : Int)) 7 = 1))]) dX12_program_113 rfl kX12_274 sX12_book (Nat.le_refl _) rfl rfl (Nat.le_of_ble_eq_true rfl) (zE.mono (zt_X12_book (zM_0 hM2).2.2 (zM_0 hM2).2.1 (by omega) (by omega) (zb01 _)) fun ro σa4 hh4 => ?_)
            obtain ⟨er4, fr4, p4⟩ := hh4
            subst er4
            refine ⟨fr4.1, ?_⟩
            show zF G mX12_program (d + 16) 116 [(2, zI ((prC N h (bF N h (lmP N h)) x) + 0)), (5, zI 0), (4, zI (rk N h ((x : Nat) : Int))), (3, zI ((x : Nat) : Int)), (0, zR hm), (1, zI h)] [] σa4 _
            have hMa4 := zMo_f2 fr4 hM2
            have hNa4 : zia σa4 (A 0) = (prN N h (bF N h (lmP N h)) (x + 1)) := by rw [p4, hN2, prN_held hV (by omega)]; rfl
            refine zF_iinc 119 (ls' := [(3, zI (((x : Nat) : Int) + 1)), (2, zI ((prC N h (bF N h (lmP N h)) x) + 0)), (5, zI 0), (4, zI (rk N h ((x : Nat) : Int))), (0, zR hm), (1, zI h)]) dX12_program_116 rfl rfl rfl (by decide) rfl ?_
            refine zF_goto 32 dX12_program_119 rfl ?_
            exact zF_locs (ls' := [(3, zI (((x + 1) : Nat) : Int)), (2, zI (prC N h (bF N h (lmP N h)) (x + 1))), (0, zR hm), (1, zI h)]) ⟨zlI rfl (by first | rfl | omega | (push_cast; omega) | exact congrArg (_ + ·) (zbT (by omega)) | exact congrArg (_ + ·) (zbF (by omega))), zlI rfl (by first | rfl | omega | (push_cast; omega) | exact congrArg (_ + ·) (zbT (by omega)) | exact congrArg (_ + ·) (zbF (by omega))), rfl, rfl, trivial⟩ (ih32 (x + 1) _ (by omega) (⟨by omega, frp.tr (fr4.wk fun _ _ q => q.1), hNa4⟩))
          · exact absurd c6 (by decide)
        · refine zF_iconst 74 dX12_program_73 rfl ?_
          refine zF_goto 78 dX12_program_74 rfl ?_
          refine zF_istore 80 (ls' := [(5, zI 1), (4, zI (rk N h ((x : Nat) : Int))), (3, zI ((x : Nat) : Int)), (2, zI (prC N h (bF N h (lmP N h)) x)), (0, zR hm), (1, zI h)]) dX12_program_78 rfl (by decide) rfl ?_
          refine zF_iload_n 81 dX12_program_80 rfl rfl ?_
          refine zF_iload 83 dX12_program_81 rfl rfl ?_
          refine zF_if_eq 90 86 dX12_program_83 rfl rfl (by first | decide | assumption | exact hbx _ | exact hb _ | exact zb_rg _ | (constructor <;> omega)) (fun c7 => ?_) (fun c7 => ?_)
          · exact absurd c7 (by decide)
          · refine zF_iconst 87 dX12_program_86 rfl ?_
            refine zF_goto 91 dX12_program_87 rfl ?_
            refine zF_iadd 92 dX12_program_91 rfl ?_
            refine zF_istore_n 93 (ls' := [(2, zI ((prC N h (bF N h (lmP N h)) x) + 1)), (5, zI 1), (4, zI (rk N h ((x : Nat) : Int))), (3, zI ((x : Nat) : Int)), (0, zR hm), (1, zI h)]) dX12_program_92 rfl (by decide) rfl ?_
            refine zF_aload_n 94 dX12_program_93 rfl rfl ?_
            refine zF_getR 97 dX12_program_94 rfl gX12_9 hM2.1 hM2.2.1 (zM_0 hM2).1 ?_
            refine zF_iload 99 dX12_program_97 rfl rfl ?_
            refine zF_aload_n 100 dX12_program_99 rfl rfl ?_
            refine zF_getR 103 dX12_program_100 rfl gX12_35 hM2.1 hM2.2.1 (zM_11 hM2).1 ?_
            refine zF_iload_n 104 dX12_program_103 rfl rfl ?_
            refine zF_iaload 105 dX12_program_104 rfl (zM_11 hM2).2.2 (zM_11 hM2).2.1 (by omega) (by omega) (e11 x (by omega)) ?_
            refine zF_iconst 106 dX12_program_105 rfl ?_
            refine zF_iconst 107 dX12_program_106 rfl ?_
            refine zF_aload_n 108 dX12_program_107 rfl rfl ?_
            refine zF_iload 110 dX12_program_108 rfl rfl ?_
            refine zF_callVi 113 (d2 := (d + 15)) (as := [zI (rk N h ((x : Nat) : Int))]) dX12_program_110 rfl kX12_208 iX12_isHeld (ci := 12) rfl eX12_isHeld (Nat.le_refl _) hM2.1 hM2.2.1 rfl rfl (Nat.le_of_ble_eq_true rfl) (zn_X12_isHeld hM2 hN2 hbx (by omega) (by omega)) ?_
            refine zF_callS 116 (d2 := (d + 15)) (as := [zR (A 0), zI (rk N h ((x : Nat) : Int)), zI ((bF N h (lmP N h)) ((x : Nat) : Int)), zI (-1), zI 0, zI (zb (mS (prN N h (bF N h (lmP N h)) x) (rk N h ((x : Nat) : Int)) 7 = 1))]) dX12_program_113 rfl kX12_274 sX12_book (Nat.le_refl _) rfl rfl (Nat.le_of_ble_eq_true rfl) (zE.mono (zt_X12_book (zM_0 hM2).2.2 (zM_0 hM2).2.1 (by omega) (by omega) (zb01 _)) fun ro σa5 hh5 => ?_)
            obtain ⟨er5, fr5, p5⟩ := hh5
            subst er5
            refine ⟨fr5.1, ?_⟩
            show zF G mX12_program (d + 16) 116 [(2, zI ((prC N h (bF N h (lmP N h)) x) + 1)), (5, zI 1), (4, zI (rk N h ((x : Nat) : Int))), (3, zI ((x : Nat) : Int)), (0, zR hm), (1, zI h)] [] σa5 _
            have hMa5 := zMo_f2 fr5 hM2
            have hNa5 : zia σa5 (A 0) = (prN N h (bF N h (lmP N h)) (x + 1)) := by rw [p5, hN2, prN_held hV (by omega)]; rfl
            refine zF_iinc 119 (ls' := [(3, zI (((x : Nat) : Int) + 1)), (2, zI ((prC N h (bF N h (lmP N h)) x) + 1)), (5, zI 1), (4, zI (rk N h ((x : Nat) : Int))), (0, zR hm), (1, zI h)]) dX12_program_116 rfl rfl rfl (by decide) rfl ?_
            refine zF_goto 32 dX12_program_119 rfl ?_
            exact zF_locs (ls' := [(3, zI (((x + 1) : Nat) : Int)), (2, zI (prC N h (bF N h (lmP N h)) (x + 1))), (0, zR hm), (1, zI h)]) ⟨zlI rfl (by first | rfl | omega | (push_cast; omega) | exact congrArg (_ + ·) (zbT (by omega)) | exact congrArg (_ + ·) (zbF (by omega))), zlI rfl (by first | rfl | omega | (push_cast; omega) | exact congrArg (_ + ·) (zbT (by omega)) | exact congrArg (_ + ·) (zbF (by omega))), rfl, rfl, trivial⟩ (ih32 (x + 1) _ (by omega) (⟨by omega, frp.tr (fr5.wk fun _ _ q => q.1), hNa5⟩))
  · refine zF_aload_n 14 dX12_program_13 rfl rfl ?_
    refine zF_iconst 15 dX12_program_14 rfl ?_
    refine zF_callV 18 (d2 := (d + 15)) (as := [zI 1]) dX12_program_15 rfl kX12_238 iX12_raise (ci := 12) rfl eX12_raise (Nat.le_refl _) hM.1 hM.2.1 rfl rfl (Nat.le_of_ble_eq_true rfl) (zE.mono (zt_X12_raise hM) fun ro σx6 hh6 => ?_)
    obtain ⟨er6, es6⟩ := hh6
    subst er6
    subst es6
    refine ⟨rfl, ?_⟩
    exact zF_ireturn dX12_program_18 rfl (mopMT (mMu5 (mMu5 zFr.rf)) (zsi_same _ _ _ _) (by repeat (first | rw [if_pos (by omega)] | rw [if_neg (by omega)])) (by decide) ⟨(zMo_hN (k := 0) (zMo_hN (k := 0) hN hM (by decide) zMo_h1) hM (by decide) zMo_h1), (zsi_F (by decide) (zsi_F (by decide) hu)), (mHr_si (mHr_si hh n3m) n3m)⟩)
end ZQ8

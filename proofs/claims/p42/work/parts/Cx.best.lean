/-! a best program taken and taken back -/
section ZQA
variable {G : zG} {M : zMeth} {d pc : Nat} {ls : List (Nat × zV)} {st : List zV} {σ σ1 : zMem} {Q : zRes → zMem → Prop} {E : Nat → Nat} {N : Int → Int} {T : Int} {as : List zV} {H : Int → Int → Int} {u h : Int}
noncomputable def prB (N : Int → Int) (h : Int) : Int → Int := prN N h (bF N h (lmP N h)) (nn N h)
theorem and_1 {v : Int} (h : v = 0 ∨ v = 1) : (Int32.ofInt v &&& Int32.ofInt 1).toInt = v := by
  rcases h with e | e <;> subst e <;> decide
theorem and_0 {v : Int} (h : v = 0 ∨ v = 1) : (Int32.ofInt v &&& Int32.ofInt 0).toInt = 0 := by
  rcases h with e | e <;> subst e <;> decide
theorem whl_of (hV : mV N) {x : Int} (wv : ∀ s, 0 ≤ s → s < x → mS N s 0 = h → mS N s 5 < 0) (ex : x = N 1) : whl N h := fun s s0 s1 e => by
  have hn := hV.n
  have q := wv s s0 (by omega) e
  have q2 := hV.s s s0 (by omega)
  omega
theorem best_1 (G : zG) (k : cK T N σ) (h0 : 0 ≤ h) (h1 : h < N 0) : pMax N h (lmP N h) (ch0 N h) (bG N h (lmP N h)) ∧ pLx N h (lmP N h) (ch0 N h) (bF N h (lmP N h)) ∧ 0 ≤ bG N h (lmP N h) ∧ pG N h (lmP N h) (bF N h (lmP N h)) = bG N h (lmP N h) ∧ bG N h (lmP N h) ≤ 50000000 := by
  obtain ⟨⟨g, m⟩, c, l⟩ := ex_max G k h0 h1
  have hn := k.V.n
  have e := bG_eq m
  rw [e] at m
  have l2 := bF_sp l
  have ge : pG N h (lmP N h) (bF N h (lmP N h)) = bG N h (lmP N h) := by
    obtain ⟨⟨t, t1, t2⟩, mx⟩ := m
    have a := l2.2.1 t t1
    have b := mx _ l2.1
    omega
  have pb := pG_b k.V k.mq.c h0 (show h < 4 by omega) (lmP N h) (bF N h (lmP N h))
  exact ⟨m, l2, bG_ok k.V k.X k.mq h0 h1 ⟨_, m⟩, ge, by omega⟩
theorem best_2 (G : zG) (k : cK T N σ) (h0 : 0 ≤ h) (h1 : h < N 0) (w : whl N h) : cHouseN N h (nS N) - cShN N h (nF N) ≤ bG N h (lmP N h) := by
  have hn := k.V.n
  rw [← pG_now k.V k.mq w h0 h1]
  refine (best_1 G k h0 h1).1.2 _ fun x hx => ?_
  have r := rk_b k.V (h := h) (k := (x : Int)) (by omega) (by omega)
  have s := k.V.s (rk N h x) (by omega) (by omega)
  have q := k.W (rk N h x) r.1 r.2.1
  refine ⟨fun _ => ⟨by show -1 ≤ mS N (rk N h x) 4; omega, q.2.1⟩, fun ne => ?_⟩
  have c := ch0_b k.V (h := h) (k := (x : Int)) (by omega) (by omega)
  show mS N (rk N h x) 4 = _
  rcases c with c | c
  · exact c.2.1.symm
  · exact absurd c.2 ne
theorem best_3 (G : zG) (k : cK T N σ) (h0 : 0 ≤ h) (h1 : h < N 0) : pS N (prB N h) h ∧ gN T (prB N h) ∧ cE N (prB N h) ∧ whl (prB N h) h ∧ ∀ x : Nat, x < nn N h → mS (prB N h) (rk N h x) 4 = bF N h (lmP N h) x := by
  have hn := k.V.n
  obtain ⟨m, l, g0, ge, -⟩ := best_1 G k h0 h1
  obtain ⟨p, a⟩ := prN_pS k.V l.1
  obtain ⟨gn, ce⟩ := prN_gN k.2.2.1 h0 h1 l.1 (pG_prints (lim := lmP N h) (t := bF N h (lmP N h)) k.V k.mq.c h0 (by omega) (by omega))
  refine ⟨p, gn, ce, fun s s0 s1 e => ?_, fun x hx => (a x hx).1⟩
  have hs := nS_eq k.V
  have e1 : prB N h 1 = N 1 := p.1 1 (by omega)
  rw [e1] at s1
  have e0 : mS N s 0 = h := (p.2.1 s 0 s0 (by omega) (Or.inl rfl)).symm.trans e
  obtain ⟨sn, es⟩ := Int.eq_ofNat_of_zero_le s0
  subst es
  have rj := rk_inj N h (s := sn) (by omega) e0
  have lt := mCn_lt N h (a := sn) (b := nS N) (by omega) e0
  have ge0 := mCn_b N h sn
  have nq := nn_eq k.mq.c h
  obtain ⟨kn, ek⟩ := Int.eq_ofNat_of_zero_le ge0.1
  rw [ek] at rj lt
  have := (a kn (by omega)).2
  rw [rj] at this
  exact this
theorem best_4 (G : zG) (k : cK T N σ) (h0 : 0 ≤ h) (h1 : h < N 0) : cHouseN (prB N h) h (nS (prB N h)) - cShN (prB N h) h (nF (prB N h)) = bG N h (lmP N h) ∧ bG (prB N h) h (lmP (prB N h) h) = bG N h (lmP N h) := by
  have hn := k.V.n
  obtain ⟨m, l, g0, ge, -⟩ := best_1 G k h0 h1
  obtain ⟨p, gn, ce, w, a⟩ := best_3 G k h0 h1
  have lm : ∀ f, 0 ≤ f → f < N 2 → lmP N h f = lmP (prB N h) h f := fun f f0 _ => (p.lim h0 f f0).symm
  have e0 : prB N h 0 = N 0 := p.1 0 (by omega)
  have e2 : prB N h 2 = N 2 := p.1 2 (by omega)
  refine ⟨?_, ?_⟩
  · rw [← pG_now gn.v gn.q w h0 (by omega), p.gg k.V h0 (by omega), ← pG_lim k.V lm, ← ge]
    refine pG_congr fun x hx => ?_
    show mS (prB N h) (rk (prB N h) h x) 4 = _
    rw [p.rk k.V]
    exact a x hx
  · exact (bG_eq (p.max k.V h0 (by omega) (pMax_lim k.V lm m))).symm
theorem best_6 (G : zG) (k : cK T N σ) (h0 : 0 ≤ h) (h1 : h < N 0) {s : Int} (s0 : 0 ≤ s) (s1 : s < N 1) (e : mS (prB N h) s 0 = h) : mS (prB N h) s 4 = bfV (prB N h) s := by
  have hn := k.V.n
  obtain ⟨m, l, g0, ge, -⟩ := best_1 G k h0 h1
  obtain ⟨p, gn, ce, w, a⟩ := best_3 G k h0 h1
  have hs := nS_eq k.V
  have lm : ∀ f, 0 ≤ f → f < N 2 → lmP N h f = lmP (prB N h) h f := fun f f0 _ => (p.lim h0 f f0).symm
  have e0 : mS N s 0 = h := (p.2.1 s 0 s0 (by omega) (Or.inl rfl)).symm.trans e
  obtain ⟨sn, es⟩ := Int.eq_ofNat_of_zero_le s0
  subst es
  have rj := rk_inj N h (s := sn) (by omega) e0
  have lt := mCn_lt N h (a := sn) (b := nS N) (by omega) e0
  have ge0 := mCn_b N h sn
  have nq := nn_eq k.mq.c h
  obtain ⟨kn, ek⟩ := Int.eq_ofNat_of_zero_le ge0.1
  have q := bF_eq (N := prB N h) (h := h) (lim := lmP (prB N h) h) (by rw [p.1 2 (by omega)]; omega) (p.lx k.V h0 (by omega) (pLx_lim k.V lm l)) kn (by rw [p.en k.V]; omega)
  have a1 := a kn (by omega)
  rw [← ek, rj] at a1
  unfold bfV
  rw [e, a1, ek, q]
  congr 1
  show (kn : Int) = mCn (prB N h) h ((sn : Int)).toNat
  rw [Int.toNat_natCast, p.cn h (show sn ≤ 10 by omega), ek]
theorem pL_program (hG : zGd G) (k : cL T (N, H, u) σ) (h0 : 0 ≤ h) (h1 : h < N 0) : zE G mX11_program (d + 9) [zR (B0 0), zI h] σ (fun ro σ1 => ro = .inl (some (zI (oPrV N h))) ∧ zFr (cMu B0) σ σ1 ∧ cL T (sRec (N, H, u) (prB N h)) σ1) := by
  have kk : cK T N σ := k.K
  have hn := kk.V.n
  refine (copM_0 (zt_X11_program hG k.1.cO k.1.cHs k.2.1 k.2.2.1 k.1.cPr k.2.2.2.1 (by constructor <;> omega)) (by rw [if_pos ⟨h0, h1⟩])).mono fun ro σ1 z => ?_
  obtain ⟨e1, e2, e3⟩ := z
  obtain ⟨p, gn, ce, w, a⟩ := best_3 G kk h0 h1
  have f4 : fe (prB N h) := by
    have hf : fe N := k.2.2.2.2.1
    unfold fe at hf ⊢
    rw [p.1 4 (by omega)]
    exact hf
  exact ⟨e1, e2, k.op e2 e3 (gS_rec k.2.2.1 gn ce) (fe_rec k.2.2.2.2 k.2.2.1 f4)⟩
set_option maxRecDepth 20000 in
theorem zt_L_isBest  (hGd : zGd G) (hL : cL T (N, H, u) σ) (hu : u < 10) (h0 : 0 ≤ h) (h1 : h < N 0) : zE G mL_isBest (d + 10) [zR (B0 0), zI h] σ (fun ro σ1 => ro = .inl (some (zI 1)) ∧ zFr (cMu B0) σ σ1 ∧ ∃ H', cL T (N, H', u) σ1 ∧ ∀ k, 0 ≤ k → k < u → H' k = H k) := by
  refine zE_of rfl (by simp [zcat]) (Nat.le_of_ble_eq_true rfl) ?_
  show zF G mL_isBest (d + 10) 0 [(0, zR (B0 0)), (1, zI h)] [] σ _
  have hK : cK T N σ := hL.K
  have hn := hK.V.n
  have hs := nS_eq hK.V
  have hh := nH_eq hK.V
  have hf := nF_eq hK.V
  have u0 : 0 ≤ u := hL.2.2.1.2.1.1
  obtain ⟨bm, bl, bg0, bge, bg5⟩ := best_1 G hK h0 h1
  refine zF_aload_n 1 dL_isBest_0 rfl rfl ?_
  refine zF_callS 4 (d2 := (d + 9)) (as := [zR (B0 0)]) dL_isBest_1 rfl kL_210 sL_all (Nat.le_refl _) rfl rfl (Nat.le_of_ble_eq_true rfl) (zE.mono (zt_L_all (d := d + 0) hGd hK) fun ro σx1 hh1 => ?_)
  obtain ⟨es1, er1⟩ := hh1
  replace es1 := es1.symm
  subst es1
  subst er1
  refine ⟨rfl, ?_⟩
  show zF G mL_isBest (d + 10) 4 [(0, zR (B0 0)), (1, zI h)] [zL (aV N)] σ _
  refine zF_lstore_n 5 (ls' := [(2, zL (aV N)), (0, zR (B0 0)), (1, zI h)]) dL_isBest_4 rfl (by decide) rfl ?_
  refine zF_aload_n 6 dL_isBest_5 rfl rfl ?_
  refine zF_iload_n 7 dL_isBest_6 rfl rfl ?_
  refine zF_callV 10 (d2 := (d + 9)) (as := [zI h]) dL_isBest_7 rfl kL_214 iX11_bestGain (ci := 11) rfl eX11_bestGain (Nat.le_refl _) hL.1.bk hL.1.bl rfl rfl (Nat.le_of_ble_eq_true rfl) (zE.mono (qL_bestGain  (d := d + 1) hGd hK (by omega) (by omega)) fun ro σs7 hh7 => ?_)
  obtain ⟨er7, fr7⟩ := hh7
  subst er7
  refine ⟨fr7.1, ?_⟩
  have L7 : cL T ((N, H, u)) σs7 := hL.sc fr7
  have K7 : cK T N σs7 := L7.K
  have F7 : zFr (cMu B0) σ σs7 := cSc_mu fr7
  show zF G mL_isBest (d + 10) 10 [(2, zL (aV N)), (0, zR (B0 0)), (1, zI h)] [zI (bG N h (lmP N h))] σs7 _
  refine zF_istore 12 (ls' := [(4, zI (bG N h (lmP N h))), (2, zL (aV N)), (0, zR (B0 0)), (1, zI h)]) dL_isBest_10 rfl (by decide) rfl ?_
  refine zF_iconst 13 dL_isBest_12 rfl ?_
  refine zF_istore 15 (ls' := [(5, zI 1), (4, zI (bG N h (lmP N h))), (2, zL (aV N)), (0, zR (B0 0)), (1, zI h)]) dL_isBest_13 rfl (by decide) rfl ?_
  refine zF_iconst 16 dL_isBest_15 rfl ?_
  refine zF_istore 18 (ls' := [(6, zI 0), (5, zI 1), (4, zI (bG N h (lmP N h))), (2, zL (aV N)), (0, zR (B0 0)), (1, zI h)]) dL_isBest_16 rfl (by decide) rfl ?_
  refine zF_locs (ls' := [(6, zI ((0 : Nat) : Int)), (5, zI 1), (4, zI (bG N h (lmP N h))), (2, zL (aV N)), (0, zR (B0 0)), (1, zI h)]) ⟨zlI rfl (by first | rfl | omega | (push_cast; omega) | exact congrArg (_ + ·) (zbT (by assumption)) | exact congrArg (_ + ·) (zbF (by assumption)) | exact congrArg (_ + ·) (zbT (by omega)) | exact congrArg (_ + ·) (zbF (by omega)) | exact congrArg (_ + ·) (if_pos (by omega)).symm | exact congrArg (_ + ·) (if_neg (by omega)).symm | exact (if_pos (by omega)).symm | exact (if_neg (by omega)).symm | exact zsub_s (if_pos (by omega)).symm | exact zsub_s0 (if_neg (by omega)).symm | exact zadd0 (if_neg (by omega)).symm | exact zadd0 (zbF (by omega)) | exact (Int.sub_zero _).symm), rfl, rfl, rfl, rfl, rfl, trivial⟩ ?_
  refine zF_while (X := Nat × Int) (fun z => (N 1).toNat - z.1) (fun z σ18 => ((z.1 : Nat) : Int) ≤ N 1 ∧ (z.2 = 0 ∨ z.2 = 1) ∧ (z.2 = 1 → ∀ s, 0 ≤ s → s < ((z.1 : Nat) : Int) → mS N s 0 = h → mS N s 5 < 0) ∧ cL T (N, H, u) σ18 ∧ zFr (cMu B0) σ σ18) (fun z => [(6, zI ((z.1 : Nat) : Int)), (5, zI z.2), (4, zI (bG N h (lmP N h))), (2, zL (aV N)), (0, zR (B0 0)), (1, zI h)]) ?_ (0, 1) σs7 (⟨by show ((0 : Nat) : Int) ≤ N 1; omega, Or.inr rfl, fun _ s s0 s1 => absurd s1 (by show ¬ s < ((0 : Nat) : Int); omega), L7, F7⟩)
  intro ⟨x, vw⟩ σ18 hI18 ih18
  show zF G mL_isBest (d + 10) 18 [(6, zI ((x : Nat) : Int)), (5, zI vw), (4, zI (bG N h (lmP N h))), (2, zL (aV N)), (0, zR (B0 0)), (1, zI h)] [] σ18 _
  obtain ⟨hx, v01, wv, L18, F18⟩ := hI18
  change ((x : Nat) : Int) ≤ N 1 at hx
  change vw = 0 ∨ vw = 1 at v01
  change vw = 1 → ∀ s, 0 ≤ s → s < ((x : Nat) : Int) → mS N s 0 = h → mS N s 5 < 0 at wv
  have K18 : cK T N σ18 := L18.K
  refine zF_iload 20 dL_isBest_18 rfl rfl ?_
  refine zF_aload_n 21 dL_isBest_20 rfl rfl ?_
  refine zF_iconst 22 dL_isBest_21 rfl ?_
  refine zF_callVi 25 (d2 := (d + 9)) (as := [zI 1]) dL_isBest_22 rfl kL_110 iX11_size (ci := 11) rfl eX11_size (Nat.le_refl _) L18.1.bk L18.1.bl rfl rfl (Nat.le_of_ble_eq_true rfl) ((show zP1 G mX11_size _ _ σ18 (N 1) from qL_size  (d := d + 1) hGd K18 (by omega) (by omega))) ?_
  refine zF_icmp_ge 65 28 dL_isBest_25 rfl rfl (by first | decide | assumption | exact hK.V.b _ | exact w32_rg _ | (constructor <;> omega)) (by first | decide | assumption | exact hK.V.b _ | exact w32_rg _ | (constructor <;> omega)) (fun c1 => ?_) (fun c1 => ?_)
  · refine zF_iload 67 dL_isBest_65 rfl rfl ?_
    refine zF_if_eq 90 70 dL_isBest_67 rfl rfl (by first | decide | assumption | exact hK.V.b _ | exact w32_rg _ | (constructor <;> omega)) (fun c2 => ?_) (fun c2 => ?_)
    · refine zF_aload_n 91 dL_isBest_90 rfl rfl ?_
      refine zF_iload_n 92 dL_isBest_91 rfl rfl ?_
      refine zF_callV 95 (d2 := (d + 9)) (as := [zI h]) dL_isBest_92 rfl kL_158 iX11_program (ci := 11) rfl eX11_program (Nat.le_refl _) L18.1.bk L18.1.bl rfl rfl (Nat.le_of_ble_eq_true rfl) (zE.mono (pL_program (d := d + 0) hGd L18 h0 h1) fun ro σs92 hh92 => ?_)
      obtain ⟨er92, fr92, L92⟩ := hh92
      subst er92
      refine ⟨fr92.1, ?_⟩
      have K92 : cK T (prB N h) σs92 := L92.K
      obtain ⟨pp, pgn, pce, pw, pa⟩ := best_3 G hK h0 h1
      have p0 : prB N h 0 = N 0 := pp.1 0 (by omega)
      have p1 : prB N h 1 = N 1 := pp.1 1 (by omega)
      have p2 : prB N h 2 = N 2 := pp.1 2 (by omega)
      obtain ⟨b4, b5⟩ := best_4 G hK h0 h1
      have pc0 : 0 ≤ oPrV N h ∧ oPrV N h ≤ nn N h := prC_b _ _ _ _
      have nq := (nn_eq hK.mq.c h).2
      have F92 : zFr (cMu B0) σ σs92 := F18.tr (fr92)
      show zF G mL_isBest (d + 10) 95 [(6, zI ((x : Nat) : Int)), (5, zI vw), (4, zI (bG N h (lmP N h))), (2, zL (aV N)), (0, zR (B0 0)), (1, zI h)] [zI (oPrV N h)] σs92 _
      refine zF_istore 97 (ls' := [(6, zI (oPrV N h)), (5, zI vw), (4, zI (bG N h (lmP N h))), (2, zL (aV N)), (0, zR (B0 0)), (1, zI h)]) dL_isBest_95 rfl (by decide) rfl ?_
      refine zF_iload 99 dL_isBest_97 rfl rfl ?_
      refine zF_if_lt 130 102 dL_isBest_99 rfl rfl (by first | decide | assumption | exact hK.V.b _ | exact w32_rg _ | (constructor <;> omega)) (fun c3 => ?_) (fun c3 => ?_)
      · refine zF_iconst 131 dL_isBest_130 rfl ?_
        exact zF_zreturn dL_isBest_131 rfl (by decide) (by exfalso; omega)
      · refine zF_aload_n 103 dL_isBest_102 rfl rfl ?_
        refine zF_iload_n 104 dL_isBest_103 rfl rfl ?_
        refine zF_iconst 105 dL_isBest_104 rfl ?_
        refine zF_callVi 108 (d2 := (d + 9)) (as := [zI h, zI 3]) dL_isBest_105 rfl kL_113 iX11_house (ci := 11) rfl eX11_house (Nat.le_refl _) L92.1.bk L92.1.bl rfl rfl (Nat.le_of_ble_eq_true rfl) ((show zP1 G mX11_house _ _ σs92 (cHouseN (prB N h) h (nS (prB N h))) from qL_house (N := (prB N h)) (d := d + 1) hGd K92 (by omega) (by omega) (by omega) (by omega))) ?_
        refine zF_aload_n 109 dL_isBest_108 rfl rfl ?_
        refine zF_iload_n 110 dL_isBest_109 rfl rfl ?_
        refine zF_iconst 111 dL_isBest_110 rfl ?_
        refine zF_callVi 114 (d2 := (d + 9)) (as := [zI h, zI 4]) dL_isBest_111 rfl kL_113 iX11_house (ci := 11) rfl eX11_house (Nat.le_refl _) L92.1.bk L92.1.bl rfl rfl (Nat.le_of_ble_eq_true rfl) ((show zP1 G mX11_house _ _ σs92 (cShN (prB N h) h (nF (prB N h))) from qL_house (N := (prB N h)) (d := d + 1) hGd K92 (by omega) (by omega) (by omega) (by omega))) ?_
        refine zF_isub 115 dL_isBest_114 rfl ?_
        refine zF_iload 117 dL_isBest_115 rfl rfl ?_
        refine zF_icmp_ne 130 120 dL_isBest_117 rfl rfl (by first | decide | assumption | exact hK.V.b _ | exact w32_rg _ | (constructor <;> omega)) (by first | decide | assumption | exact hK.V.b _ | exact w32_rg _ | (constructor <;> omega)) (fun c4 => ?_) (fun c4 => ?_)
        · refine zF_iconst 131 dL_isBest_130 rfl ?_
          exact zF_zreturn dL_isBest_131 rfl (by decide) (by exfalso; omega)
        · refine zF_aload_n 121 dL_isBest_120 rfl rfl ?_
          refine zF_iload_n 122 dL_isBest_121 rfl rfl ?_
          refine zF_callV 125 (d2 := (d + 9)) (as := [zI h]) dL_isBest_122 rfl kL_214 iX11_bestGain (ci := 11) rfl eX11_bestGain (Nat.le_refl _) L92.1.bk L92.1.bl rfl rfl (Nat.le_of_ble_eq_true rfl) (zE.mono (qL_bestGain (N := (prB N h)) (d := d + 1) hGd K92 (by omega) (by omega)) fun ro σs122 hh122 => ?_)
          obtain ⟨er122, fr122⟩ := hh122
          subst er122
          refine ⟨fr122.1, ?_⟩
          have L122 : cL T (sRec (N, H, u) (prB N h)) σs122 := L92.sc fr122
          have K122 : cK T (prB N h) σs122 := L122.K
          have F122 : zFr (cMu B0) σ σs122 := F92.tr (cSc_mu fr122)
          show zF G mL_isBest (d + 10) 125 [(6, zI (oPrV N h)), (5, zI vw), (4, zI (bG N h (lmP N h))), (2, zL (aV N)), (0, zR (B0 0)), (1, zI h)] [zI (bG (prB N h) h (lmP (prB N h) h))] σs122 _
          refine zF_iload 127 dL_isBest_125 rfl rfl ?_
          refine zF_icmp_eq 132 130 dL_isBest_127 rfl rfl (by first | decide | assumption | exact hK.V.b _ | exact w32_rg _ | (constructor <;> omega)) (by first | decide | assumption | exact hK.V.b _ | exact w32_rg _ | (constructor <;> omega)) (fun c5 => ?_) (fun c5 => ?_)
          · refine zF_iconst 133 dL_isBest_132 rfl ?_
            refine zF_istore 135 (ls' := [(7, zI 0), (6, zI (oPrV N h)), (5, zI vw), (4, zI (bG N h (lmP N h))), (2, zL (aV N)), (0, zR (B0 0)), (1, zI h)]) dL_isBest_133 rfl (by decide) rfl ?_
            refine zF_locs (ls' := [(7, zI ((0 : Nat) : Int)), (4, zI (bG N h (lmP N h))), (2, zL (aV N)), (0, zR (B0 0)), (1, zI h)]) ⟨zlI rfl (by first | rfl | omega | (push_cast; omega) | exact congrArg (_ + ·) (zbT (by assumption)) | exact congrArg (_ + ·) (zbF (by assumption)) | exact congrArg (_ + ·) (zbT (by omega)) | exact congrArg (_ + ·) (zbF (by omega)) | exact congrArg (_ + ·) (if_pos (by omega)).symm | exact congrArg (_ + ·) (if_neg (by omega)).symm | exact (if_pos (by omega)).symm | exact (if_neg (by omega)).symm | exact zsub_s (if_pos (by omega)).symm | exact zsub_s0 (if_neg (by omega)).symm | exact zadd0 (if_neg (by omega)).symm | exact zadd0 (zbF (by omega)) | exact (Int.sub_zero _).symm), rfl, rfl, rfl, rfl, trivial⟩ ?_
            refine zF_while (X := Nat) (fun x => (N 1).toNat - x) (fun x σ135 => ((x : Nat) : Int) ≤ N 1 ∧ cL T (sRec (N, H, u) (prB N h)) σ135 ∧ zFr (cMu B0) σ σ135) (fun x => [(7, zI ((x : Nat) : Int)), (4, zI (bG N h (lmP N h))), (2, zL (aV N)), (0, zR (B0 0)), (1, zI h)]) ?_ 0 σs122 (⟨by omega, L122, F122⟩)
            intro x7 σ135 hI135 ih135
            show zF G mL_isBest (d + 10) 135 [(7, zI ((x7 : Nat) : Int)), (4, zI (bG N h (lmP N h))), (2, zL (aV N)), (0, zR (B0 0)), (1, zI h)] [] σ135 _
            obtain ⟨hx7, L135, F135⟩ := hI135
            have K135 : cK T (prB N h) σ135 := L135.K
            refine zF_iload 137 dL_isBest_135 rfl rfl ?_
            refine zF_aload_n 138 dL_isBest_137 rfl rfl ?_
            refine zF_iconst 139 dL_isBest_138 rfl ?_
            refine zF_callVi 142 (d2 := (d + 9)) (as := [zI 1]) dL_isBest_139 rfl kL_110 iX11_size (ci := 11) rfl eX11_size (Nat.le_refl _) L135.1.bk L135.1.bl rfl rfl (Nat.le_of_ble_eq_true rfl) ((show zP1 G mX11_size _ _ σ135 ((prB N h) 1) from qL_size (N := (prB N h)) (d := d + 1) hGd K135 (by omega) (by omega))) ?_
            refine zF_icmp_ge 180 145 dL_isBest_142 rfl rfl (by first | decide | assumption | exact hK.V.b _ | exact w32_rg _ | (constructor <;> omega)) (by first | decide | assumption | exact hK.V.b _ | exact w32_rg _ | (constructor <;> omega)) (fun c6 => ?_) (fun c6 => ?_)
            · refine zF_aload_n 181 dL_isBest_180 rfl rfl ?_
              refine zF_callV 184 (d2 := (d + 9)) (as := []) dL_isBest_181 rfl kL_220 iX11_undo (ci := 11) rfl eX11_undo (Nat.le_refl _) L135.1.bk L135.1.bl rfl rfl (Nat.le_of_ble_eq_true rfl) (zE.mono (pL_undo (d := d + 2) hGd L135) fun ro σs181 hh181 => ?_)
              obtain ⟨er181, fr181, L181⟩ := hh181
              subst er181
              refine ⟨fr181.1, ?_⟩
              obtain ⟨ou1, ou2, ou3⟩ := oUn_rec (N := N) (H := H) (u := u) (N' := prB N h) u0 hu
              rw [ou1] at L181
              rw [ou2]
              have F181 : zFr (cMu B0) σ σs181 := F135.tr (fr181)
              show zF G mL_isBest (d + 10) 184 [(7, zI ((x7 : Nat) : Int)), (4, zI (bG N h (lmP N h))), (2, zL (aV N)), (0, zR (B0 0)), (1, zI h)] [zI u] σs181 _
              refine zF_if_lt 200 187 dL_isBest_184 rfl rfl (by first | decide | assumption | exact hK.V.b _ | exact w32_rg _ | (constructor <;> omega)) (fun c7 => ?_) (fun c7 => ?_)
              · refine zF_iconst 201 dL_isBest_200 rfl ?_
                exact zF_zreturn dL_isBest_201 rfl (by decide) (by exfalso; omega)
              · refine zF_aload_n 188 dL_isBest_187 rfl rfl ?_
                refine zF_callS 191 (d2 := (d + 9)) (as := [zR (B0 0)]) dL_isBest_188 rfl kL_210 sL_all (Nat.le_refl _) rfl rfl (Nat.le_of_ble_eq_true rfl) (zE.mono (zt_L_all (d := d + 0) hGd L181.K) fun ro σx188 hh188 => ?_)
                obtain ⟨es188, er188⟩ := hh188
                replace es188 := es188.symm
                subst es188
                subst er188
                refine ⟨rfl, ?_⟩
                show zF G mL_isBest (d + 10) 191 [(7, zI ((x7 : Nat) : Int)), (4, zI (bG N h (lmP N h))), (2, zL (aV N)), (0, zR (B0 0)), (1, zI h)] [zL (aV N)] σs181 _
                refine zF_lload_n 192 dL_isBest_191 rfl rfl ?_
                refine zF_Lw2 ?_
                refine zF_lcmp 193 dL_isBest_192 rfl (w64_rg _) (w64_rg _) ?_
                rw [zlcm_self]
                refine zF_if_ne 200 196 dL_isBest_193 rfl rfl (by first | decide | assumption | exact hK.V.b _ | exact w32_rg _ | (constructor <;> omega)) (fun c8 => ?_) (fun c8 => ?_)
                · exact absurd c8 (by decide)
                · refine zF_iconst 197 dL_isBest_196 rfl ?_
                  refine zF_goto 201 dL_isBest_197 rfl ?_
                  exact zF_zreturn dL_isBest_201 rfl (by decide) (⟨rfl, F181, hsR H u N, L181, ou3⟩)
            · have hv := K135.V.s (x7 : Int) (by omega) (by omega)
              refine zF_aload_n 146 dL_isBest_145 rfl rfl ?_
              refine zF_iload 148 dL_isBest_146 rfl rfl ?_
              refine zF_iconst 149 dL_isBest_148 rfl ?_
              refine zF_callVi 152 (d2 := (d + 9)) (as := [zI ((x7 : Nat) : Int), zI 0]) dL_isBest_149 rfl kL_108 iX11_screen (ci := 11) rfl eX11_screen (Nat.le_refl _) L135.1.bk L135.1.bl rfl rfl (Nat.le_of_ble_eq_true rfl) ((show zP1 G mX11_screen _ _ σ135 (mS (prB N h) ((x7 : Nat) : Int) 0) from qL_screen (N := (prB N h)) (d := d + 1) hGd K135 (by omega) (by omega) (by omega) (by omega))) ?_
              refine zF_iload_n 153 dL_isBest_152 rfl rfl ?_
              refine zF_icmp_ne 174 156 dL_isBest_153 rfl rfl (by first | decide | assumption | exact hK.V.b _ | exact w32_rg _ | (constructor <;> omega)) (by first | decide | assumption | exact hK.V.b _ | exact w32_rg _ | (constructor <;> omega)) (fun c9 => ?_) (fun c9 => ?_)
              · refine zF_iinc 177 (ls' := [(7, zI (((x7 : Nat) : Int) + 1)), (4, zI (bG N h (lmP N h))), (2, zL (aV N)), (0, zR (B0 0)), (1, zI h)]) dL_isBest_174 rfl rfl rfl (by decide) rfl ?_
                refine zF_goto 135 dL_isBest_177 rfl ?_
                exact zF_locs (ls' := [(7, zI (((x7 + 1) : Nat) : Int)), (4, zI (bG N h (lmP N h))), (2, zL (aV N)), (0, zR (B0 0)), (1, zI h)]) ⟨zlI rfl (by first | rfl | omega | (push_cast; omega) | exact congrArg (_ + ·) (zbT (by assumption)) | exact congrArg (_ + ·) (zbF (by assumption)) | exact congrArg (_ + ·) (zbT (by omega)) | exact congrArg (_ + ·) (zbF (by omega)) | exact congrArg (_ + ·) (if_pos (by omega)).symm | exact congrArg (_ + ·) (if_neg (by omega)).symm | exact (if_pos (by omega)).symm | exact (if_neg (by omega)).symm | exact zsub_s (if_pos (by omega)).symm | exact zsub_s0 (if_neg (by omega)).symm | exact zadd0 (if_neg (by omega)).symm | exact zadd0 (zbF (by omega)) | exact (Int.sub_zero _).symm), rfl, rfl, rfl, rfl, trivial⟩ (ih135 (x7 + 1) _ (by omega) (⟨by omega, L135, F135⟩))
              · have b6 := best_6 G hK h0 h1 (s := (x7 : Int)) (by omega) (by omega) (by omega)
                refine zF_aload_n 157 dL_isBest_156 rfl rfl ?_
                refine zF_iload 159 dL_isBest_157 rfl rfl ?_
                refine zF_iconst 160 dL_isBest_159 rfl ?_
                refine zF_callVi 163 (d2 := (d + 9)) (as := [zI ((x7 : Nat) : Int), zI 4]) dL_isBest_160 rfl kL_108 iX11_screen (ci := 11) rfl eX11_screen (Nat.le_refl _) L135.1.bk L135.1.bl rfl rfl (Nat.le_of_ble_eq_true rfl) ((show zP1 G mX11_screen _ _ σ135 (mS (prB N h) ((x7 : Nat) : Int) 4) from qL_screen (N := (prB N h)) (d := d + 1) hGd K135 (by omega) (by omega) (by omega) (by omega))) ?_
                refine zF_aload_n 164 dL_isBest_163 rfl rfl ?_
                refine zF_iload 166 dL_isBest_164 rfl rfl ?_
                refine zF_callV 169 (d2 := (d + 9)) (as := [zI ((x7 : Nat) : Int)]) dL_isBest_166 rfl kL_217 iX11_bestFilm (ci := 11) rfl eX11_bestFilm (Nat.le_refl _) L135.1.bk L135.1.bl rfl rfl (Nat.le_of_ble_eq_true rfl) (zE.mono (qL_bestFilm (N := (prB N h)) (d := d + 1) hGd K135 (by omega) (by omega)) fun ro σs166 hh166 => ?_)
                obtain ⟨er166, fr166⟩ := hh166
                subst er166
                refine ⟨fr166.1, ?_⟩
                have L166 : cL T (sRec (N, H, u) (prB N h)) σs166 := L135.sc fr166
                have K166 : cK T (prB N h) σs166 := L166.K
                have F166 : zFr (cMu B0) σ σs166 := F135.tr (cSc_mu fr166)
                show zF G mL_isBest (d + 10) 169 [(7, zI ((x7 : Nat) : Int)), (4, zI (bG N h (lmP N h))), (2, zL (aV N)), (0, zR (B0 0)), (1, zI h)] [zI (bfV (prB N h) ((x7 : Nat) : Int)), zI (mS (prB N h) ((x7 : Nat) : Int) 4)] σs166 _
                refine zF_icmp_eq 174 172 dL_isBest_169 rfl rfl (by first | decide | assumption | exact hK.V.b _ | exact w32_rg _ | (constructor <;> omega)) (by first | decide | assumption | exact hK.V.b _ | exact w32_rg _ | (constructor <;> omega)) (fun c10 => ?_) (fun c10 => ?_)
                · refine zF_iinc 177 (ls' := [(7, zI (((x7 : Nat) : Int) + 1)), (4, zI (bG N h (lmP N h))), (2, zL (aV N)), (0, zR (B0 0)), (1, zI h)]) dL_isBest_174 rfl rfl rfl (by decide) rfl ?_
                  refine zF_goto 135 dL_isBest_177 rfl ?_
                  exact zF_locs (ls' := [(7, zI (((x7 + 1) : Nat) : Int)), (4, zI (bG N h (lmP N h))), (2, zL (aV N)), (0, zR (B0 0)), (1, zI h)]) ⟨zlI rfl (by first | rfl | omega | (push_cast; omega) | exact congrArg (_ + ·) (zbT (by assumption)) | exact congrArg (_ + ·) (zbF (by assumption)) | exact congrArg (_ + ·) (zbT (by omega)) | exact congrArg (_ + ·) (zbF (by omega)) | exact congrArg (_ + ·) (if_pos (by omega)).symm | exact congrArg (_ + ·) (if_neg (by omega)).symm | exact (if_pos (by omega)).symm | exact (if_neg (by omega)).symm | exact zsub_s (if_pos (by omega)).symm | exact zsub_s0 (if_neg (by omega)).symm | exact zadd0 (if_neg (by omega)).symm | exact zadd0 (zbF (by omega)) | exact (Int.sub_zero _).symm), rfl, rfl, rfl, rfl, trivial⟩ (ih135 (x7 + 1) _ (by omega) (⟨by omega, L166, F166⟩))
                · refine zF_iconst 173 dL_isBest_172 rfl ?_
                  exact zF_zreturn dL_isBest_173 rfl (by decide) (by exfalso; omega)
          · refine zF_iconst 131 dL_isBest_130 rfl ?_
            exact zF_zreturn dL_isBest_131 rfl (by decide) (by exfalso; omega)
    · have v1 : vw = 1 := by omega
      have ex : (x : Int) = N 1 := by omega
      have wh : whl N h := whl_of hK.V (wv v1) ex
      have b2 := best_2 G hK h0 h1 wh
      have s1 := cSh_house hK.V h0 (by omega)
      have s2 := cHouse_b hK.V h (nS N) (Nat.le_refl _)
      refine zF_aload_n 71 dL_isBest_70 rfl rfl ?_
      refine zF_iload_n 72 dL_isBest_71 rfl rfl ?_
      refine zF_iconst 73 dL_isBest_72 rfl ?_
      refine zF_callVi 76 (d2 := (d + 9)) (as := [zI h, zI 3]) dL_isBest_73 rfl kL_113 iX11_house (ci := 11) rfl eX11_house (Nat.le_refl _) L18.1.bk L18.1.bl rfl rfl (Nat.le_of_ble_eq_true rfl) ((show zP1 G mX11_house _ _ σ18 (cHouseN N h (nS N)) from qL_house  (d := d + 1) hGd K18 (by omega) (by omega) (by omega) (by omega))) ?_
      refine zF_aload_n 77 dL_isBest_76 rfl rfl ?_
      refine zF_iload_n 78 dL_isBest_77 rfl rfl ?_
      refine zF_iconst 79 dL_isBest_78 rfl ?_
      refine zF_callVi 82 (d2 := (d + 9)) (as := [zI h, zI 4]) dL_isBest_79 rfl kL_113 iX11_house (ci := 11) rfl eX11_house (Nat.le_refl _) L18.1.bk L18.1.bl rfl rfl (Nat.le_of_ble_eq_true rfl) ((show zP1 G mX11_house _ _ σ18 (cShN N h (nF N)) from qL_house  (d := d + 1) hGd K18 (by omega) (by omega) (by omega) (by omega))) ?_
      refine zF_isub 83 dL_isBest_82 rfl ?_
      refine zF_iload 85 dL_isBest_83 rfl rfl ?_
      refine zF_icmp_le 90 88 dL_isBest_85 rfl rfl (by first | decide | assumption | exact hK.V.b _ | exact w32_rg _ | (constructor <;> omega)) (by first | decide | assumption | exact hK.V.b _ | exact w32_rg _ | (constructor <;> omega)) (fun c11 => ?_) (fun c11 => ?_)
      · refine zF_aload_n 91 dL_isBest_90 rfl rfl ?_
        refine zF_iload_n 92 dL_isBest_91 rfl rfl ?_
        refine zF_callV 95 (d2 := (d + 9)) (as := [zI h]) dL_isBest_92 rfl kL_158 iX11_program (ci := 11) rfl eX11_program (Nat.le_refl _) L18.1.bk L18.1.bl rfl rfl (Nat.le_of_ble_eq_true rfl) (zE.mono (pL_program (d := d + 0) hGd L18 h0 h1) fun ro σs92 hh92 => ?_)
        obtain ⟨er92, fr92, L92⟩ := hh92
        subst er92
        refine ⟨fr92.1, ?_⟩
        have K92 : cK T (prB N h) σs92 := L92.K
        obtain ⟨pp, pgn, pce, pw, pa⟩ := best_3 G hK h0 h1
        have p0 : prB N h 0 = N 0 := pp.1 0 (by omega)
        have p1 : prB N h 1 = N 1 := pp.1 1 (by omega)
        have p2 : prB N h 2 = N 2 := pp.1 2 (by omega)
        obtain ⟨b4, b5⟩ := best_4 G hK h0 h1
        have pc0 : 0 ≤ oPrV N h ∧ oPrV N h ≤ nn N h := prC_b _ _ _ _
        have nq := (nn_eq hK.mq.c h).2
        have F92 : zFr (cMu B0) σ σs92 := F18.tr (fr92)
        show zF G mL_isBest (d + 10) 95 [(6, zI ((x : Nat) : Int)), (5, zI vw), (4, zI (bG N h (lmP N h))), (2, zL (aV N)), (0, zR (B0 0)), (1, zI h)] [zI (oPrV N h)] σs92 _
        refine zF_istore 97 (ls' := [(6, zI (oPrV N h)), (5, zI vw), (4, zI (bG N h (lmP N h))), (2, zL (aV N)), (0, zR (B0 0)), (1, zI h)]) dL_isBest_95 rfl (by decide) rfl ?_
        refine zF_iload 99 dL_isBest_97 rfl rfl ?_
        refine zF_if_lt 130 102 dL_isBest_99 rfl rfl (by first | decide | assumption | exact hK.V.b _ | exact w32_rg _ | (constructor <;> omega)) (fun c12 => ?_) (fun c12 => ?_)
        · refine zF_iconst 131 dL_isBest_130 rfl ?_
          exact zF_zreturn dL_isBest_131 rfl (by decide) (by exfalso; omega)
        · refine zF_aload_n 103 dL_isBest_102 rfl rfl ?_
          refine zF_iload_n 104 dL_isBest_103 rfl rfl ?_
          refine zF_iconst 105 dL_isBest_104 rfl ?_
          refine zF_callVi 108 (d2 := (d + 9)) (as := [zI h, zI 3]) dL_isBest_105 rfl kL_113 iX11_house (ci := 11) rfl eX11_house (Nat.le_refl _) L92.1.bk L92.1.bl rfl rfl (Nat.le_of_ble_eq_true rfl) ((show zP1 G mX11_house _ _ σs92 (cHouseN (prB N h) h (nS (prB N h))) from qL_house (N := (prB N h)) (d := d + 1) hGd K92 (by omega) (by omega) (by omega) (by omega))) ?_
          refine zF_aload_n 109 dL_isBest_108 rfl rfl ?_
          refine zF_iload_n 110 dL_isBest_109 rfl rfl ?_
          refine zF_iconst 111 dL_isBest_110 rfl ?_
          refine zF_callVi 114 (d2 := (d + 9)) (as := [zI h, zI 4]) dL_isBest_111 rfl kL_113 iX11_house (ci := 11) rfl eX11_house (Nat.le_refl _) L92.1.bk L92.1.bl rfl rfl (Nat.le_of_ble_eq_true rfl) ((show zP1 G mX11_house _ _ σs92 (cShN (prB N h) h (nF (prB N h))) from qL_house (N := (prB N h)) (d := d + 1) hGd K92 (by omega) (by omega) (by omega) (by omega))) ?_
          refine zF_isub 115 dL_isBest_114 rfl ?_
          refine zF_iload 117 dL_isBest_115 rfl rfl ?_
          refine zF_icmp_ne 130 120 dL_isBest_117 rfl rfl (by first | decide | assumption | exact hK.V.b _ | exact w32_rg _ | (constructor <;> omega)) (by first | decide | assumption | exact hK.V.b _ | exact w32_rg _ | (constructor <;> omega)) (fun c13 => ?_) (fun c13 => ?_)
          · refine zF_iconst 131 dL_isBest_130 rfl ?_
            exact zF_zreturn dL_isBest_131 rfl (by decide) (by exfalso; omega)
          · refine zF_aload_n 121 dL_isBest_120 rfl rfl ?_
            refine zF_iload_n 122 dL_isBest_121 rfl rfl ?_
            refine zF_callV 125 (d2 := (d + 9)) (as := [zI h]) dL_isBest_122 rfl kL_214 iX11_bestGain (ci := 11) rfl eX11_bestGain (Nat.le_refl _) L92.1.bk L92.1.bl rfl rfl (Nat.le_of_ble_eq_true rfl) (zE.mono (qL_bestGain (N := (prB N h)) (d := d + 1) hGd K92 (by omega) (by omega)) fun ro σs122 hh122 => ?_)
            obtain ⟨er122, fr122⟩ := hh122
            subst er122
            refine ⟨fr122.1, ?_⟩
            have L122 : cL T (sRec (N, H, u) (prB N h)) σs122 := L92.sc fr122
            have K122 : cK T (prB N h) σs122 := L122.K
            have F122 : zFr (cMu B0) σ σs122 := F92.tr (cSc_mu fr122)
            show zF G mL_isBest (d + 10) 125 [(6, zI (oPrV N h)), (5, zI vw), (4, zI (bG N h (lmP N h))), (2, zL (aV N)), (0, zR (B0 0)), (1, zI h)] [zI (bG (prB N h) h (lmP (prB N h) h))] σs122 _
            refine zF_iload 127 dL_isBest_125 rfl rfl ?_
            refine zF_icmp_eq 132 130 dL_isBest_127 rfl rfl (by first | decide | assumption | exact hK.V.b _ | exact w32_rg _ | (constructor <;> omega)) (by first | decide | assumption | exact hK.V.b _ | exact w32_rg _ | (constructor <;> omega)) (fun c14 => ?_) (fun c14 => ?_)
            · refine zF_iconst 133 dL_isBest_132 rfl ?_
              refine zF_istore 135 (ls' := [(7, zI 0), (6, zI (oPrV N h)), (5, zI vw), (4, zI (bG N h (lmP N h))), (2, zL (aV N)), (0, zR (B0 0)), (1, zI h)]) dL_isBest_133 rfl (by decide) rfl ?_
              refine zF_locs (ls' := [(7, zI ((0 : Nat) : Int)), (4, zI (bG N h (lmP N h))), (2, zL (aV N)), (0, zR (B0 0)), (1, zI h)]) ⟨zlI rfl (by first | rfl | omega | (push_cast; omega) | exact congrArg (_ + ·) (zbT (by assumption)) | exact congrArg (_ + ·) (zbF (by assumption)) | exact congrArg (_ + ·) (zbT (by omega)) | exact congrArg (_ + ·) (zbF (by omega)) | exact congrArg (_ + ·) (if_pos (by omega)).symm | exact congrArg (_ + ·) (if_neg (by omega)).symm | exact (if_pos (by omega)).symm | exact (if_neg (by omega)).symm | exact zsub_s (if_pos (by omega)).symm | exact zsub_s0 (if_neg (by omega)).symm | exact zadd0 (if_neg (by omega)).symm | exact zadd0 (zbF (by omega)) | exact (Int.sub_zero _).symm), rfl, rfl, rfl, rfl, trivial⟩ ?_
              refine zF_while (X := Nat) (fun x => (N 1).toNat - x) (fun x σ135 => ((x : Nat) : Int) ≤ N 1 ∧ cL T (sRec (N, H, u) (prB N h)) σ135 ∧ zFr (cMu B0) σ σ135) (fun x => [(7, zI ((x : Nat) : Int)), (4, zI (bG N h (lmP N h))), (2, zL (aV N)), (0, zR (B0 0)), (1, zI h)]) ?_ 0 σs122 (⟨by omega, L122, F122⟩)
              intro x7 σ135 hI135 ih135
              show zF G mL_isBest (d + 10) 135 [(7, zI ((x7 : Nat) : Int)), (4, zI (bG N h (lmP N h))), (2, zL (aV N)), (0, zR (B0 0)), (1, zI h)] [] σ135 _
              obtain ⟨hx7, L135, F135⟩ := hI135
              have K135 : cK T (prB N h) σ135 := L135.K
              refine zF_iload 137 dL_isBest_135 rfl rfl ?_
              refine zF_aload_n 138 dL_isBest_137 rfl rfl ?_
              refine zF_iconst 139 dL_isBest_138 rfl ?_
              refine zF_callVi 142 (d2 := (d + 9)) (as := [zI 1]) dL_isBest_139 rfl kL_110 iX11_size (ci := 11) rfl eX11_size (Nat.le_refl _) L135.1.bk L135.1.bl rfl rfl (Nat.le_of_ble_eq_true rfl) ((show zP1 G mX11_size _ _ σ135 ((prB N h) 1) from qL_size (N := (prB N h)) (d := d + 1) hGd K135 (by omega) (by omega))) ?_
              refine zF_icmp_ge 180 145 dL_isBest_142 rfl rfl (by first | decide | assumption | exact hK.V.b _ | exact w32_rg _ | (constructor <;> omega)) (by first | decide | assumption | exact hK.V.b _ | exact w32_rg _ | (constructor <;> omega)) (fun c15 => ?_) (fun c15 => ?_)
              · refine zF_aload_n 181 dL_isBest_180 rfl rfl ?_
                refine zF_callV 184 (d2 := (d + 9)) (as := []) dL_isBest_181 rfl kL_220 iX11_undo (ci := 11) rfl eX11_undo (Nat.le_refl _) L135.1.bk L135.1.bl rfl rfl (Nat.le_of_ble_eq_true rfl) (zE.mono (pL_undo (d := d + 2) hGd L135) fun ro σs181 hh181 => ?_)
                obtain ⟨er181, fr181, L181⟩ := hh181
                subst er181
                refine ⟨fr181.1, ?_⟩
                obtain ⟨ou1, ou2, ou3⟩ := oUn_rec (N := N) (H := H) (u := u) (N' := prB N h) u0 hu
                rw [ou1] at L181
                rw [ou2]
                have F181 : zFr (cMu B0) σ σs181 := F135.tr (fr181)
                show zF G mL_isBest (d + 10) 184 [(7, zI ((x7 : Nat) : Int)), (4, zI (bG N h (lmP N h))), (2, zL (aV N)), (0, zR (B0 0)), (1, zI h)] [zI u] σs181 _
                refine zF_if_lt 200 187 dL_isBest_184 rfl rfl (by first | decide | assumption | exact hK.V.b _ | exact w32_rg _ | (constructor <;> omega)) (fun c16 => ?_) (fun c16 => ?_)
                · refine zF_iconst 201 dL_isBest_200 rfl ?_
                  exact zF_zreturn dL_isBest_201 rfl (by decide) (by exfalso; omega)
                · refine zF_aload_n 188 dL_isBest_187 rfl rfl ?_
                  refine zF_callS 191 (d2 := (d + 9)) (as := [zR (B0 0)]) dL_isBest_188 rfl kL_210 sL_all (Nat.le_refl _) rfl rfl (Nat.le_of_ble_eq_true rfl) (zE.mono (zt_L_all (d := d + 0) hGd L181.K) fun ro σx188 hh188 => ?_)
                  obtain ⟨es188, er188⟩ := hh188
                  replace es188 := es188.symm
                  subst es188
                  subst er188
                  refine ⟨rfl, ?_⟩
                  show zF G mL_isBest (d + 10) 191 [(7, zI ((x7 : Nat) : Int)), (4, zI (bG N h (lmP N h))), (2, zL (aV N)), (0, zR (B0 0)), (1, zI h)] [zL (aV N)] σs181 _
                  refine zF_lload_n 192 dL_isBest_191 rfl rfl ?_
                  refine zF_Lw2 ?_
                  refine zF_lcmp 193 dL_isBest_192 rfl (w64_rg _) (w64_rg _) ?_
                  rw [zlcm_self]
                  refine zF_if_ne 200 196 dL_isBest_193 rfl rfl (by first | decide | assumption | exact hK.V.b _ | exact w32_rg _ | (constructor <;> omega)) (fun c17 => ?_) (fun c17 => ?_)
                  · exact absurd c17 (by decide)
                  · refine zF_iconst 197 dL_isBest_196 rfl ?_
                    refine zF_goto 201 dL_isBest_197 rfl ?_
                    exact zF_zreturn dL_isBest_201 rfl (by decide) (⟨rfl, F181, hsR H u N, L181, ou3⟩)
              · have hv := K135.V.s (x7 : Int) (by omega) (by omega)
                refine zF_aload_n 146 dL_isBest_145 rfl rfl ?_
                refine zF_iload 148 dL_isBest_146 rfl rfl ?_
                refine zF_iconst 149 dL_isBest_148 rfl ?_
                refine zF_callVi 152 (d2 := (d + 9)) (as := [zI ((x7 : Nat) : Int), zI 0]) dL_isBest_149 rfl kL_108 iX11_screen (ci := 11) rfl eX11_screen (Nat.le_refl _) L135.1.bk L135.1.bl rfl rfl (Nat.le_of_ble_eq_true rfl) ((show zP1 G mX11_screen _ _ σ135 (mS (prB N h) ((x7 : Nat) : Int) 0) from qL_screen (N := (prB N h)) (d := d + 1) hGd K135 (by omega) (by omega) (by omega) (by omega))) ?_
                refine zF_iload_n 153 dL_isBest_152 rfl rfl ?_
                refine zF_icmp_ne 174 156 dL_isBest_153 rfl rfl (by first | decide | assumption | exact hK.V.b _ | exact w32_rg _ | (constructor <;> omega)) (by first | decide | assumption | exact hK.V.b _ | exact w32_rg _ | (constructor <;> omega)) (fun c18 => ?_) (fun c18 => ?_)
                · refine zF_iinc 177 (ls' := [(7, zI (((x7 : Nat) : Int) + 1)), (4, zI (bG N h (lmP N h))), (2, zL (aV N)), (0, zR (B0 0)), (1, zI h)]) dL_isBest_174 rfl rfl rfl (by decide) rfl ?_
                  refine zF_goto 135 dL_isBest_177 rfl ?_
                  exact zF_locs (ls' := [(7, zI (((x7 + 1) : Nat) : Int)), (4, zI (bG N h (lmP N h))), (2, zL (aV N)), (0, zR (B0 0)), (1, zI h)]) ⟨zlI rfl (by first | rfl | omega | (push_cast; omega) | exact congrArg (_ + ·) (zbT (by assumption)) | exact congrArg (_ + ·) (zbF (by assumption)) | exact congrArg (_ + ·) (zbT (by omega)) | exact congrArg (_ + ·) (zbF (by omega)) | exact congrArg (_ + ·) (if_pos (by omega)).symm | exact congrArg (_ + ·) (if_neg (by omega)).symm | exact (if_pos (by omega)).symm | exact (if_neg (by omega)).symm | exact zsub_s (if_pos (by omega)).symm | exact zsub_s0 (if_neg (by omega)).symm | exact zadd0 (if_neg (by omega)).symm | exact zadd0 (zbF (by omega)) | exact (Int.sub_zero _).symm), rfl, rfl, rfl, rfl, trivial⟩ (ih135 (x7 + 1) _ (by omega) (⟨by omega, L135, F135⟩))
                · have b6 := best_6 G hK h0 h1 (s := (x7 : Int)) (by omega) (by omega) (by omega)
                  refine zF_aload_n 157 dL_isBest_156 rfl rfl ?_
                  refine zF_iload 159 dL_isBest_157 rfl rfl ?_
                  refine zF_iconst 160 dL_isBest_159 rfl ?_
                  refine zF_callVi 163 (d2 := (d + 9)) (as := [zI ((x7 : Nat) : Int), zI 4]) dL_isBest_160 rfl kL_108 iX11_screen (ci := 11) rfl eX11_screen (Nat.le_refl _) L135.1.bk L135.1.bl rfl rfl (Nat.le_of_ble_eq_true rfl) ((show zP1 G mX11_screen _ _ σ135 (mS (prB N h) ((x7 : Nat) : Int) 4) from qL_screen (N := (prB N h)) (d := d + 1) hGd K135 (by omega) (by omega) (by omega) (by omega))) ?_
                  refine zF_aload_n 164 dL_isBest_163 rfl rfl ?_
                  refine zF_iload 166 dL_isBest_164 rfl rfl ?_
                  refine zF_callV 169 (d2 := (d + 9)) (as := [zI ((x7 : Nat) : Int)]) dL_isBest_166 rfl kL_217 iX11_bestFilm (ci := 11) rfl eX11_bestFilm (Nat.le_refl _) L135.1.bk L135.1.bl rfl rfl (Nat.le_of_ble_eq_true rfl) (zE.mono (qL_bestFilm (N := (prB N h)) (d := d + 1) hGd K135 (by omega) (by omega)) fun ro σs166 hh166 => ?_)
                  obtain ⟨er166, fr166⟩ := hh166
                  subst er166
                  refine ⟨fr166.1, ?_⟩
                  have L166 : cL T (sRec (N, H, u) (prB N h)) σs166 := L135.sc fr166
                  have K166 : cK T (prB N h) σs166 := L166.K
                  have F166 : zFr (cMu B0) σ σs166 := F135.tr (cSc_mu fr166)
                  show zF G mL_isBest (d + 10) 169 [(7, zI ((x7 : Nat) : Int)), (4, zI (bG N h (lmP N h))), (2, zL (aV N)), (0, zR (B0 0)), (1, zI h)] [zI (bfV (prB N h) ((x7 : Nat) : Int)), zI (mS (prB N h) ((x7 : Nat) : Int) 4)] σs166 _
                  refine zF_icmp_eq 174 172 dL_isBest_169 rfl rfl (by first | decide | assumption | exact hK.V.b _ | exact w32_rg _ | (constructor <;> omega)) (by first | decide | assumption | exact hK.V.b _ | exact w32_rg _ | (constructor <;> omega)) (fun c19 => ?_) (fun c19 => ?_)
                  · refine zF_iinc 177 (ls' := [(7, zI (((x7 : Nat) : Int) + 1)), (4, zI (bG N h (lmP N h))), (2, zL (aV N)), (0, zR (B0 0)), (1, zI h)]) dL_isBest_174 rfl rfl rfl (by decide) rfl ?_
                    refine zF_goto 135 dL_isBest_177 rfl ?_
                    exact zF_locs (ls' := [(7, zI (((x7 + 1) : Nat) : Int)), (4, zI (bG N h (lmP N h))), (2, zL (aV N)), (0, zR (B0 0)), (1, zI h)]) ⟨zlI rfl (by first | rfl | omega | (push_cast; omega) | exact congrArg (_ + ·) (zbT (by assumption)) | exact congrArg (_ + ·) (zbF (by assumption)) | exact congrArg (_ + ·) (zbT (by omega)) | exact congrArg (_ + ·) (zbF (by omega)) | exact congrArg (_ + ·) (if_pos (by omega)).symm | exact congrArg (_ + ·) (if_neg (by omega)).symm | exact (if_pos (by omega)).symm | exact (if_neg (by omega)).symm | exact zsub_s (if_pos (by omega)).symm | exact zsub_s0 (if_neg (by omega)).symm | exact zadd0 (if_neg (by omega)).symm | exact zadd0 (zbF (by omega)) | exact (Int.sub_zero _).symm), rfl, rfl, rfl, rfl, trivial⟩ (ih135 (x7 + 1) _ (by omega) (⟨by omega, L166, F166⟩))
                  · refine zF_iconst 173 dL_isBest_172 rfl ?_
                    exact zF_zreturn dL_isBest_173 rfl (by decide) (by exfalso; omega)
            · refine zF_iconst 131 dL_isBest_130 rfl ?_
              exact zF_zreturn dL_isBest_131 rfl (by decide) (by exfalso; omega)
      · refine zF_iconst 89 dL_isBest_88 rfl ?_
        exact zF_zreturn dL_isBest_89 rfl (by decide) (by exfalso; omega)
  · have hv := hK.V.s (x : Int) (by omega) (by omega)
    refine zF_iload 30 dL_isBest_28 rfl rfl ?_
    refine zF_aload_n 31 dL_isBest_30 rfl rfl ?_
    refine zF_iload 33 dL_isBest_31 rfl rfl ?_
    refine zF_iconst 34 dL_isBest_33 rfl ?_
    refine zF_callVi 37 (d2 := (d + 9)) (as := [zI ((x : Nat) : Int), zI 0]) dL_isBest_34 rfl kL_108 iX11_screen (ci := 11) rfl eX11_screen (Nat.le_refl _) L18.1.bk L18.1.bl rfl rfl (Nat.le_of_ble_eq_true rfl) ((show zP1 G mX11_screen _ _ σ18 (mS N ((x : Nat) : Int) 0) from qL_screen  (d := d + 1) hGd K18 (by omega) (by omega) (by omega) (by omega))) ?_
    refine zF_iload_n 38 dL_isBest_37 rfl rfl ?_
    refine zF_icmp_ne 51 41 dL_isBest_38 rfl rfl (by first | decide | assumption | exact hK.V.b _ | exact w32_rg _ | (constructor <;> omega)) (by first | decide | assumption | exact hK.V.b _ | exact w32_rg _ | (constructor <;> omega)) (fun c20 => ?_) (fun c20 => ?_)
    · refine zF_iconst 52 dL_isBest_51 rfl ?_
      refine zF_goto 56 dL_isBest_52 rfl ?_
      refine zF_iand 57 dL_isBest_56 rfl ?_
      refine zF_I (b := vw) (and_1 v01) ?_
      refine zF_istore 59 (ls' := [(5, zI vw), (6, zI ((x : Nat) : Int)), (4, zI (bG N h (lmP N h))), (2, zL (aV N)), (0, zR (B0 0)), (1, zI h)]) dL_isBest_57 rfl (by decide) rfl ?_
      refine zF_iinc 62 (ls' := [(6, zI (((x : Nat) : Int) + 1)), (5, zI vw), (4, zI (bG N h (lmP N h))), (2, zL (aV N)), (0, zR (B0 0)), (1, zI h)]) dL_isBest_59 rfl rfl rfl (by decide) rfl ?_
      refine zF_goto 18 dL_isBest_62 rfl ?_
      exact zF_locs (ls' := [(6, zI (((x + 1) : Nat) : Int)), (5, zI vw), (4, zI (bG N h (lmP N h))), (2, zL (aV N)), (0, zR (B0 0)), (1, zI h)]) ⟨zlI rfl (by first | rfl | omega | (push_cast; omega) | exact congrArg (_ + ·) (zbT (by assumption)) | exact congrArg (_ + ·) (zbF (by assumption)) | exact congrArg (_ + ·) (zbT (by omega)) | exact congrArg (_ + ·) (zbF (by omega)) | exact congrArg (_ + ·) (if_pos (by omega)).symm | exact congrArg (_ + ·) (if_neg (by omega)).symm | exact (if_pos (by omega)).symm | exact (if_neg (by omega)).symm | exact zsub_s (if_pos (by omega)).symm | exact zsub_s0 (if_neg (by omega)).symm | exact zadd0 (if_neg (by omega)).symm | exact zadd0 (zbF (by omega)) | exact (Int.sub_zero _).symm), rfl, rfl, rfl, rfl, rfl, trivial⟩ (ih18 ((x + 1), vw) _ (by show (N 1).toNat - (x + 1) < (N 1).toNat - x; omega) (⟨by show ((x + 1 : Nat) : Int) ≤ N 1; omega, v01, fun q i i0 i1 e => (by
  by_cases c : i = (x : Int)
  · subst c
    omega
  · exact wv q i i0 (by have i2 : i < ((x + 1 : Nat) : Int) := i1; omega) e), L18, F18⟩))
    · refine zF_aload_n 42 dL_isBest_41 rfl rfl ?_
      refine zF_iload 44 dL_isBest_42 rfl rfl ?_
      refine zF_iconst 45 dL_isBest_44 rfl ?_
      refine zF_callVi 48 (d2 := (d + 9)) (as := [zI ((x : Nat) : Int), zI 5]) dL_isBest_45 rfl kL_108 iX11_screen (ci := 11) rfl eX11_screen (Nat.le_refl _) L18.1.bk L18.1.bl rfl rfl (Nat.le_of_ble_eq_true rfl) ((show zP1 G mX11_screen _ _ σ18 (mS N ((x : Nat) : Int) 5) from qL_screen  (d := d + 1) hGd K18 (by omega) (by omega) (by omega) (by omega))) ?_
      refine zF_if_ge 55 51 dL_isBest_48 rfl rfl (by first | decide | assumption | exact hK.V.b _ | exact w32_rg _ | (constructor <;> omega)) (fun c21 => ?_) (fun c21 => ?_)
      · refine zF_iconst 56 dL_isBest_55 rfl ?_
        refine zF_iand 57 dL_isBest_56 rfl ?_
        refine zF_I (b := 0) (and_0 v01) ?_
        refine zF_istore 59 (ls' := [(5, zI 0), (6, zI ((x : Nat) : Int)), (4, zI (bG N h (lmP N h))), (2, zL (aV N)), (0, zR (B0 0)), (1, zI h)]) dL_isBest_57 rfl (by decide) rfl ?_
        refine zF_iinc 62 (ls' := [(6, zI (((x : Nat) : Int) + 1)), (5, zI 0), (4, zI (bG N h (lmP N h))), (2, zL (aV N)), (0, zR (B0 0)), (1, zI h)]) dL_isBest_59 rfl rfl rfl (by decide) rfl ?_
        refine zF_goto 18 dL_isBest_62 rfl ?_
        exact zF_locs (ls' := [(6, zI (((x + 1) : Nat) : Int)), (5, zI 0), (4, zI (bG N h (lmP N h))), (2, zL (aV N)), (0, zR (B0 0)), (1, zI h)]) ⟨zlI rfl (by first | rfl | omega | (push_cast; omega) | exact congrArg (_ + ·) (zbT (by assumption)) | exact congrArg (_ + ·) (zbF (by assumption)) | exact congrArg (_ + ·) (zbT (by omega)) | exact congrArg (_ + ·) (zbF (by omega)) | exact congrArg (_ + ·) (if_pos (by omega)).symm | exact congrArg (_ + ·) (if_neg (by omega)).symm | exact (if_pos (by omega)).symm | exact (if_neg (by omega)).symm | exact zsub_s (if_pos (by omega)).symm | exact zsub_s0 (if_neg (by omega)).symm | exact zadd0 (if_neg (by omega)).symm | exact zadd0 (zbF (by omega)) | exact (Int.sub_zero _).symm), rfl, rfl, rfl, rfl, rfl, trivial⟩ (ih18 ((x + 1), 0) _ (by show (N 1).toNat - (x + 1) < (N 1).toNat - x; omega) (⟨by show ((x + 1 : Nat) : Int) ≤ N 1; omega, Or.inl rfl, fun q => absurd (show (0 : Int) = 1 from q) (by decide), L18, F18⟩))
      · refine zF_iconst 52 dL_isBest_51 rfl ?_
        refine zF_goto 56 dL_isBest_52 rfl ?_
        refine zF_iand 57 dL_isBest_56 rfl ?_
        refine zF_I (b := vw) (and_1 v01) ?_
        refine zF_istore 59 (ls' := [(5, zI vw), (6, zI ((x : Nat) : Int)), (4, zI (bG N h (lmP N h))), (2, zL (aV N)), (0, zR (B0 0)), (1, zI h)]) dL_isBest_57 rfl (by decide) rfl ?_
        refine zF_iinc 62 (ls' := [(6, zI (((x : Nat) : Int) + 1)), (5, zI vw), (4, zI (bG N h (lmP N h))), (2, zL (aV N)), (0, zR (B0 0)), (1, zI h)]) dL_isBest_59 rfl rfl rfl (by decide) rfl ?_
        refine zF_goto 18 dL_isBest_62 rfl ?_
        exact zF_locs (ls' := [(6, zI (((x + 1) : Nat) : Int)), (5, zI vw), (4, zI (bG N h (lmP N h))), (2, zL (aV N)), (0, zR (B0 0)), (1, zI h)]) ⟨zlI rfl (by first | rfl | omega | (push_cast; omega) | exact congrArg (_ + ·) (zbT (by assumption)) | exact congrArg (_ + ·) (zbF (by assumption)) | exact congrArg (_ + ·) (zbT (by omega)) | exact congrArg (_ + ·) (zbF (by omega)) | exact congrArg (_ + ·) (if_pos (by omega)).symm | exact congrArg (_ + ·) (if_neg (by omega)).symm | exact (if_pos (by omega)).symm | exact (if_neg (by omega)).symm | exact zsub_s (if_pos (by omega)).symm | exact zsub_s0 (if_neg (by omega)).symm | exact zadd0 (if_neg (by omega)).symm | exact zadd0 (zbF (by omega)) | exact (Int.sub_zero _).symm), rfl, rfl, rfl, rfl, rfl, trivial⟩ (ih18 ((x + 1), vw) _ (by show (N 1).toNat - (x + 1) < (N 1).toNat - x; omega) (⟨by show ((x + 1 : Nat) : Int) ≤ N 1; omega, v01, fun q i i0 i1 e => (by
  by_cases c : i = (x : Int)
  · subst c
    omega
  · exact wv q i i0 (by have i2 : i < ((x + 1 : Nat) : Int) := i1; omega) e), L18, F18⟩))
end ZQA

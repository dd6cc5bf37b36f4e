/-! act: a house's program booked on both sides -/
section ZQF
variable {G : zG} {d : Nat} {σ σ2 σ3 σ4 : zMem} {N : Int → Int} {H : Int → Int → Int} {u T w z3 vv f h s : Int} {E : Nat → Nat} {n0 a c x : Nat}
/-- the loop of a program: the roster at a, the best films at c -/
noncomputable def pgI (N : Int → Int) (h : Int) (E : Nat → Nat) (a c : Nat) (σ2 : zMem) (x : Nat) (σ3 : zMem) : Prop := x ≤ nn N h ∧ eO (prN N h (bF N h (lmP N h)) x) σ3 E ∧ zGE E (zn σ2) σ2 σ3 ∧ (zn σ3 = zn σ2 ∧ zcs σ3 = zcs σ2 ∧ zss σ3 = zss σ2) ∧ (zkd σ3 a = (1, nn N h) ∧ zkd σ3 c = (1, nn N h + 1)) ∧ ∀ k : Nat, k < nn N h → zia σ3 a k = rk N h k ∧ zia σ3 c k = bF N h (lmP N h) k
theorem pgI_s (hx : x < nn N h) (i : pgI N h E a c σ2 x σ3) (ha : ∀ i, a ≠ E i) (hc : ∀ i, c ≠ E i) (fr : zFr (eP E) σ3 σ4) (O : eO (mBook (prN N h (bF N h (lmP N h)) x) (rk N h x) (bF N h (lmP N h) x) (-1) 0 (mS N (rk N h x) 7)) σ4 E) : pgI N h E a c σ2 (x + 1) σ4 := by
  obtain ⟨i1, i2, i3, i4, i5, i6⟩ := i
  refine ⟨by omega, O, i3.tr (zGE.fr fr), ⟨fr.1.trans i4.1, fr.2.2.2.1.trans i4.2.1, fr.2.2.2.2.1.trans i4.2.2⟩, ⟨by rw [fr.2.1]; exact i5.1, by rw [fr.2.1]; exact i5.2⟩, fun k hk => ⟨(fr.2.2.2.2.2 a k (fun z => by obtain ⟨j, e⟩ := z; exact ha j e)).trans (i6 k hk).1, (fr.2.2.2.2.2 c k (fun z => by obtain ⟨j, e⟩ := z; exact hc j e)).trans (i6 k hk).2⟩⟩
set_option maxRecDepth 20000 in
theorem act_program (hGd : zGd G) (hAO : zAO G) (hL : cL T (N, H, u) σ) (hT : T ≤ 19999) (hE : eO N σ E) (hU : eU E n0 (zn σ)) (hn0 : 228 ≤ n0) (hbg : zn σ + 10 < zbg) (h0 : 0 ≤ h) (h1 : h < N 0) : zF G mL_act (d + 10) 325 [(6, zI h), (5, zI f), (4, zI w), (3, zI z3), (0, zR (B0 0)), (1, zR (E 0)), (2, zI vv)] [] σ (pAct N H u T E n0 σ) := by
  have hK : cK T N σ := hL.K
  have hV := hK.V
  have hn := hV.n
  have hb := eB_of hV
  have hE228 := hU.ge228 hn0
  have hs228 := hL.1.1
  refine zF_aload_n 326 dL_act_325 rfl rfl ?_
  refine zF_iload 328 dL_act_326 rfl rfl ?_
  refine zF_callVN 331 (d2 := (d + 9)) (as := [zI h]) dL_act_328 rfl knL_48 iX12_roster (ci := 12) rfl eX12_roster (Nat.le_refl _) hE.k0 hE.l0 rfl rfl (Nat.le_of_ble_eq_true rfl) (by exact (⟨trivial, trivial, trivial, trivial, zwR hL.1.bl, zwR hE.l0, trivial, trivial⟩ : _ ∧ _ ∧ _ ∧ _ ∧ _ ∧ _ ∧ _ ∧ True)) (by exact trivial) (zE.mono (zt_X12_roster hE hV hK.mq.c (by constructor <;> omega) (by omega)) fun ro σ331 hh331 => ⟨_, hh331.1, ?_⟩)
  obtain ⟨-, g331, ⟨n331, c331, q331⟩, k331, v331⟩ := hh331
  have hE331 := hE.gw hV g331
  show zF G mL_act (d + 10) 331 [(6, zI h), (5, zI f), (4, zI w), (3, zI z3), (0, zR (B0 0)), (1, zR (E 0)), (2, zI vv)] [zR (zn σ)] σ331 _
  refine zF_astore 333 (ls' := [(7, zR (zn σ)), (6, zI h), (5, zI f), (4, zI w), (3, zI z3), (0, zR (B0 0)), (1, zR (E 0)), (2, zI vv)]) dL_act_331 rfl (by decide) rfl ?_
  refine zF_aload_n 334 dL_act_333 rfl rfl ?_
  refine zF_iload 336 dL_act_334 rfl rfl ?_
  refine zF_callVN 339 (d2 := (d + 9)) (as := [zI h]) dL_act_336 rfl knL_151 iX12_best (ci := 12) rfl eX12_best (Nat.le_refl _) hE331.k0 hE331.l0 rfl rfl (Nat.le_of_ble_eq_true rfl) (by exact (⟨zwR (show zn σ < zn σ331 by omega), trivial, trivial, trivial, trivial, zwR (hL.ge (zGE.gw (E := E) g331) hs228 hE228).1.bl, zwR hE331.l0, trivial, trivial⟩ : _ ∧ _ ∧ _ ∧ _ ∧ _ ∧ _ ∧ _ ∧ _ ∧ True)) (by exact trivial) (zE.mono (zt_X12_best (d := d + 6) hE331 hV hK.W hK.mq.c h0 h1 (by omega)) fun ro σ339 hh339 => ⟨_, hh339.1, ?_⟩)
  obtain ⟨-, ⟨g339, ⟨n339, c339, q339⟩, -, kb339, -, -⟩, mx339, lx339⟩ := hh339
  obtain ⟨bm, bl, bg0, bge, bg5⟩ := best_1 G hK h0 h1
  have eb := bG_eq mx339
  have eF := bF_eq (by omega) (lx339 (by omega))
  have nq := (nn_eq hK.mq.c h).2
  have hE339 := hE331.gw hV g339
  have g2 : zGE E (zn σ) σ σ339 := (zGE.gw g331).tr ⟨g339.1, fun y hy => ⟨(g339.2 y (by omega)).1, fun _ j => (g339.2 y (by omega)).2 j⟩⟩
  have e1 : zbg = 1000000 := rfl
  have hae : ∀ i, zn σ ≠ E i := fun i => by have := hU i; omega
  have hce : ∀ i, zn σ331 + 1 ≠ E i := fun i => by have := hU i; omega
  have i0 : pgI N h E (zn σ) (zn σ331 + 1) σ339 0 σ339 := ⟨Nat.zero_le _, hE339, zGE.rf, ⟨rfl, rfl, rfl⟩, ⟨(g339.2 (zn σ) (by omega)).1.trans k331, kb339⟩, fun k hk => ⟨((g339.2 (zn σ) (by omega)).2 k).2.trans (v331 k hk), eF k hk⟩⟩
  clear mx339 lx339 eb eF bm bge
  show zF G mL_act (d + 10) 339 [(7, zR (zn σ)), (6, zI h), (5, zI f), (4, zI w), (3, zI z3), (0, zR (B0 0)), (1, zR (E 0)), (2, zI vv)] [zR (zn σ331 + 1)] σ339 _
  refine zF_astore 341 (ls' := [(8, zR (zn σ331 + 1)), (7, zR (zn σ)), (6, zI h), (5, zI f), (4, zI w), (3, zI z3), (0, zR (B0 0)), (1, zR (E 0)), (2, zI vv)]) dL_act_339 rfl (by decide) rfl ?_
  refine zF_iconst 342 dL_act_341 rfl ?_
  refine zF_istore 344 (ls' := [(9, zI 0), (8, zR (zn σ331 + 1)), (7, zR (zn σ)), (6, zI h), (5, zI f), (4, zI w), (3, zI z3), (0, zR (B0 0)), (1, zR (E 0)), (2, zI vv)]) dL_act_342 rfl (by decide) rfl ?_
  refine zF_iconst 345 dL_act_344 rfl ?_
  refine zF_istore 347 (ls' := [(10, zI 0), (9, zI 0), (8, zR (zn σ331 + 1)), (7, zR (zn σ)), (6, zI h), (5, zI f), (4, zI w), (3, zI z3), (0, zR (B0 0)), (1, zR (E 0)), (2, zI vv)]) dL_act_345 rfl (by decide) rfl ?_
  refine zF_locs (ls' := [(10, zI ((0 : Nat) : Int)), (9, zI (prC N h (bF N h (lmP N h)) 0)), (8, zR (zn σ331 + 1)), (7, zR (zn σ)), (6, zI h), (5, zI f), (4, zI w), (3, zI z3), (0, zR (B0 0)), (1, zR (E 0)), (2, zI vv)]) ⟨zlI rfl (by first | rfl | omega | (push_cast; omega) | exact congrArg (_ + ·) (zbT (by assumption)) | exact congrArg (_ + ·) (zbF (by assumption)) | exact congrArg (_ + ·) (zbT (by omega)) | exact congrArg (_ + ·) (zbF (by omega)) | exact congrArg (_ + ·) (if_pos (by omega)).symm | exact congrArg (_ + ·) (if_neg (by omega)).symm | exact (if_pos (by omega)).symm | exact (if_neg (by omega)).symm | exact zsub_s (if_pos (by omega)).symm | exact zsub_s0 (if_neg (by omega)).symm | exact zadd0 (if_neg (by omega)).symm | exact zadd0 (zbF (by omega)) | exact (Int.sub_zero _).symm), zlI rfl (by first | rfl | omega | (push_cast; omega) | exact congrArg (_ + ·) (zbT (by assumption)) | exact congrArg (_ + ·) (zbF (by assumption)) | exact congrArg (_ + ·) (zbT (by omega)) | exact congrArg (_ + ·) (zbF (by omega)) | exact congrArg (_ + ·) (if_pos (by omega)).symm | exact congrArg (_ + ·) (if_neg (by omega)).symm | exact (if_pos (by omega)).symm | exact (if_neg (by omega)).symm | exact zsub_s (if_pos (by omega)).symm | exact zsub_s0 (if_neg (by omega)).symm | exact zadd0 (if_neg (by omega)).symm | exact zadd0 (zbF (by omega)) | exact (Int.sub_zero _).symm), rfl, rfl, rfl, rfl, rfl, rfl, rfl, rfl, rfl, trivial⟩ ?_
  refine zF_while (X := Nat) (fun z => nn N h - z) (fun z σ347 => pgI N h E (zn σ) (zn σ331 + 1) σ339 z σ347) (fun z => [(10, zI ((z : Nat) : Int)), (9, zI (prC N h (bF N h (lmP N h)) z)), (8, zR (zn σ331 + 1)), (7, zR (zn σ)), (6, zI h), (5, zI f), (4, zI w), (3, zI z3), (0, zR (B0 0)), (1, zR (E 0)), (2, zI vv)]) ?_ 0 σ339 (i0)
  intro x σ347 hI347 ih347
  show zF G mL_act (d + 10) 347 [(10, zI ((x : Nat) : Int)), (9, zI (prC N h (bF N h (lmP N h)) x)), (8, zR (zn σ331 + 1)), (7, zR (zn σ)), (6, zI h), (5, zI f), (4, zI w), (3, zI z3), (0, zR (B0 0)), (1, zR (E 0)), (2, zI vv)] [] σ347 _
  have hI := hI347
  have hO : eO (prN N h (bF N h (lmP N h)) x) σ347 E := hI.2.1
  have hxn : x ≤ nn N h := hI.1
  have lt1 : zn σ < zn σ347 := by have := hI.2.2.2.1.1; omega
  have lt2 : zn σ331 + 1 < zn σ347 := by have := hI.2.2.2.1.1; omega
  have g3 : zGE E (zn σ) σ σ347 := g2.tr ⟨hI.2.2.1.1, fun y hy => hI.2.2.1.2 y (by omega)⟩
  have L347 := hL.ge g3 hs228 hE228
  have pcb := prC_b N h (bF N h (lmP N h)) x
  refine zF_iload 349 dL_act_347 rfl rfl ?_
  refine zF_aload 351 dL_act_349 rfl rfl ?_
  refine zF_alen 352 dL_act_351 rfl (by decide) hI.2.2.2.2.1.1 lt1 ?_
  refine zF_icmp_ge 423 355 dL_act_352 rfl rfl (by first | decide | assumption | exact hV.b _ | exact mSh_rg hV.b _ _ | (constructor <;> omega)) (by first | decide | assumption | exact hV.b _ | exact mSh_rg hV.b _ _ | (constructor <;> omega)) (fun c1 => ?_) (fun c1 => ?_)
  · have ex : x = nn N h := by omega
    have eo : oPrV N h = prC N h (bF N h (lmP N h)) x := by rw [ex]; rfl
    have hOB : eO (prB N h) σ347 E := by have q := hO; rw [ex] at q; exact q
    refine zF_aload_n 424 dL_act_423 rfl rfl ?_
    refine zF_iload 426 dL_act_424 rfl rfl ?_
    refine zF_callV 429 (d2 := (d + 9)) (as := [zI h]) dL_act_426 rfl kL_158 iX11_program (ci := 11) rfl eX11_program (Nat.le_refl _) L347.1.bk L347.1.bl rfl rfl (Nat.le_of_ble_eq_true rfl) (zE.mono (pL_program (d := d) hGd L347 h0 h1) fun ro σs426 hh426 => ?_)
    obtain ⟨er426, fr426, L426⟩ := hh426
    subst er426
    refine ⟨fr426.1, ?_⟩
    show zF G mL_act (d + 10) 429 [(10, zI ((x : Nat) : Int)), (9, zI (prC N h (bF N h (lmP N h)) x)), (8, zR (zn σ331 + 1)), (7, zR (zn σ)), (6, zI h), (5, zI f), (4, zI w), (3, zI z3), (0, zR (B0 0)), (1, zR (E 0)), (2, zI vv)] [zI (oPrV N h)] σs426 _
    refine zF_iload 431 dL_act_429 rfl rfl ?_
    refine zF_icmp_ne 438 434 dL_act_431 rfl rfl (by first | decide | assumption | exact hV.b _ | exact mSh_rg hV.b _ _ | (constructor <;> omega)) (by first | decide | assumption | exact hV.b _ | exact mSh_rg hV.b _ _ | (constructor <;> omega)) (fun c2 => ?_) (fun c2 => ?_)
    · refine zF_iconst 439 dL_act_438 rfl ?_
      exact zF_ireturn dL_act_439 rfl (by exfalso; omega)
    · refine zF_iconst 435 dL_act_434 rfl ?_
      refine zF_goto 439 dL_act_435 rfl ?_
      exact zF_ireturn dL_act_439 rfl (pAct_do ((zAE_ge g3).tr (zAE_fr fr426)) (zB.tr (σ1 := σ347) (a := 4) (b := 4) ⟨by have := hI.2.2.2.1; omega, by have := hI.2.2.2.1; omega, by have := hI.2.2.2.1; omega⟩ (zB_fr fr426)) rfl (L426.ups (by omega)) (hOB.mu fr426 (hU.wk g3.1) hn0 (by have := hI.2.2.2.1; omega)) (by rw [fr426.1]; exact hU.wk g3.1) (aTo_eq hV fun j hj => prN_o hV (Nat.le_refl _) (by omega)))
  · have hx : x < nn N h := by omega
    have hr := rk_b hV (h := h) (k := (x : Int)) (by omega) (by omega)
    have iR : ∀ k : Nat, k < nn N h → zia σ347 (zn σ) k = rk N h k ∧ zia σ347 (zn σ331 + 1) k = bF N h (lmP N h) k := hI.2.2.2.2.2
    have hv := hV.s (rk N h (x : Int)) hr.1 (by omega)
    have p1 : prN N h (bF N h (lmP N h)) x 1 = N 1 := prN_o hV hxn (by omega)
    have hr1 : rk N h (x : Int) < prN N h (bF N h (lmP N h)) x 1 := by omega
    have hR := hO.r7 (rk N h (x : Int)) hr.1 hr1
    have hbf := bF_b hV hK.W bl.1 x hx
    refine zF_aload_n 356 dL_act_355 rfl rfl ?_
    refine zF_getRN 359 dL_act_356 rfl gnL_52 hO.k0 hO.l0 (hO.f 7 6 10 (by decide)).1 ?_
    refine zF_aload 361 dL_act_359 rfl rfl ?_
    refine zF_iload 363 dL_act_361 rfl rfl ?_
    refine zF_iaload 364 dL_act_363 rfl hI.2.2.2.2.1.1 lt1 (by omega) (by omega) ((iR x hx).1) ?_
    refine zF_aaldA 365 dL_act_364 rfl (hO.f 7 6 10 (by decide)).2.2 (hO.f 7 6 10 (by decide)).2.1 (by omega) (by omega) hR.1 ?_
    refine zF_astore 367 (ls' := [(11, zR (E (700 + (rk N h (x : Int)).toNat))), (10, zI ((x : Nat) : Int)), (9, zI (prC N h (bF N h (lmP N h)) x)), (8, zR (zn σ331 + 1)), (7, zR (zn σ)), (6, zI h), (5, zI f), (4, zI w), (3, zI z3), (0, zR (B0 0)), (1, zR (E 0)), (2, zI vv)]) dL_act_365 rfl (by decide) rfl ?_
    refine zF_iload 369 dL_act_367 rfl rfl ?_
    have jn393 : ∀ v : Int, v = (zb (mS N (rk N h (x : Int)) 4 ≠ bF N h (lmP N h) (x : Int) ∨ mS N (rk N h (x : Int)) 5 ≠ -1)) → zF G mL_act (d + 10) 393 [(11, zR (E (700 + (rk N h (x : Int)).toNat))), (10, zI ((x : Nat) : Int)), (9, zI (prC N h (bF N h (lmP N h)) x)), (8, zR (zn σ331 + 1)), (7, zR (zn σ)), (6, zI h), (5, zI f), (4, zI w), (3, zI z3), (0, zR (B0 0)), (1, zR (E 0)), (2, zI vv)] (zI v :: [zI (prC N h (bF N h (lmP N h)) x)]) σ347 (pAct N H u T E n0 σ) := by
      intro v hv
      subst hv
      refine zF_iadd 394 dL_act_393 rfl ?_
      refine zF_istore 396 (ls' := [(9, zI ((prC N h (bF N h (lmP N h)) x) + (zb (mS N (rk N h (x : Int)) 4 ≠ bF N h (lmP N h) (x : Int) ∨ mS N (rk N h (x : Int)) 5 ≠ -1)))), (11, zR (E (700 + (rk N h (x : Int)).toNat))), (10, zI ((x : Nat) : Int)), (8, zR (zn σ331 + 1)), (7, zR (zn σ)), (6, zI h), (5, zI f), (4, zI w), (3, zI z3), (0, zR (B0 0)), (1, zR (E 0)), (2, zI vv)]) dL_act_394 rfl (by decide) rfl ?_
      refine zF_aload_n 397 dL_act_396 rfl rfl ?_
      refine zF_aload 399 dL_act_397 rfl rfl ?_
      refine zF_iload 401 dL_act_399 rfl rfl ?_
      refine zF_iaload 402 dL_act_401 rfl hI.2.2.2.2.1.1 lt1 (by omega) (by omega) ((iR x hx).1) ?_
      refine zF_aload 404 dL_act_402 rfl rfl ?_
      refine zF_iload 406 dL_act_404 rfl rfl ?_
      refine zF_iaload 407 dL_act_406 rfl hI.2.2.2.2.1.2 lt2 (by omega) (by omega) ((iR x hx).2) ?_
      refine zF_iconst 408 dL_act_407 rfl ?_
      refine zF_iconst 409 dL_act_408 rfl ?_
      refine zF_aload 411 dL_act_409 rfl rfl ?_
      refine zF_bipush 413 dL_act_411 rfl (by decide) ?_
      refine zF_iaload 414 dL_act_413 rfl hR.2.2 hR.2.1 (by omega) (by omega) ((hO.c7 _ _ hr.1 hr1 (by omega) (by omega)).trans (prN_now hV hx (by omega) (by omega))) ?_
      refine zF_callVN 417 (d2 := (d + 9)) (as := [zI (rk N h (x : Int)), zI (bF N h (lmP N h) (x : Int)), zI (-1), zI 0, zI (mS N (rk N h (x : Int)) 7)]) dL_act_414 rfl knL_154 iX12_book (ci := 12) rfl eX12_book (Nat.le_refl _) hO.k0 hO.l0 rfl rfl (Nat.le_of_ble_eq_true rfl) (by exact (⟨trivial, zwR hR.2.1, trivial, zwR lt2, zwR lt1, trivial, trivial, trivial, trivial, zwR L347.1.bl, zwR hO.l0, trivial, trivial⟩ : _ ∧ _ ∧ _ ∧ _ ∧ _ ∧ _ ∧ _ ∧ _ ∧ _ ∧ _ ∧ _ ∧ _ ∧ True)) (by exact trivial) (zE.mono (zt_X12_book hO (prN_V hV (bF_b hV hK.W bl.1) x (by omega)) hr.1 hr1) fun ro σs414 hh414 => ⟨_, hh414.1, ?_⟩)
      obtain ⟨-, fr414, O414⟩ := hh414
      have I414 := pgI_s hx hI hae hce fr414 O414
      show zF G mL_act (d + 10) 417 [(9, zI ((prC N h (bF N h (lmP N h)) x) + (zb (mS N (rk N h (x : Int)) 4 ≠ bF N h (lmP N h) (x : Int) ∨ mS N (rk N h (x : Int)) 5 ≠ -1)))), (11, zR (E (700 + (rk N h (x : Int)).toNat))), (10, zI ((x : Nat) : Int)), (8, zR (zn σ331 + 1)), (7, zR (zn σ)), (6, zI h), (5, zI f), (4, zI w), (3, zI z3), (0, zR (B0 0)), (1, zR (E 0)), (2, zI vv)] [] σs414 _
      refine zF_iinc 420 (ls' := [(10, zI (((x : Nat) : Int) + 1)), (9, zI ((prC N h (bF N h (lmP N h)) x) + (zb (mS N (rk N h (x : Int)) 4 ≠ bF N h (lmP N h) (x : Int) ∨ mS N (rk N h (x : Int)) 5 ≠ -1)))), (11, zR (E (700 + (rk N h (x : Int)).toNat))), (8, zR (zn σ331 + 1)), (7, zR (zn σ)), (6, zI h), (5, zI f), (4, zI w), (3, zI z3), (0, zR (B0 0)), (1, zR (E 0)), (2, zI vv)]) dL_act_417 rfl rfl rfl (by decide) rfl ?_
      refine zF_goto 347 dL_act_420 rfl ?_
      exact zF_locs (ls' := [(10, zI (((x + 1) : Nat) : Int)), (9, zI (prC N h (bF N h (lmP N h)) (x + 1))), (8, zR (zn σ331 + 1)), (7, zR (zn σ)), (6, zI h), (5, zI f), (4, zI w), (3, zI z3), (0, zR (B0 0)), (1, zR (E 0)), (2, zI vv)]) ⟨zlI rfl (by first | rfl | omega | (push_cast; omega) | exact congrArg (_ + ·) (zbT (by assumption)) | exact congrArg (_ + ·) (zbF (by assumption)) | exact congrArg (_ + ·) (zbT (by omega)) | exact congrArg (_ + ·) (zbF (by omega)) | exact congrArg (_ + ·) (if_pos (by omega)).symm | exact congrArg (_ + ·) (if_neg (by omega)).symm | exact (if_pos (by omega)).symm | exact (if_neg (by omega)).symm | exact zsub_s (if_pos (by omega)).symm | exact zsub_s0 (if_neg (by omega)).symm | exact zadd0 (if_neg (by omega)).symm | exact zadd0 (zbF (by omega)) | exact (Int.sub_zero _).symm), zlI rfl (by first | rfl | omega | (push_cast; omega) | exact congrArg (_ + ·) (zbT (by assumption)) | exact congrArg (_ + ·) (zbF (by assumption)) | exact congrArg (_ + ·) (zbT (by omega)) | exact congrArg (_ + ·) (zbF (by omega)) | exact congrArg (_ + ·) (if_pos (by omega)).symm | exact congrArg (_ + ·) (if_neg (by omega)).symm | exact (if_pos (by omega)).symm | exact (if_neg (by omega)).symm | exact zsub_s (if_pos (by omega)).symm | exact zsub_s0 (if_neg (by omega)).symm | exact zadd0 (if_neg (by omega)).symm | exact zadd0 (zbF (by omega)) | exact (Int.sub_zero _).symm), rfl, rfl, rfl, rfl, rfl, rfl, rfl, rfl, rfl, trivial⟩ (ih347 (x + 1) _ (by show nn N h - (x + 1) < nn N h - x; omega) (I414))
    refine zF_aload 371 dL_act_369 rfl rfl ?_
    refine zF_iconst 372 dL_act_371 rfl ?_
    refine zF_iaload 373 dL_act_372 rfl hR.2.2 hR.2.1 (by omega) (by omega) ((hO.c7 _ _ hr.1 hr1 (by omega) (by omega)).trans (prN_now hV hx (by omega) (by omega))) ?_
    refine zF_aload 375 dL_act_373 rfl rfl ?_
    refine zF_iload 377 dL_act_375 rfl rfl ?_
    refine zF_iaload 378 dL_act_377 rfl hI.2.2.2.2.1.2 lt2 (by omega) (by omega) ((iR x hx).2) ?_
    refine zF_icmp_ne 388 381 dL_act_378 rfl rfl (by first | decide | assumption | exact hV.b _ | exact mSh_rg hV.b _ _ | (constructor <;> omega)) (by first | decide | assumption | exact hV.b _ | exact mSh_rg hV.b _ _ | (constructor <;> omega)) (fun c3 => ?_) (fun c3 => ?_)
    · refine zF_iconst 389 dL_act_388 rfl ?_
      refine zF_goto 393 dL_act_389 rfl ?_
      exact zF_locs (ls' := [(11, zR (E (700 + (rk N h (x : Int)).toNat))), (10, zI ((x : Nat) : Int)), (9, zI (prC N h (bF N h (lmP N h)) x)), (8, zR (zn σ331 + 1)), (7, zR (zn σ)), (6, zI h), (5, zI f), (4, zI w), (3, zI z3), (0, zR (B0 0)), (1, zR (E 0)), (2, zI vv)]) ⟨rfl, rfl, rfl, rfl, rfl, rfl, rfl, rfl, rfl, rfl, rfl, rfl, trivial⟩ (jn393 _ (by first | exact zbT (by omega) | exact zbF (by omega)))
    · refine zF_aload 383 dL_act_381 rfl rfl ?_
      refine zF_iconst 384 dL_act_383 rfl ?_
      refine zF_iaload 385 dL_act_384 rfl hR.2.2 hR.2.1 (by omega) (by omega) ((hO.c7 _ _ hr.1 hr1 (by omega) (by omega)).trans (prN_now hV hx (by omega) (by omega))) ?_
      refine zF_if_lt 392 388 dL_act_385 rfl rfl (by first | decide | assumption | exact hV.b _ | exact mSh_rg hV.b _ _ | (constructor <;> omega)) (fun c4 => ?_) (fun c4 => ?_)
      · refine zF_iconst 393 dL_act_392 rfl ?_
        exact zF_locs (ls' := [(11, zR (E (700 + (rk N h (x : Int)).toNat))), (10, zI ((x : Nat) : Int)), (9, zI (prC N h (bF N h (lmP N h)) x)), (8, zR (zn σ331 + 1)), (7, zR (zn σ)), (6, zI h), (5, zI f), (4, zI w), (3, zI z3), (0, zR (B0 0)), (1, zR (E 0)), (2, zI vv)]) ⟨rfl, rfl, rfl, rfl, rfl, rfl, rfl, rfl, rfl, rfl, rfl, rfl, trivial⟩ (jn393 _ (by first | exact zbT (by omega) | exact zbF (by omega)))
      · refine zF_iconst 389 dL_act_388 rfl ?_
        refine zF_goto 393 dL_act_389 rfl ?_
        exact zF_locs (ls' := [(11, zR (E (700 + (rk N h (x : Int)).toNat))), (10, zI ((x : Nat) : Int)), (9, zI (prC N h (bF N h (lmP N h)) x)), (8, zR (zn σ331 + 1)), (7, zR (zn σ)), (6, zI h), (5, zI f), (4, zI w), (3, zI z3), (0, zR (B0 0)), (1, zR (E 0)), (2, zI vv)]) ⟨rfl, rfl, rfl, rfl, rfl, rfl, rfl, rfl, rfl, rfl, rfl, rfl, trivial⟩ (jn393 _ (by first | exact zbT (by omega) | exact zbF (by omega)))
end ZQF

/-! acts, branch by branch -/
section ZQE
variable {G : zG} {d : Nat} {σ : zMem} {N : Int → Int} {H : Int → Int → Int} {u T w z3 vv f h s : Int} {E : Nat → Nat} {n0 : Nat}
theorem cL.gs (c : cL T (N, H, u) σ) {i : Nat} {j v : Int} (hE : ∀ i, 228 ≤ E i) : cL T (N, H, u) (zsi σ (E i) j v) := c.ge (E := E) (n := zn σ) (zGE.rf.si) c.1.1 hE
set_option maxRecDepth 20000 in
theorem act_fee (hGd : zGd G) (hAO : zAO G) (hL : cL T (N, H, u) σ) (hT : T ≤ 19999) (hE : eO N σ E) (hU : eU E n0 (zn σ)) (hn0 : 228 ≤ n0) (hbg : zn σ + 10 < zbg) : zF G mL_act (d + 10) 516 [(6, zI h), (5, zI f), (4, zI w), (3, zI z3), (0, zR (B0 0)), (1, zR (E 0)), (2, zI vv)] [] σ (pAct N H u T E n0 σ) := by
  have hK : cK T N σ := hL.K
  have hV := hK.V
  have hn := hV.n
  have hb := eB_of hV
  have hE228 := hU.ge228 hn0
  have hs228 := hL.1.1
  refine zF_aload_n 517 dL_act_516 rfl rfl ?_
  refine zF_getIN 520 dL_act_517 rfl gnL_58 (by decide) (by decide) hE.k0 hE.l0 hE.i4 ?_
  refine zF_istore 522 (ls' := [(7, zI (N 4)), (6, zI h), (5, zI f), (4, zI w), (3, zI z3), (0, zR (B0 0)), (1, zR (E 0)), (2, zI vv)]) dL_act_520 rfl (by decide) rfl ?_
  refine zF_aload_n 523 dL_act_522 rfl rfl ?_
  refine zF_iload 525 dL_act_523 rfl rfl ?_
  refine zF_sipush 528 dL_act_525 rfl (by decide) ?_
  refine zF_callS 531 (d2 := (d + 9)) (as := [zI w, zI 1000]) dL_act_528 rfl kL_27 sL_most (Nat.le_refl _) rfl rfl (Nat.le_of_ble_eq_true rfl) (zE.mono (zt_L_most (by omega) (by constructor <;> omega)) fun ro σx528 hh528 => ?_)
  obtain ⟨es528, z528, er528, zl528, zu528⟩ := hh528
  replace es528 := es528.symm
  subst es528
  subst er528
  refine ⟨rfl, ?_⟩
  show zF G mL_act (d + 10) 531 [(7, zI (N 4)), (6, zI h), (5, zI f), (4, zI w), (3, zI z3), (0, zR (B0 0)), (1, zR (E 0)), (2, zI vv)] [zI z528, zR (E 0)] σ _
  refine zF_putIN 534 dL_act_531 rfl pnL_58 hE.k0 hE.l0 ?_
  refine zF_aload_n 535 dL_act_534 rfl rfl ?_
  refine zF_aload_n 536 dL_act_535 rfl rfl ?_
  refine zF_getIN 539 dL_act_536 rfl gnL_58 (by decide) (by decide) hE.k0 hE.l0 (zsi_same _ _ _ _) ?_
  refine zF_callV 542 (d2 := (d + 9)) (as := [zI z528]) dL_act_539 rfl kL_164 iX11_setFee (ci := 11) rfl eX11_setFee (Nat.le_refl _) (hL.gs hE228).1.bk (hL.gs hE228).1.bl rfl rfl (Nat.le_of_ble_eq_true rfl) (zE.mono (pL_setFee (d := d) hGd (hL.gs hE228) (by omega) (by omega) (by omega)) fun ro σs539 hh539 => ?_)
  obtain ⟨er539, fr539, L539⟩ := hh539
  subst er539
  refine ⟨fr539.1, ?_⟩
  show zF G mL_act (d + 10) 542 [(7, zI (N 4)), (6, zI h), (5, zI f), (4, zI w), (3, zI z3), (0, zR (B0 0)), (1, zR (E 0)), (2, zI vv)] [zI (N 4)] σs539 _
  refine zF_iload 544 dL_act_542 rfl rfl ?_
  refine zF_icmp_ne 551 547 dL_act_544 rfl rfl (by first | decide | assumption | exact hV.b _ | exact mSh_rg hV.b _ _ | (constructor <;> omega)) (by first | decide | assumption | exact hV.b _ | exact mSh_rg hV.b _ _ | (constructor <;> omega)) (fun c1 => ?_) (fun c1 => ?_)
  · refine zF_iconst 552 dL_act_551 rfl ?_
    exact zF_ireturn dL_act_552 rfl (by exfalso; omega)
  · refine zF_iconst 548 dL_act_547 rfl ?_
    refine zF_goto 552 dL_act_548 rfl ?_
    exact zF_ireturn dL_act_552 rfl (pAct_do ((zAE_ge zGE.rf.si).tr (zAE_fr fr539)) ((zB_fr fr539 : zB _ _ 8)) rfl (L539.ups (by omega)) ((eO.pi4 hb hE).mu fr539 hU hn0 (by omega)) (by rw [fr539.1]; exact hU) (aTo_eq hV fun j hj => mSet_o (by omega)))
set_option maxRecDepth 20000 in
theorem act_holdover (hGd : zGd G) (hAO : zAO G) (hL : cL T (N, H, u) σ) (hT : T ≤ 19999) (hE : eO N σ E) (hU : eU E n0 (zn σ)) (hn0 : 228 ≤ n0) (hbg : zn σ + 10 < zbg) (h0 : 0 ≤ h) (h1 : h < N 0) : zF G mL_act (d + 10) 446 [(6, zI h), (5, zI f), (4, zI w), (3, zI z3), (0, zR (B0 0)), (1, zR (E 0)), (2, zI vv)] [] σ (pAct N H u T E n0 σ) := by
  have hK : cK T N σ := hL.K
  have hV := hK.V
  have hn := hV.n
  have hb := eB_of hV
  have hE228 := hU.ge228 hn0
  have hs228 := hL.1.1
  refine zF_aload_n 447 dL_act_446 rfl rfl ?_
  refine zF_getRN 450 dL_act_447 rfl gnL_35 hE.k0 hE.l0 (hE.f 6 6 4 (by decide)).1 ?_
  refine zF_iload 452 dL_act_450 rfl rfl ?_
  refine zF_aaldA 453 dL_act_452 rfl (hE.f 6 6 4 (by decide)).2.2 (hE.f 6 6 4 (by decide)).2.1 (by omega) (by omega) (hE.r6 _ (by omega) (by omega)).1 ?_
  refine zF_iconst 454 dL_act_453 rfl ?_
  refine zF_iaload 455 dL_act_454 rfl (hE.r6 _ (by omega) (by omega)).2.2 (hE.r6 _ (by omega) (by omega)).2.1 (by omega) (by omega) (hE.c6 _ _ (by omega) (by omega) (by omega) (by omega)) ?_
  have hh := hV.h h h0 (by omega)
  refine zF_istore 457 (ls' := [(7, zI (mH N h 1)), (6, zI h), (5, zI f), (4, zI w), (3, zI z3), (0, zR (B0 0)), (1, zR (E 0)), (2, zI vv)]) dL_act_455 rfl (by decide) rfl ?_
  refine zF_aload_n 458 dL_act_457 rfl rfl ?_
  refine zF_getRN 461 dL_act_458 rfl gnL_35 hE.k0 hE.l0 (hE.f 6 6 4 (by decide)).1 ?_
  refine zF_iload 463 dL_act_461 rfl rfl ?_
  refine zF_aaldA 464 dL_act_463 rfl (hE.f 6 6 4 (by decide)).2.2 (hE.f 6 6 4 (by decide)).2.1 (by omega) (by omega) (hE.r6 _ (by omega) (by omega)).1 ?_
  refine zF_iconst 465 dL_act_464 rfl ?_
  refine zF_iconst 466 dL_act_465 rfl ?_
  refine zF_iload 468 dL_act_466 rfl rfl ?_
  refine zF_iconst 469 dL_act_468 rfl ?_
  refine zF_ishr 470 dL_act_469 rfl ?_
  refine zF_bipush 472 dL_act_470 rfl (by decide) ?_
  refine zF_callS 475 (d2 := (d + 9)) (as := [zI ((Int32.ofInt w >>> (Int32.ofInt 2 &&& 31)).toInt), zI 100]) dL_act_472 rfl kL_27 sL_most (Nat.le_refl _) rfl rfl (Nat.le_of_ble_eq_true rfl) (zE.mono (zt_L_most (by omega) (by constructor <;> omega)) fun ro σx472 hh472 => ?_)
  obtain ⟨es472, z472, er472, zl472, zu472⟩ := hh472
  replace es472 := es472.symm
  subst es472
  subst er472
  refine ⟨rfl, ?_⟩
  show zF G mL_act (d + 10) 475 [(7, zI (mH N h 1)), (6, zI h), (5, zI f), (4, zI w), (3, zI z3), (0, zR (B0 0)), (1, zR (E 0)), (2, zI vv)] [zI z472, zI 1, zI 1, zR (E (600 + h.toNat))] σ _
  refine zF_iadd 476 dL_act_475 rfl ?_
  refine zF_iastore 477 dL_act_476 rfl (hE.r6 _ (by omega) (by omega)).2.2 (hE.r6 _ (by omega) (by omega)).2.1 (by omega) (by omega) ?_
  refine zF_aload_n 478 dL_act_477 rfl rfl ?_
  refine zF_iload 480 dL_act_478 rfl rfl ?_
  refine zF_aload_n 481 dL_act_480 rfl rfl ?_
  refine zF_getRN 484 dL_act_481 rfl gnL_35 hE.k0 hE.l0 (hE.f 6 6 4 (by decide)).1 ?_
  refine zF_iload 486 dL_act_484 rfl rfl ?_
  refine zF_aaldA 487 dL_act_486 rfl (hE.f 6 6 4 (by decide)).2.2 (hE.f 6 6 4 (by decide)).2.1 (by omega) (by omega) (hE.r6 _ (by omega) (by omega)).1 ?_
  refine zF_iconst 488 dL_act_487 rfl ?_
  refine zF_iaload 489 dL_act_488 rfl (hE.r6 _ (by omega) (by omega)).2.2 (hE.r6 _ (by omega) (by omega)).2.1 (by omega) (by omega) (zsi_same _ _ _ _) ?_
  refine zF_callV 492 (d2 := (d + 9)) (as := [zI h, zI (1 + z472)]) dL_act_489 rfl kL_161 iX11_setHoldover (ci := 11) rfl eX11_setHoldover (Nat.le_refl _) (hL.gs hE228).1.bk (hL.gs hE228).1.bl rfl rfl (Nat.le_of_ble_eq_true rfl) (zE.mono (pL_setHoldover (d := d) hGd (hL.gs hE228) (by omega) h0 h1 (by omega) (by omega)) fun ro σs489 hh489 => ?_)
  obtain ⟨er489, fr489, L489⟩ := hh489
  subst er489
  refine ⟨fr489.1, ?_⟩
  show zF G mL_act (d + 10) 492 [(7, zI (mH N h 1)), (6, zI h), (5, zI f), (4, zI w), (3, zI z3), (0, zR (B0 0)), (1, zR (E 0)), (2, zI vv)] [zI (mH N h 1)] σs489 _
  refine zF_iload 494 dL_act_492 rfl rfl ?_
  refine zF_icmp_ne 501 497 dL_act_494 rfl rfl (by first | decide | assumption | exact hV.b _ | exact mSh_rg hV.b _ _ | (constructor <;> omega)) (by first | decide | assumption | exact hV.b _ | exact mSh_rg hV.b _ _ | (constructor <;> omega)) (fun c1 => ?_) (fun c1 => ?_)
  · refine zF_iconst 502 dL_act_501 rfl ?_
    exact zF_ireturn dL_act_502 rfl (by exfalso; omega)
  · refine zF_iconst 498 dL_act_497 rfl ?_
    refine zF_goto 502 dL_act_498 rfl ?_
    exact zF_ireturn dL_act_502 rfl (pAct_do ((zAE_ge zGE.rf.si).tr (zAE_fr fr489)) ((zB_fr fr489 : zB _ _ 8)) rfl (L489.ups (by omega)) ((eO.p6 hb hE (x9 := h) (y9 := 1) (v := 1 + z472) h0 h1 (by omega) (by omega)).mu fr489 hU hn0 (by omega)) (by rw [fr489.1]; exact hU) (aTo_eq hV fun j hj => mSet_o (by omega)))
set_option maxRecDepth 20000 in
theorem act_rent (hGd : zGd G) (hAO : zAO G) (hL : cL T (N, H, u) σ) (hT : T ≤ 19999) (hE : eO N σ E) (hU : eU E n0 (zn σ)) (hn0 : 228 ≤ n0) (hbg : zn σ + 10 < zbg) (s0 : 0 ≤ s) (s1 : s < N 1) : zF G mL_act (d + 10) 572 [(7, zI s), (6, zI h), (5, zI f), (4, zI w), (3, zI z3), (0, zR (B0 0)), (1, zR (E 0)), (2, zI vv)] [] σ (pAct N H u T E n0 σ) := by
  have hK : cK T N σ := hL.K
  have hV := hK.V
  have hn := hV.n
  have hb := eB_of hV
  have hE228 := hU.ge228 hn0
  have hs228 := hL.1.1
  refine zF_aload_n 573 dL_act_572 rfl rfl ?_
  refine zF_getRN 576 dL_act_573 rfl gnL_52 hE.k0 hE.l0 (hE.f 7 6 10 (by decide)).1 ?_
  refine zF_iload 578 dL_act_576 rfl rfl ?_
  refine zF_aaldA 579 dL_act_578 rfl (hE.f 7 6 10 (by decide)).2.2 (hE.f 7 6 10 (by decide)).2.1 (by omega) (by omega) (hE.r7 _ (by omega) (by omega)).1 ?_
  refine zF_iconst 580 dL_act_579 rfl ?_
  refine zF_iaload 581 dL_act_580 rfl (hE.r7 _ (by omega) (by omega)).2.2 (hE.r7 _ (by omega) (by omega)).2.1 (by omega) (by omega) (hE.c7 _ _ (by omega) (by omega) (by omega) (by omega)) ?_
  have hv := hV.s s s0 (by omega)
  refine zF_istore 583 (ls' := [(8, zI (mS N s 3)), (7, zI s), (6, zI h), (5, zI f), (4, zI w), (3, zI z3), (0, zR (B0 0)), (1, zR (E 0)), (2, zI vv)]) dL_act_581 rfl (by decide) rfl ?_
  refine zF_aload_n 584 dL_act_583 rfl rfl ?_
  refine zF_getRN 587 dL_act_584 rfl gnL_52 hE.k0 hE.l0 (hE.f 7 6 10 (by decide)).1 ?_
  refine zF_iload 589 dL_act_587 rfl rfl ?_
  refine zF_aaldA 590 dL_act_589 rfl (hE.f 7 6 10 (by decide)).2.2 (hE.f 7 6 10 (by decide)).2.1 (by omega) (by omega) (hE.r7 _ (by omega) (by omega)).1 ?_
  refine zF_iconst 591 dL_act_590 rfl ?_
  refine zF_iload 593 dL_act_591 rfl rfl ?_
  refine zF_iconst 594 dL_act_593 rfl ?_
  refine zF_ishr 595 dL_act_594 rfl ?_
  refine zF_sipush 598 dL_act_595 rfl (by decide) ?_
  refine zF_callS 601 (d2 := (d + 9)) (as := [zI ((Int32.ofInt w >>> (Int32.ofInt 4 &&& 31)).toInt), zI 300]) dL_act_598 rfl kL_27 sL_most (Nat.le_refl _) rfl rfl (Nat.le_of_ble_eq_true rfl) (zE.mono (zt_L_most (by omega) (by constructor <;> omega)) fun ro σx598 hh598 => ?_)
  obtain ⟨es598, z598, er598, zl598, zu598⟩ := hh598
  replace es598 := es598.symm
  subst es598
  subst er598
  refine ⟨rfl, ?_⟩
  show zF G mL_act (d + 10) 601 [(8, zI (mS N s 3)), (7, zI s), (6, zI h), (5, zI f), (4, zI w), (3, zI z3), (0, zR (B0 0)), (1, zR (E 0)), (2, zI vv)] [zI z598, zI 3, zR (E (700 + s.toNat))] σ _
  refine zF_iastore 602 dL_act_601 rfl (hE.r7 _ (by omega) (by omega)).2.2 (hE.r7 _ (by omega) (by omega)).2.1 (by omega) (by omega) ?_
  refine zF_aload_n 603 dL_act_602 rfl rfl ?_
  refine zF_iload 605 dL_act_603 rfl rfl ?_
  refine zF_aload_n 606 dL_act_605 rfl rfl ?_
  refine zF_getRN 609 dL_act_606 rfl gnL_52 hE.k0 hE.l0 (hE.f 7 6 10 (by decide)).1 ?_
  refine zF_iload 611 dL_act_609 rfl rfl ?_
  refine zF_aaldA 612 dL_act_611 rfl (hE.f 7 6 10 (by decide)).2.2 (hE.f 7 6 10 (by decide)).2.1 (by omega) (by omega) (hE.r7 _ (by omega) (by omega)).1 ?_
  refine zF_iconst 613 dL_act_612 rfl ?_
  refine zF_iaload 614 dL_act_613 rfl (hE.r7 _ (by omega) (by omega)).2.2 (hE.r7 _ (by omega) (by omega)).2.1 (by omega) (by omega) (zsi_same _ _ _ _) ?_
  refine zF_callV 617 (d2 := (d + 9)) (as := [zI s, zI z598]) dL_act_614 rfl kL_167 iX11_setRent (ci := 11) rfl eX11_setRent (Nat.le_refl _) (hL.gs hE228).1.bk (hL.gs hE228).1.bl rfl rfl (Nat.le_of_ble_eq_true rfl) (zE.mono (pL_setRent (d := d) hGd (hL.gs hE228) (by omega) s0 s1 (by omega) (by omega)) fun ro σs614 hh614 => ?_)
  obtain ⟨er614, fr614, L614⟩ := hh614
  subst er614
  refine ⟨fr614.1, ?_⟩
  show zF G mL_act (d + 10) 617 [(8, zI (mS N s 3)), (7, zI s), (6, zI h), (5, zI f), (4, zI w), (3, zI z3), (0, zR (B0 0)), (1, zR (E 0)), (2, zI vv)] [zI (mS N s 3)] σs614 _
  refine zF_iload 619 dL_act_617 rfl rfl ?_
  refine zF_icmp_ne 626 622 dL_act_619 rfl rfl (by first | decide | assumption | exact hV.b _ | exact mSh_rg hV.b _ _ | (constructor <;> omega)) (by first | decide | assumption | exact hV.b _ | exact mSh_rg hV.b _ _ | (constructor <;> omega)) (fun c1 => ?_) (fun c1 => ?_)
  · refine zF_iconst 627 dL_act_626 rfl ?_
    exact zF_ireturn dL_act_627 rfl (by exfalso; omega)
  · refine zF_iconst 623 dL_act_622 rfl ?_
    refine zF_goto 627 dL_act_623 rfl ?_
    exact zF_ireturn dL_act_627 rfl (pAct_do ((zAE_ge zGE.rf.si).tr (zAE_fr fr614)) ((zB_fr fr614 : zB _ _ 8)) rfl (L614.ups (by omega)) ((eO.p7 hb hE (x9 := s) (y9 := 3) (v := z598) s0 s1 (by omega) (by omega)).mu fr614 hU hn0 (by omega)) (by rw [fr614.1]; exact hU) (aTo_eq hV fun j hj => mSet_o (by omega)))
set_option maxRecDepth 20000 in
theorem act_empty (hGd : zGd G) (hAO : zAO G) (hL : cL T (N, H, u) σ) (hT : T ≤ 19999) (hE : eO N σ E) (hU : eU E n0 (zn σ)) (hn0 : 228 ≤ n0) (hbg : zn σ + 10 < zbg) (s0 : 0 ≤ s) (s1 : s < N 1) : zF G mL_act (d + 10) 634 [(7, zI s), (6, zI h), (5, zI f), (4, zI w), (3, zI z3), (0, zR (B0 0)), (1, zR (E 0)), (2, zI vv)] [] σ (pAct N H u T E n0 σ) := by
  have hK : cK T N σ := hL.K
  have hV := hK.V
  have hn := hV.n
  have hb := eB_of hV
  have hE228 := hU.ge228 hn0
  have hs228 := hL.1.1
  have hv := hV.s s s0 (by omega)
  refine zF_aload_n 635 dL_act_634 rfl rfl ?_
  refine zF_getRN 638 dL_act_635 rfl gnL_52 hE.k0 hE.l0 (hE.f 7 6 10 (by decide)).1 ?_
  refine zF_iload 640 dL_act_638 rfl rfl ?_
  refine zF_aaldA 641 dL_act_640 rfl (hE.f 7 6 10 (by decide)).2.2 (hE.f 7 6 10 (by decide)).2.1 (by omega) (by omega) (hE.r7 _ (by omega) (by omega)).1 ?_
  refine zF_bipush 643 dL_act_641 rfl (by decide) ?_
  refine zF_iaload 644 dL_act_643 rfl (hE.r7 _ (by omega) (by omega)).2.2 (hE.r7 _ (by omega) (by omega)).2.1 (by omega) (by omega) (hE.c7 _ _ (by omega) (by omega) (by omega) (by omega)) ?_
  refine zF_iconst 645 dL_act_644 rfl ?_
  refine zF_icmp_ne 665 648 dL_act_645 rfl rfl (by first | decide | assumption | exact hV.b _ | exact mSh_rg hV.b _ _ | (constructor <;> omega)) (by first | decide | assumption | exact hV.b _ | exact mSh_rg hV.b _ _ | (constructor <;> omega)) (fun c1 => ?_) (fun c1 => ?_)
  · refine zF_aload_n 666 dL_act_665 rfl rfl ?_
    refine zF_getRN 669 dL_act_666 rfl gnL_52 hE.k0 hE.l0 (hE.f 7 6 10 (by decide)).1 ?_
    refine zF_iload 671 dL_act_669 rfl rfl ?_
    refine zF_aaldA 672 dL_act_671 rfl (hE.f 7 6 10 (by decide)).2.2 (hE.f 7 6 10 (by decide)).2.1 (by omega) (by omega) (hE.r7 _ (by omega) (by omega)).1 ?_
    refine zF_iconst 673 dL_act_672 rfl ?_
    refine zF_iaload 674 dL_act_673 rfl (hE.r7 _ (by omega) (by omega)).2.2 (hE.r7 _ (by omega) (by omega)).2.1 (by omega) (by omega) (hE.c7 _ _ (by omega) (by omega) (by omega) (by omega)) ?_
    refine zF_istore 676 (ls' := [(8, zI (mS N s 4)), (7, zI s), (6, zI h), (5, zI f), (4, zI w), (3, zI z3), (0, zR (B0 0)), (1, zR (E 0)), (2, zI vv)]) dL_act_674 rfl (by decide) rfl ?_
    refine zF_aload_n 677 dL_act_676 rfl rfl ?_
    refine zF_iload 679 dL_act_677 rfl rfl ?_
    refine zF_iconst 680 dL_act_679 rfl ?_
    refine zF_iconst 681 dL_act_680 rfl ?_
    refine zF_iconst 682 dL_act_681 rfl ?_
    refine zF_iconst 683 dL_act_682 rfl ?_
    refine zF_callVN 686 (d2 := (d + 9)) (as := [zI s, zI (-1), zI (-1), zI 0, zI 0]) dL_act_683 rfl knL_154 iX12_book (ci := 12) rfl eX12_book (Nat.le_refl _) hE.k0 hE.l0 rfl rfl (Nat.le_of_ble_eq_true rfl) (by exact (⟨trivial, trivial, trivial, trivial, trivial, trivial, zwR hL.1.bl, zwR hE.l0, trivial, trivial⟩ : _ ∧ _ ∧ _ ∧ _ ∧ _ ∧ _ ∧ _ ∧ _ ∧ _ ∧ True)) (by exact trivial) (zE.mono (zt_X12_book hE hV s0 s1) fun ro σs683 hh683 => ⟨_, hh683.1, ?_⟩)
    obtain ⟨-, fr683, O683⟩ := hh683
    have gB683 : zGE E (zn σ) σ σs683 := zGE.fr fr683
    have L683 := hL.ge gB683 hs228 hE228
    show zF G mL_act (d + 10) 686 [(8, zI (mS N s 4)), (7, zI s), (6, zI h), (5, zI f), (4, zI w), (3, zI z3), (0, zR (B0 0)), (1, zR (E 0)), (2, zI vv)] [] σs683 _
    refine zF_aload_n 687 dL_act_686 rfl rfl ?_
    refine zF_iload 689 dL_act_687 rfl rfl ?_
    refine zF_callV 692 (d2 := (d + 9)) (as := [zI s]) dL_act_689 rfl kL_170 iX11_empty (ci := 11) rfl eX11_empty (Nat.le_refl _) L683.1.bk L683.1.bl rfl rfl (Nat.le_of_ble_eq_true rfl) (zE.mono (pL_empty (d := d) hGd L683 s0 s1 (by omega)) fun ro σs689 hh689 => ?_)
    obtain ⟨er689, fr689, L689⟩ := hh689
    subst er689
    refine ⟨fr689.1, ?_⟩
    show zF G mL_act (d + 10) 692 [(8, zI (mS N s 4)), (7, zI s), (6, zI h), (5, zI f), (4, zI w), (3, zI z3), (0, zR (B0 0)), (1, zR (E 0)), (2, zI vv)] [zI (mS N s 4)] σs689 _
    refine zF_iload 694 dL_act_692 rfl rfl ?_
    refine zF_icmp_ne 701 697 dL_act_694 rfl rfl (by first | decide | assumption | exact hV.b _ | exact mSh_rg hV.b _ _ | (constructor <;> omega)) (by first | decide | assumption | exact hV.b _ | exact mSh_rg hV.b _ _ | (constructor <;> omega)) (fun c2 => ?_) (fun c2 => ?_)
    · refine zF_iconst 702 dL_act_701 rfl ?_
      exact zF_ireturn dL_act_702 rfl (by exfalso; omega)
    · refine zF_iconst 698 dL_act_697 rfl ?_
      refine zF_goto 702 dL_act_698 rfl ?_
      exact zF_ireturn dL_act_702 rfl (pAct_do ((zAE_ge gB683).tr (zAE_fr fr689)) ((zB_fr (fr683) : zB _ _ 4).tr (zB_fr fr689 : zB _ _ 4)) rfl (L689.ups (by omega)) (O683.mu fr689 hU hn0 (by omega)) (by rw [fr689.1, fr683.1]; exact hU) (aTo_eq hV fun j hj => mBook_o N s0 (by omega) (by omega)))
  · refine zF_aload_n 649 dL_act_648 rfl rfl ?_
    refine zF_iload 651 dL_act_649 rfl rfl ?_
    refine zF_callV 654 (d2 := (d + 9)) (as := [zI s]) dL_act_651 rfl kL_170 iX11_empty (ci := 11) rfl eX11_empty (Nat.le_refl _) hL.1.bk hL.1.bl rfl rfl (Nat.le_of_ble_eq_true rfl) (zE.mono (pL_empty2 (d := d) hGd hL s0 s1 (by omega)) fun ro σs651 hh651 => ?_)
    obtain ⟨er651, fr651, L651⟩ := hh651
    subst er651
    refine ⟨fr651.1, ?_⟩
    show zF G mL_act (d + 10) 654 [(7, zI s), (6, zI h), (5, zI f), (4, zI w), (3, zI z3), (0, zR (B0 0)), (1, zR (E 0)), (2, zI vv)] [zI (-2)] σs651 _
    refine zF_bipush 656 dL_act_654 rfl (by decide) ?_
    refine zF_icmp_ne 663 659 dL_act_656 rfl rfl (by first | decide | assumption | exact hV.b _ | exact mSh_rg hV.b _ _ | (constructor <;> omega)) (by first | decide | assumption | exact hV.b _ | exact mSh_rg hV.b _ _ | (constructor <;> omega)) (fun c3 => ?_) (fun c3 => ?_)
    · exact absurd c3 (by decide)
    · refine zF_iconst 660 dL_act_659 rfl ?_
      refine zF_goto 664 dL_act_660 rfl ?_
      exact zF_ireturn dL_act_664 rfl (pAct_no fr651 rfl L651 (hE.mu fr651 hU hn0 (by omega)) hU)
set_option maxRecDepth 20000 in
theorem act_close (hGd : zGd G) (hAO : zAO G) (hL : cL T (N, H, u) σ) (hT : T ≤ 19999) (hE : eO N σ E) (hU : eU E n0 (zn σ)) (hn0 : 228 ≤ n0) (hbg : zn σ + 10 < zbg) : zF G mL_act (d + 10) 18 [(4, zI w), (3, zI z3), (0, zR (B0 0)), (1, zR (E 0)), (2, zI vv)] [] σ (pAct N H u T E n0 σ) := by
  have hK : cK T N σ := hL.K
  have hV := hK.V
  have hn := hV.n
  have hb := eB_of hV
  have hE228 := hU.ge228 hn0
  have hs228 := hL.1.1
  refine zF_aload_n 19 dL_act_18 rfl rfl ?_
  refine zF_getIN 22 dL_act_19 rfl gnL_102 (by decide) (by decide) hE.k0 hE.l0 hE.i3 ?_
  refine zF_bipush 24 dL_act_22 rfl (by decide) ?_
  refine zF_icmp_ne 42 27 dL_act_24 rfl rfl (by first | decide | assumption | exact hV.b _ | exact mSh_rg hV.b _ _ | (constructor <;> omega)) (by first | decide | assumption | exact hV.b _ | exact mSh_rg hV.b _ _ | (constructor <;> omega)) (fun c1 => ?_) (fun c1 => ?_)
  · refine zF_aload_n 43 dL_act_42 rfl rfl ?_
    have hC := zt_X12_close (G := G) (d := d + 2) hE hV hK.W (gOK_ex hV) hK.X hK.mq (clA_b hV hK.W hL.f4 hK.2.2.1.m (by omega)) (by omega) hAO (fun i a a0 a1 e => by have q := hU i; have e1 : zbg = 1000000 := rfl; omega) (by omega)
    refine zF_callVN 46 (d2 := (d + 9)) (as := []) dL_act_43 rfl knL_143 iX12_close (ci := 12) rfl eX12_close (Nat.le_refl _) hE.k0 hE.l0 rfl rfl (Nat.le_of_ble_eq_true rfl) (by exact (⟨trivial, trivial, zwR hL.1.bl, zwR hE.l0, trivial, trivial⟩ : _ ∧ _ ∧ _ ∧ _ ∧ _ ∧ True)) (by exact trivial) (zE.mono hC fun ro σs43 hh43 => ⟨_, hh43.1, ?_⟩)
    obtain ⟨-, O43, g43, n43, c43, q43⟩ := hh43
    have L43 := hL.ge g43 hs228 hE228
    have hss := nS_eq hV
    have hff := nF_eq hV
    have amr := clA_b hV hK.W hL.f4 hK.2.2.1.m (by omega) 0
    show zF G mL_act (d + 10) 46 [(4, zI w), (3, zI z3), (0, zR (B0 0)), (1, zR (E 0)), (2, zI vv)] [zI (clA N 0)] σs43 _
    refine zF_istore 48 (ls' := [(5, zI (clA N 0)), (4, zI w), (3, zI z3), (0, zR (B0 0)), (1, zR (E 0)), (2, zI vv)]) dL_act_46 rfl (by decide) rfl ?_
    refine zF_aload_n 49 dL_act_48 rfl rfl ?_
    refine zF_callV 52 (d2 := (d + 9)) (as := []) dL_act_49 rfl kL_140 iX11_close (ci := 11) rfl eX11_close (Nat.le_refl _) L43.1.bk L43.1.bl rfl rfl (Nat.le_of_ble_eq_true rfl) (zE.mono (pL_close (d := d) hGd L43 (by omega) (by omega)) fun ro σs49 hh49 => ?_)
    obtain ⟨er49, fr49, L49⟩ := hh49
    subst er49
    refine ⟨fr49.1, ?_⟩
    show zF G mL_act (d + 10) 52 [(5, zI (clA N 0)), (4, zI w), (3, zI z3), (0, zR (B0 0)), (1, zR (E 0)), (2, zI vv)] [zI (clA N 0)] σs49 _
    refine zF_iload 54 dL_act_52 rfl rfl ?_
    refine zF_icmp_ne 61 57 dL_act_54 rfl rfl (by first | decide | assumption | exact hV.b _ | exact mSh_rg hV.b _ _ | (constructor <;> omega)) (by first | decide | assumption | exact hV.b _ | exact mSh_rg hV.b _ _ | (constructor <;> omega)) (fun c2 => ?_) (fun c2 => ?_)
    · refine zF_iconst 62 dL_act_61 rfl ?_
      exact zF_ireturn dL_act_62 rfl (by exfalso; omega)
    · refine zF_iconst 58 dL_act_57 rfl ?_
      refine zF_goto 62 dL_act_58 rfl ?_
      exact zF_ireturn dL_act_62 rfl (pAct_do ((zAE_ge g43).tr (zAE_fr fr49)) (zB.tr (σ1 := σs43) (a := 4) (b := 4) ⟨by omega, by omega, by omega⟩ (zB_fr fr49)) rfl (L49.ups (by omega)) (O43.mu fr49 (hU.wk (by omega) : eU E n0 (zn σs43)) hn0 (by omega)) (by rw [fr49.1]; exact hU.wk (by omega)) (aTo_eq hV fun j hj => by
    by_cases c : j < 14
    · exact clN_lo (by omega) (by omega) c
    · exact clN_P (by omega) (by omega)))
  · refine zF_aload_n 28 dL_act_27 rfl rfl ?_
    refine zF_callV 31 (d2 := (d + 9)) (as := []) dL_act_28 rfl kL_140 iX11_close (ci := 11) rfl eX11_close (Nat.le_refl _) hL.1.bk hL.1.bl rfl rfl (Nat.le_of_ble_eq_true rfl) (zE.mono (pL_close60 (d := d) hGd hL (by omega) (by omega)) fun ro σs28 hh28 => ?_)
    obtain ⟨er28, fr28, L28⟩ := hh28
    subst er28
    refine ⟨fr28.1, ?_⟩
    show zF G mL_act (d + 10) 31 [(4, zI w), (3, zI z3), (0, zR (B0 0)), (1, zR (E 0)), (2, zI vv)] [zI (-2)] σs28 _
    refine zF_bipush 33 dL_act_31 rfl (by decide) ?_
    refine zF_icmp_ne 40 36 dL_act_33 rfl rfl (by first | decide | assumption | exact hV.b _ | exact mSh_rg hV.b _ _ | (constructor <;> omega)) (by first | decide | assumption | exact hV.b _ | exact mSh_rg hV.b _ _ | (constructor <;> omega)) (fun c3 => ?_) (fun c3 => ?_)
    · exact absurd c3 (by decide)
    · refine zF_iconst 37 dL_act_36 rfl ?_
      refine zF_goto 41 dL_act_37 rfl ?_
      exact zF_ireturn dL_act_41 rfl (pAct_no fr28 rfl L28 (hE.mu fr28 hU hn0 (by omega)) hU)
theorem mv_eO (hV : mV N) (hE : eO N σ E) {f a b : Int} (f0 : 0 ≤ f) (f1 : f < N 2) (a0 : 0 ≤ a) (a1 : a ≤ N 0) (b0 : 0 ≤ b) (b1 : b ≤ N 0) (x : Int) (hx : x = mP N f (b - 1) + 1) : eO (mMv N f (a - 1) (b - 1)) (zsi (zsi (zsi σ (E (900 + f.toNat)) a (mP N f (a - 1) - 1)) (E (900 + f.toNat)) b x) (E 0) ((5 : Nat) : Int) (N 5 + 1)) E := by
  have hn := hV.n
  have hb := eB_of hV
  have o1 := eO.p9 hb hE (x9 := f) (y9 := a - 1) (v := mP N f (a - 1) - 1) f0 f1 (by omega) (by omega)
  rw [show a - 1 + 1 = a by omega] at o1
  have n0 : mSet N (154 + 5 * f + (a - 1) + 1) (mP N f (a - 1) - 1) 0 = N 0 := mSet_o (by omega)
  have n2 : mSet N (154 + 5 * f + (a - 1) + 1) (mP N f (a - 1) - 1) 2 = N 2 := mSet_o (by omega)
  have b1' := eB_set hb (j := 154 + 5 * f + (a - 1) + 1) (v := mP N f (a - 1) - 1) (by omega)
  have o2 := eO.p9 b1' o1 (x9 := f) (y9 := b - 1) (v := x) f0 (by omega) (by omega) (by omega)
  rw [show b - 1 + 1 = b by omega] at o2
  have b2' := eB_set b1' (j := 154 + 5 * f + (b - 1) + 1) (v := x) (by omega)
  have o3 := eO.pi5 b2' o2 (v := N 5 + 1)
  unfold mMv
  rw [← hx]
  exact o3
theorem mv_to (hV : mV N) {f a b : Int} (f0 : 0 ≤ f) (f1 : f < N 2) (a0 : 0 ≤ a) (a1 : a ≤ N 0) (b0 : 0 ≤ b) (b1 : b ≤ N 0) (ab : a ≠ b) : aTo N (mMv N f (a - 1) (b - 1)) := by
  have hn := hV.n
  have m : ∀ j, j ≠ 5 → j ≠ 154 + 5 * f + (a - 1) + 1 → j ≠ 154 + 5 * f + (b - 1) + 1 → mMv N f (a - 1) (b - 1) j = N j := fun j h5 h1 h2 => by
    unfold mMv
    rw [mSet_o h5, mSet_o h2, mSet_o h1]
  have e0 : mMv N f (a - 1) (b - 1) 0 = N 0 := m 0 (by omega) (by omega) (by omega)
  refine ⟨⟨e0, m 1 (by omega) (by omega) (by omega), m 2 (by omega) (by omega) (by omega)⟩, fun g g0 g1 => ?_⟩
  unfold prSum
  rw [e0]
  by_cases c : g = f
  · subst c
    obtain ⟨an, ea⟩ := Int.eq_ofNat_of_zero_le a0
    obtain ⟨bn, eb⟩ := Int.eq_ofNat_of_zero_le b0
    subst ea eb
    have u1 := zsum_upd (f := fun p => mP N g (p + -1)) (g := fun p => if p = (an : Int) then mP N g (p + -1) - 1 else mP N g (p + -1)) (j := an) (n := (N 0).toNat + 1) (by omega) (fun i _ ne => if_neg (by omega))
    have u2 := zsum_upd (f := fun p => if p = (an : Int) then mP N g (p + -1) - 1 else mP N g (p + -1)) (g := fun p => mP (mMv N g ((an : Int) - 1) ((bn : Int) - 1)) g (p + -1)) (j := bn) (n := (N 0).toNat + 1) (by omega) (fun i hi ne => by
      show mMv N g ((an : Int) - 1) ((bn : Int) - 1) (154 + 5 * g + ((i : Int) + -1) + 1) = if (i : Int) = (an : Int) then mP N g ((i : Int) + -1) - 1 else mP N g ((i : Int) + -1)
      by_cases q : (i : Int) = (an : Int)
      · rw [if_pos q]
        unfold mMv
        rw [mSet_o (by omega), mSet_o (by omega), show 154 + 5 * g + ((i : Int) + -1) + 1 = 154 + 5 * g + ((an : Int) - 1) + 1 by omega, mSet_at, show (i : Int) + -1 = (an : Int) - 1 by omega]
      · rw [if_neg q]
        exact m _ (by omega) (by omega) (by omega))
    have v1 : (if (an : Int) = (an : Int) then mP N g ((an : Int) + -1) - 1 else mP N g ((an : Int) + -1)) = mP N g ((an : Int) + -1) - 1 := if_pos rfl
    have v2 : (if (bn : Int) = (an : Int) then mP N g ((bn : Int) + -1) - 1 else mP N g ((bn : Int) + -1)) = mP N g ((bn : Int) + -1) := if_neg (by omega)
    have v3 : mP (mMv N g ((an : Int) - 1) ((bn : Int) - 1)) g ((bn : Int) + -1) = mP N g ((bn : Int) + -1) + 1 := by
      show mMv N g ((an : Int) - 1) ((bn : Int) - 1) (154 + 5 * g + ((bn : Int) + -1) + 1) = _
      unfold mMv
      rw [mSet_o (by omega), show 154 + 5 * g + ((bn : Int) + -1) + 1 = 154 + 5 * g + ((bn : Int) - 1) + 1 by omega, mSet_at, show (bn : Int) + -1 = (bn : Int) - 1 by omega]
    have w1 : zsum (fun p => if p = (an : Int) then mP N g (p + -1) - 1 else mP N g (p + -1)) ((N 0).toNat + 1) = zsum (fun p => mP N g (p + -1)) ((N 0).toNat + 1) + ((mP N g ((an : Int) + -1) - 1) - mP N g ((an : Int) + -1)) := by rw [← v1]; exact u1
    have w2 : zsum (fun p => mP (mMv N g ((an : Int) - 1) ((bn : Int) - 1)) g (p + -1)) ((N 0).toNat + 1) = zsum (fun p => if p = (an : Int) then mP N g (p + -1) - 1 else mP N g (p + -1)) ((N 0).toNat + 1) + ((mP N g ((bn : Int) + -1) + 1) - mP N g ((bn : Int) + -1)) := by rw [← v3, ← v2]; exact u2
    omega
  · exact zsum_congr fun p hp => m _ (by omega) (by omega) (by omega)
end ZQE

/-! acts, branch by branch -/
section ZQE
variable {G : zG} {d : Nat} {σ : zMem} {N : Int → Int} {H : Int → Int → Int} {u T w z3 vv f h s : Int} {E : Nat → Nat} {n0 : Nat}
theorem cL.gs (c : cL T (N, H, u) σ) {i : Nat} {j v : Int} (hE : ∀ i, 228 ≤ E i) : cL T (N, H, u) (zsi σ (E i) j v) := c.ge (E := E) (n := zn σ) (zGE.rf.si) c.1.1 hE
set_option maxRecDepth 20000 in
theorem act_fee (hGd : zGd G) (hAO : zAO G) (hL : cL T (N, H, u) σ) (hT : T ≤ 19999) (hE : eO N σ E) (hU : eU E n0 (zn σ)) (hn0 : 228 ≤ n0) (hbg : zn σ + 10 < zbg) : zF G mL_act (d + 10) 516 [(6, zI h), (5, zI f), (4, zI w), (3, zI z3), (0, zR (B0 0)), (1, zR (E 0)), (2, zI vv)] [] σ (pAct N H u T E n0 σ) := by
  have hK : cK T N σ := hL.K
  have hV := hK.V
  have hn := hV.n
  have hb := eB_of hV
  have hE228 := hU.ge228 hn0
  have hs228 := hL.1.1
  refine zF_aload_n 517 dL_act_516 rfl rfl ?_
  refine zF_getIN 520 dL_act_517 rfl gnL_58 (by decide) (by decide) hE.k0 hE.l0 hE.i4 ?_
  refine zF_istore 522 (ls' := [(7, zI (N 4)), (6, zI h), (5, zI f), (4, zI w), (3, zI z3), (0, zR (B0 0)), (1, zR (E 0)), (2, zI vv)]) dL_act_520 rfl (by decide) rfl ?_
  refine zF_aload_n 523 dL_act_522 rfl rfl ?_
  refine zF_iload 525 dL_act_523 rfl rfl ?_
  refine zF_sipush 528 dL_act_525 rfl (by decide) ?_
  refine zF_callS 531 (d2 := (d + 9)) (as := [zI w, zI 1000]) dL_act_528 rfl kL_27 sL_most (Nat.le_refl _) rfl rfl (Nat.le_of_ble_eq_true rfl) (zE.mono (zt_L_most (by omega) (by constructor <;> omega)) fun ro σx528 hh528 => ?_)
  obtain ⟨es528, z528, er528, zl528, zu528⟩ := hh528
  replace es528 := es528.symm
  subst es528
  subst er528
  refine ⟨rfl, ?_⟩
  show zF G mL_act (d + 10) 531 [(7, zI (N 4)), (6, zI h), (5, zI f), (4, zI w), (3, zI z3), (0, zR (B0 0)), (1, zR (E 0)), (2, zI vv)] [zI z528, zR (E 0)] σ _
  refine zF_putIN 534 dL_act_531 rfl pnL_58 hE.k0 hE.l0 ?_
  refine zF_aload_n 535 dL_act_534 rfl rfl ?_
  refine zF_aload_n 536 dL_act_535 rfl rfl ?_
  refine zF_getIN 539 dL_act_536 rfl gnL_58 (by decide) (by decide) hE.k0 hE.l0 (zsi_same _ _ _ _) ?_
  refine zF_callV 542 (d2 := (d + 9)) (as := [zI z528]) dL_act_539 rfl kL_164 iX11_setFee (ci := 11) rfl eX11_setFee (Nat.le_refl _) (hL.gs hE228).1.bk (hL.gs hE228).1.bl rfl rfl (Nat.le_of_ble_eq_true rfl) (zE.mono (pL_setFee (d := d) hGd (hL.gs hE228) (by omega) (by omega) (by omega)) fun ro σs539 hh539 => ?_)
  obtain ⟨er539, fr539, L539⟩ := hh539
  subst er539
  refine ⟨fr539.1, ?_⟩
  show zF G mL_act (d + 10) 542 [(7, zI (N 4)), (6, zI h), (5, zI f), (4, zI w), (3, zI z3), (0, zR (B0 0)), (1, zR (E 0)), (2, zI vv)] [zI (N 4)] σs539 _
  refine zF_iload 544 dL_act_542 rfl rfl ?_
  refine zF_icmp_ne 551 547 dL_act_544 rfl rfl (by first | decide | assumption | exact hV.b _ | exact mSh_rg hV.b _ _ | (constructor <;> omega)) (by first | decide | assumption | exact hV.b _ | exact mSh_rg hV.b _ _ | (constructor <;> omega)) (fun c1 => ?_) (fun c1 => ?_)
  · refine zF_iconst 552 dL_act_551 rfl ?_
    exact zF_ireturn dL_act_552 rfl (by exfalso; omega)
  · refine zF_iconst 548 dL_act_547 rfl ?_
    refine zF_goto 552 dL_act_548 rfl ?_
    exact zF_ireturn dL_act_552 rfl (pAct_do ((zAE_ge zGE.rf.si).tr (zAE_fr fr539)) ((zB_fr fr539 : zB _ _ 8)) rfl (L539.ups (by omega)) ((eO.pi4 hb hE).mu fr539 hU hn0 (by omega)) (by rw [fr539.1]; exact hU) (aTo_eq hV fun j hj => mSet_o (by omega)))
set_option maxRecDepth 20000 in
theorem act_holdover (hGd : zGd G) (hAO : zAO G) (hL : cL T (N, H, u) σ) (hT : T ≤ 19999) (hE : eO N σ E) (hU : eU E n0 (zn σ)) (hn0 : 228 ≤ n0) (hbg : zn σ + 10 < zbg) (h0 : 0 ≤ h) (h1 : h < N 0) : zF G mL_act (d + 10) 446 [(6, zI h), (5, zI f), (4, zI w), (3, zI z3), (0, zR (B0 0)), (1, zR (E 0)), (2, zI vv)] [] σ (pAct N H u T E n0 σ) := by
  have hK : cK T N σ := hL.K
  have hV := hK.V
  have hn := hV.n
  have hb := eB_of hV
  have hE228 := hU.ge228 hn0
  have hs228 := hL.1.1
  refine zF_aload_n 447 dL_act_446 rfl rfl ?_
  refine zF_getRN 450 dL_act_447 rfl gnL_35 hE.k0 hE.l0 (hE.f 6 6 4 (by decide)).1 ?_
  refine zF_iload 452 dL_act_450 rfl rfl ?_
  refine zF_aaldA 453 dL_act_452 rfl (hE.f 6 6 4 (by decide)).2.2 (hE.f 6 6 4 (by decide)).2.1 (by omega) (by omega) (hE.r6 _ (by omega) (by omega)).1 ?_
  refine zF_iconst 454 dL_act_453 rfl ?_
  refine zF_iaload 455 dL_act_454 rfl (hE.r6 _ (by omega) (by omega)).2.2 (hE.r6 _ (by omega) (by omega)).2.1 (by omega) (by omega) (hE.c6 _ _ (by omega) (by omega) (by omega) (by omega)) ?_
  have hh := hV.h h h0 (by omega)
  refine zF_istore 457 (ls' := [(7, zI (mH N h 1)), (6, zI h), (5, zI f), (4, zI w), (3, zI z3), (0, zR (B0 0)), (1, zR (E 0)), (2, zI vv)]) dL_act_455 rfl (by decide) rfl ?_
  refine zF_aload_n 458 dL_act_457 rfl rfl ?_
  refine zF_getRN 461 dL_act_458 rfl gnL_35 hE.k0 hE.l0 (hE.f 6 6 4 (by decide)).1 ?_
  refine zF_iload 463 dL_act_461 rfl rfl ?_
  refine zF_aaldA 464 dL_act_463 rfl (hE.f 6 6 4 (by decide)).2.2 (hE.f 6 6 4 (by decide)).2.1 (by omega) (by omega) (hE.r6 _ (by omega) (by omega)).1 ?_
  refine zF_iconst 465 dL_act_464 rfl ?_
  refine zF_iconst 466 dL_act_465 rfl ?_
  refine zF_iload 468 dL_act_466 rfl rfl ?_
  refine zF_iconst 469 dL_act_468 rfl ?_
  refine zF_ishr 470 dL_act_469 rfl ?_
  refine zF_bipush 472 dL_act_470 rfl (by decide) ?_
  refine zF_callS 475 (d2 := (d + 9)) (as := [zI ((Int32.ofInt w >>> (Int32.ofInt 2 &&& 31)).toInt), zI 100]) dL_act_472 rfl kL_27 sL_most (Nat.le_refl _) rfl rfl (Nat.le_of_ble_eq_true rfl) (zE.mono (zt_L_most (by omega) (by constructor <;> omega)) fun ro σx472 hh472 => ?_)
  obtain ⟨es472, z472, er472, zl472, zu472⟩ := hh472
  replace es472 := es472.symm
  subst es472
  subst er472
  refine ⟨rfl, ?_⟩
  show zF G mL_act (d + 10) 475 [(7, zI (mH N h 1)), (6, zI h), (5, zI f), (4, zI w), (3, zI z3), (0, zR (B0 0)), (1, zR (E 0)), (2, zI vv)] [zI z472, zI 1, zI 1, zR (E (600 + h.toNat))] σ _
  refine zF_iadd 476 dL_act_475 rfl ?_
  refine zF_iastore 477 dL_act_476 rfl (hE.r6 _ (by omega) (by omega)).2.2 (hE.r6 _ (by omega) (by omega)).2.1 (by omega) (by omega) ?_
  refine zF_aload_n 478 dL_act_477 rfl rfl ?_
  refine zF_iload 480 dL_act_478 rfl rfl ?_
  refine zF_aload_n 481 dL_act_480 rfl rfl ?_
  refine zF_getRN 484 dL_act_481 rfl gnL_35 hE.k0 hE.l0 (hE.f 6 6 4 (by decide)).1 ?_
  refine zF_iload 486 dL_act_484 rfl rfl ?_
  refine zF_aaldA 487 dL_act_486 rfl (hE.f 6 6 4 (by decide)).2.2 (hE.f 6 6 4 (by decide)).2.1 (by omega) (by omega) (hE.r6 _ (by omega) (by omega)).1 ?_
  refine zF_iconst 488 dL_act_487 rfl ?_
  refine zF_iaload 489 dL_act_488 rfl (hE.r6 _ (by omega) (by omega)).2.2 (hE.r6 _ (by omega) (by omega)).2.1 (by omega) (by omega) (zsi_same _ _ _ _) ?_
  refine zF_callV 492 (d2 := (d + 9)) (as := [zI h, zI (1 + z472)]) dL_act_489 rfl kL_161 iX11_setHoldover (ci := 11) rfl eX11_setHoldover (Nat.le_refl _) (hL.gs hE228).1.bk (hL.gs hE228).1.bl rfl rfl (Nat.le_of_ble_eq_true rfl) (zE.mono (pL_setHoldover (d := d) hGd (hL.gs hE228) (by omega) h0 h1 (by omega) (by omega)) fun ro σs489 hh489 => ?_)
  obtain ⟨er489, fr489, L489⟩ := hh489
  subst er489
  refine ⟨fr489.1, ?_⟩
  show zF G mL_act (d + 10) 492 [(7, zI (mH N h 1)), (6, zI h), (5, zI f), (4, zI w), (3, zI z3), (0, zR (B0 0)), (1, zR (E 0)), (2, zI vv)] [zI (mH N h 1)] σs489 _
  refine zF_iload 494 dL_act_492 rfl rfl ?_
  refine zF_icmp_ne 501 497 dL_act_494 rfl rfl (by first | decide | assumption | exact hV.b _ | exact mSh_rg hV.b _ _ | (constructor <;> omega)) (by first | decide | assumption | exact hV.b _ | exact mSh_rg hV.b _ _ | (constructor <;> omega)) (fun c1 => ?_) (fun c1 => ?_)
  · refine zF_iconst 502 dL_act_501 rfl ?_
    exact zF_ireturn dL_act_502 rfl (by exfalso; omega)
  · refine zF_iconst 498 dL_act_497 rfl ?_
    refine zF_goto 502 dL_act_498 rfl ?_
    exact zF_ireturn dL_act_502 rfl (pAct_do ((zAE_ge zGE.rf.si).tr (zAE_fr fr489)) ((zB_fr fr489 : zB _ _ 8)) rfl (L489.ups (by omega)) ((eO.p6 hb hE (x9 := h) (y9 := 1) (v := 1 + z472) h0 h1 (by omega) (by omega)).mu fr489 hU hn0 (by omega)) (by rw [fr489.1]; exact hU) (aTo_eq hV fun j hj => mSet_o (by omega)))
set_option maxRecDepth 20000 in
theorem act_rent (hGd : zGd G) (hAO : zAO G) (hL : cL T (N, H, u) σ) (hT : T ≤ 19999) (hE : eO N σ E) (hU : eU E n0 (zn σ)) (hn0 : 228 ≤ n0) (hbg : zn σ + 10 < zbg) (s0 : 0 ≤ s) (s1 : s < N 1) : zF G mL_act (d + 10) 572 [(7, zI s), (6, zI h), (5, zI f), (4, zI w), (3, zI z3), (0, zR (B0 0)), (1, zR (E 0)), (2, zI vv)] [] σ (pAct N H u T E n0 σ) := by
  have hK : cK T N σ := hL.K
  have hV := hK.V
  have hn := hV.n
  have hb := eB_of hV
  have hE228 := hU.ge228 hn0
  have hs228 := hL.1.1
  refine zF_aload_n 573 dL_act_572 rfl rfl ?_
  refine zF_getRN 576 dL_act_573 rfl gnL_52 hE.k0 hE.l0 (hE.f 7 6 10 (by decide)).1 ?_
  refine zF_iload 578 dL_act_576 rfl rfl ?_
  refine zF_aaldA 579 dL_act_578 rfl (hE.f 7 6 10 (by decide)).2.2 (hE.f 7 6 10 (by decide)).2.1 (by omega) (by omega) (hE.r7 _ (by omega) (by omega)).1 ?_
  refine zF_iconst 580 dL_act_579 rfl ?_
  refine zF_iaload 581 dL_act_580 rfl (hE.r7 _ (by omega) (by omega)).2.2 (hE.r7 _ (by omega) (by omega)).2.1 (by omega) (by omega) (hE.c7 _ _ (by omega) (by omega) (by omega) (by omega)) ?_
  have hv := hV.s s s0 (by omega)
  refine zF_istore 583 (ls' := [(8, zI (mS N s 3)), (7, zI s), (6, zI h), (5, zI f), (4, zI w), (3, zI z3), (0, zR (B0 0)), (1, zR (E 0)), (2, zI vv)]) dL_act_581 rfl (by decide) rfl ?_
  refine zF_aload_n 584 dL_act_583 rfl rfl ?_
  refine zF_getRN 587 dL_act_584 rfl gnL_52 hE.k0 hE.l0 (hE.f 7 6 10 (by decide)).1 ?_
  refine zF_iload 589 dL_act_587 rfl rfl ?_
  refine zF_aaldA 590 dL_act_589 rfl (hE.f 7 6 10 (by decide)).2.2 (hE.f 7 6 10 (by decide)).2.1 (by omega) (by omega) (hE.r7 _ (by omega) (by omega)).1 ?_
  refine zF_iconst 591 dL_act_590 rfl ?_
  refine zF_iload 593 dL_act_591 rfl rfl ?_
  refine zF_iconst 594 dL_act_593 rfl ?_
  refine zF_ishr 595 dL_act_594 rfl ?_
  refine zF_sipush 598 dL_act_595 rfl (by decide) ?_
  refine zF_callS 601 (d2 := (d + 9)) (as := [zI ((Int32.ofInt w >>> (Int32.ofInt 4 &&& 31)).toInt), zI 300]) dL_act_598 rfl kL_27 sL_most (Nat.le_refl _) rfl rfl (Nat.le_of_ble_eq_true rfl) (zE.mono (zt_L_most (by omega) (by constructor <;> omega)) fun ro σx598 hh598 => ?_)
  obtain ⟨es598, z598, er598, zl598, zu598⟩ := hh598
  replace es598 := es598.symm
  subst es598
  subst er598
  refine ⟨rfl, ?_⟩
  show zF G mL_act (d + 10) 601 [(8, zI (mS N s 3)), (7, zI s), (6, zI h), (5, zI f), (4, zI w), (3, zI z3), (0, zR (B0 0)), (1, zR (E 0)), (2, zI vv)] [zI z598, zI 3, zR (E (700 + s.toNat))] σ _
  refine zF_iastore 602 dL_act_601 rfl (hE.r7 _ (by omega) (by omega)).2.2 (hE.r7 _ (by omega) (by omega)).2.1 (by omega) (by omega) ?_
  refine zF_aload_n 603 dL_act_602 rfl rfl ?_
  refine zF_iload 605 dL_act_603 rfl rfl ?_
  refine zF_aload_n 606 dL_act_605 rfl rfl ?_
  refine zF_getRN 609 dL_act_606 rfl gnL_52 hE.k0 hE.l0 (hE.f 7 6 10 (by decide)).1 ?_
  refine zF_iload 611 dL_act_609 rfl rfl ?_
  refine zF_aaldA 612 dL_act_611 rfl (hE.f 7 6 10 (by decide)).2.2 (hE.f 7 6 10 (by decide)).2.1 (by omega) (by omega) (hE.r7 _ (by omega) (by omega)).1 ?_
  refine zF_iconst 613 dL_act_612 rfl ?_
  refine zF_iaload 614 dL_act_613 rfl (hE.r7 _ (by omega) (by omega)).2.2 (hE.r7 _ (by omega) (by omega)).2.1 (by omega) (by omega) (zsi_same _ _ _ _) ?_
  refine zF_callV 617 (d2 := (d + 9)) (as := [zI s, zI z598]) dL_act_614 rfl kL_167 iX11_setRent (ci := 11) rfl eX11_setRent (Nat.le_refl _) (hL.gs hE228).1.bk (hL.gs hE228).1.bl rfl rfl (Nat.le_of_ble_eq_true rfl) (zE.mono (pL_setRent (d := d) hGd (hL.gs hE228) (by omega) s0 s1 (by omega) (by omega)) fun ro σs614 hh614 => ?_)
  obtain ⟨er614, fr614, L614⟩ := hh614
  subst er614
  refine ⟨fr614.1, ?_⟩
  show zF G mL_act (d + 10) 617 [(8, zI (mS N s 3)), (7, zI s), (6, zI h), (5, zI f), (4, zI w), (3, zI z3), (0, zR (B0 0)), (1, zR (E 0)), (2, zI vv)] [zI (mS N s 3)] σs614 _
  refine zF_iload 619 dL_act_617 rfl rfl ?_
  refine zF_icmp_ne 626 622 dL_act_619 rfl rfl (by first | decide | assumption | exact hV.b _ | exact mSh_rg hV.b _ _ | (constructor <;> omega)) (by first | decide | assumption | exact hV.b _ | exact mSh_rg hV.b _ _ | (constructor <;> omega)) (fun c1 => ?_) (fun c1 => ?_)
  · refine zF_iconst 627 dL_act_626 rfl ?_
    exact zF_ireturn dL_act_627 rfl (by exfalso; omega)
  · refine zF_iconst 623 dL_act_622 rfl ?_
    refine zF_goto 627 dL_act_623 rfl ?_
    exact zF_ireturn dL_act_627 rfl (pAct_do ((zAE_ge zGE.rf.si).tr (zAE_fr fr614)) ((zB_fr fr614 : zB _ _ 8)) rfl (L614.ups (by omega)) ((eO.p7 hb hE (x9 := s) (y9 := 3) (v := z598) s0 s1 (by omega) (by omega)).mu fr614 hU hn0 (by omega)) (by rw [fr614.1]; exact hU) (aTo_eq hV fun j hj => mSet_o (by omega)))
set_option maxRecDepth 20000 in
theorem act_empty (hGd : zGd G) (hAO : zAO G) (hL : cL T (N, H, u) σ) (hT : T ≤ 19999) (hE : eO N σ E) (hU : eU E n0 (zn σ)) (hn0 : 228 ≤ n0) (hbg : zn σ + 10 < zbg) (s0 : 0 ≤ s) (s1 : s < N 1) : zF G mL_act (d + 10) 634 [(7, zI s), (6, zI h), (5, zI f), (4, zI w), (3, zI z3), (0, zR (B0 0)), (1, zR (E 0)), (2, zI vv)] [] σ (pAct N H u T E n0 σ) := by
  have hK : cK T N σ := hL.K
  have hV := hK.V
  have hn := hV.n
  have hb := eB_of hV
  have hE228 := hU.ge228 hn0
  have hs228 := hL.1.1
  have hv := hV.s s s0 (by omega)
  refine zF_aload_n 635 dL_act_634 rfl rfl ?_
  refine zF_getRN 638 dL_act_635 rfl gnL_52 hE.k0 hE.l0 (hE.f 7 6 10 (by decide)).1 ?_
  refine zF_iload 640 dL_act_638 rfl rfl ?_
  refine zF_aaldA 641 dL_act_640 rfl (hE.f 7 6 10 (by decide)).2.2 (hE.f 7 6 10 (by decide)).2.1 (by omega) (by omega) (hE.r7 _ (by omega) (by omega)).1 ?_
  refine zF_bipush 643 dL_act_641 rfl (by decide) ?_
  refine zF_iaload 644 dL_act_643 rfl (hE.r7 _ (by omega) (by omega)).2.2 (hE.r7 _ (by omega) (by omega)).2.1 (by omega) (by omega) (hE.c7 _ _ (by omega) (by omega) (by omega) (by omega)) ?_
  refine zF_iconst 645 dL_act_644 rfl ?_
  refine zF_icmp_ne 665 648 dL_act_645 rfl rfl (by first | decide | assumption | exact hV.b _ | exact mSh_rg hV.b _ _ | (constructor <;> omega)) (by first | decide | assumption | exact hV.b _ | exact mSh_rg hV.b _ _ | (constructor <;> omega)) (fun c1 => ?_) (fun c1 => ?_)
  · refine zF_aload_n 666 dL_act_665 rfl rfl ?_
    refine zF_getRN 669 dL_act_666 rfl gnL_52 hE.k0 hE.l0 (hE.f 7 6 10 (by decide)).1 ?_
    refine zF_iload 671 dL_act_669 rfl rfl ?_
    refine zF_aaldA 672 dL_act_671 rfl (hE.f 7 6 10 (by decide)).2.2 (hE.f 7 6 10 (by decide)).2.1 (by omega) (by omega) (hE.r7 _ (by omega) (by omega)).1 ?_
    refine zF_iconst 673 dL_act_672 rfl ?_
    refine zF_iaload 674 dL_act_673 rfl (hE.r7 _ (by omega) (by omega)).2.2 (hE.r7 _ (by omega) (by omega)).2.1 (by omega) (by omega) (hE.c7 _ _ (by omega) (by omega) (by omega) (by omega)) ?_
    refine zF_istore 676 (ls' := [(8, zI (mS N s 4)), (7, zI s), (6, zI h), (5, zI f), (4, zI w), (3, zI z3), (0, zR (B0 0)), (1, zR (E 0)), (2, zI vv)]) dL_act_674 rfl (by decide) rfl ?_
    refine zF_aload_n 677 dL_act_676 rfl rfl ?_
    refine zF_iload 679 dL_act_677 rfl rfl ?_
    refine zF_iconst 680 dL_act_679 rfl ?_
    refine zF_iconst 681 dL_act_680 rfl ?_
    refine zF_iconst 682 dL_act_681 rfl ?_
    refine zF_iconst 683 dL_act_682 rfl ?_
    refine zF_callVN 686 (d2 := (d + 9)) (as := [zI s, zI (-1), zI (-1), zI 0, zI 0]) dL_act_683 rfl knL_154 iX12_book (ci := 12) rfl eX12_book (Nat.le_refl _) hE.k0 hE.l0 rfl rfl (Nat.le_of_ble_eq_true rfl) (by exact (⟨trivial, trivial, trivial, trivial, trivial, trivial, zwR hL.1.bl, zwR hE.l0, trivial, trivial⟩ : _ ∧ _ ∧ _ ∧ _ ∧ _ ∧ _ ∧ _ ∧ _ ∧ _ ∧ True)) (by exact trivial) (zE.mono (zt_X12_book hE hV s0 s1) fun ro σs683 hh683 => ⟨_, hh683.1, ?_⟩)
    obtain ⟨-, fr683, O683⟩ := hh683
    have gB683 : zGE E (zn σ) σ σs683 := zGE.fr fr683
    have L683 := hL.ge gB683 hs228 hE228
    show zF G mL_act (d + 10) 686 [(8, zI (mS N s 4)), (7, zI s), (6, zI h), (5, zI f), (4, zI w), (3, zI z3), (0, zR (B0 0)), (1, zR (E 0)), (2, zI vv)] [] σs683 _
    refine zF_aload_n 687 dL_act_686 rfl rfl ?_
    refine zF_iload 689 dL_act_687 rfl rfl ?_
    refine zF_callV 692 (d2 := (d + 9)) (as := [zI s]) dL_act_689 rfl kL_170 iX11_empty (ci := 11) rfl eX11_empty (Nat.le_refl _) L683.1.bk L683.1.bl rfl rfl (Nat.le_of_ble_eq_true rfl) (zE.mono (pL_empty (d := d) hGd L683 s0 s1 (by omega)) fun ro σs689 hh689 => ?_)
    obtain ⟨er689, fr689, L689⟩ := hh689
    subst er689
    refine ⟨fr689.1, ?_⟩
    show zF G mL_act (d + 10) 692 [(8, zI (mS N s 4)), (7, zI s), (6, zI h), (5, zI f), (4, zI w), (3, zI z3), (0, zR (B0 0)), (1, zR (E 0)), (2, zI vv)] [zI (mS N s 4)] σs689 _
    refine zF_iload 694 dL_act_692 rfl rfl ?_
    refine zF_icmp_ne 701 697 dL_act_694 rfl rfl (by first | decide | assumption | exact hV.b _ | exact mSh_rg hV.b _ _ | (constructor <;> omega)) (by first | decide | assumption | exact hV.b _ | exact mSh_rg hV.b _ _ | (constructor <;> omega)) (fun c2 => ?_) (fun c2 => ?_)
    · refine zF_iconst 702 dL_act_701 rfl ?_
      exact zF_ireturn dL_act_702 rfl (by exfalso; omega)
    · refine zF_iconst 698 dL_act_697 rfl ?_
      refine zF_goto 702 dL_act_698 rfl ?_
      exact zF_ireturn dL_act_702 rfl (pAct_do ((zAE_ge gB683).tr (zAE_fr fr689)) ((zB_fr (fr683) : zB _ _ 4).tr (zB_fr fr689 : zB _ _ 4)) rfl (L689.ups (by omega)) (O683.mu fr689 hU hn0 (by omega)) (by rw [fr689.1, fr683.1]; exact hU) (aTo_eq hV fun j hj => mBook_o N s0 (by omega) (by omega)))
  · refine zF_aload_n 649 dL_act_648 rfl rfl ?_
    refine zF_iload 651 dL_act_649 rfl rfl ?_
    refine zF_callV 654 (d2 := (d + 9)) (as := [zI s]) dL_act_651 rfl kL_170 iX11_empty (ci := 11) rfl eX11_empty (Nat.le_refl _) hL.1.bk hL.1.bl rfl rfl (Nat.le_of_ble_eq_true rfl) (zE.mono (pL_empty2 (d := d) hGd hL s0 s1 (by omega)) fun ro σs651 hh651 => ?_)
    obtain ⟨er651, fr651, L651⟩ := hh651
    subst er651
    refine ⟨fr651.1, ?_⟩
    show zF G mL_act (d + 10) 654 [(7, zI s), (6, zI h), (5, zI f), (4, zI w), (3, zI z3), (0, zR (B0 0)), (1, zR (E 0)), (2, zI vv)] [zI (-2)] σs651 _
    refine zF_bipush 656 dL_act_654 rfl (by decide) ?_
    refine zF_icmp_ne 663 659 dL_act_656 rfl rfl (by first | decide | assumption | exact hV.b _ | exact mSh_rg hV.b _ _ | (constructor <;> omega)) (by first | decide | assumption | exact hV.b _ | exact mSh_rg hV.b _ _ | (constructor <;> omega)) (fun c3 => ?_) (fun c3 => ?_)
    · exact absurd c3 (by decide)
    · refine zF_iconst 660 dL_act_659 rfl ?_
      refine zF_goto 664 dL_act_660 rfl ?_
      exact zF_ireturn dL_act_664 rfl (pAct_no fr651 rfl L651 (hE.mu fr651 hU hn0 (by omega)) hU)
set_option maxRecDepth 20000 in
theorem act_close (hGd : zGd G) (hAO : zAO G) (hL : cL T (N, H, u) σ) (hT : T ≤ 19999) (hE : eO N σ E) (hU : eU E n0 (zn σ)) (hn0 : 228 ≤ n0) (hbg : zn σ + 10 < zbg) : zF G mL_act (d + 10) 18 [(4, zI w), (3, zI z3), (0, zR (B0 0)), (1, zR (E 0)), (2, zI vv)] [] σ (pAct N H u T E n0 σ) := by
  have hK : cK T N σ := hL.K
  have hV := hK.V
  have hn := hV.n
  have hb := eB_of hV
  have hE228 := hU.ge228 hn0
  have hs228 := hL.1.1
  refine zF_aload_n 19 dL_act_18 rfl rfl ?_
  refine zF_getIN 22 dL_act_19 rfl gnL_102 (by decide) (by decide) hE.k0 hE.l0 hE.i3 ?_
  refine zF_bipush 24 dL_act_22 rfl (by decide) ?_
  refine zF_icmp_ne 42 27 dL_act_24 rfl rfl (by first | decide | assumption | exact hV.b _ | exact mSh_rg hV.b _ _ | (constructor <;> omega)) (by first | decide | assumption | exact hV.b _ | exact mSh_rg hV.b _ _ | (constructor <;> omega)) (fun c1 => ?_) (fun c1 => ?_)
  · refine zF_aload_n 43 dL_act_42 rfl rfl ?_
    have hC := zt_X12_close (G := G) (d := d + 2) hE hV hK.W (gOK_ex hV) hK.X hK.mq (clA_b hV hK.W hL.f4 hK.2.2.1.m (by omega)) (by omega) hAO (fun i a a0 a1 e => by have q := hU i; have e1 : zbg = 1000000 := rfl; omega) (by omega)
    refine zF_callVN 46 (d2 := (d + 9)) (as := []) dL_act_43 rfl knL_143 iX12_close (ci := 12) rfl eX12_close (Nat.le_refl _) hE.k0 hE.l0 rfl rfl (Nat.le_of_ble_eq_true rfl) (by exact (⟨trivial, trivial, zwR hL.1.bl, zwR hE.l0, trivial, trivial⟩ : _ ∧ _ ∧ _ ∧ _ ∧ _ ∧ True)) (by exact trivial) (zE.mono hC fun ro σs43 hh43 => ⟨_, hh43.1, ?_⟩)
    obtain ⟨-, O43, g43, n43, c43, q43⟩ := hh43
    have L43 := hL.ge g43 hs228 hE228
    have hss := nS_eq hV
    have hff := nF_eq hV
    have amr := clA_b hV hK.W hL.f4 hK.2.2.1.m (by omega) 0
    show zF G mL_act (d + 10) 46 [(4, zI w), (3, zI z3), (0, zR (B0 0)), (1, zR (E 0)), (2, zI vv)] [zI (clA N 0)] σs43 _
    refine zF_istore 48 (ls' := [(5, zI (clA N 0)), (4, zI w), (3, zI z3), (0, zR (B0 0)), (1, zR (E 0)), (2, zI vv)]) dL_act_46 rfl (by decide) rfl ?_
    refine zF_aload_n 49 dL_act_48 rfl rfl ?_
    refine zF_callV 52 (d2 := (d + 9)) (as := []) dL_act_49 rfl kL_140 iX11_close (ci := 11) rfl eX11_close (Nat.le_refl _) L43.1.bk L43.1.bl rfl rfl (Nat.le_of_ble_eq_true rfl) (zE.mono (pL_close (d := d) hGd L43 (by omega) (by omega)) fun ro σs49 hh49 => ?_)
    obtain ⟨er49, fr49, L49⟩ := hh49
    subst er49
    refine ⟨fr49.1, ?_⟩
    show zF G mL_act (d + 10) 52 [(5, zI (clA N 0)), (4, zI w), (3, zI z3), (0, zR (B0 0)), (1, zR (E 0)), (2, zI vv)] [zI (clA N 0)] σs49 _
    refine zF_iload 54 dL_act_52 rfl rfl ?_
    refine zF_icmp_ne 61 57 dL_act_54 rfl rfl (by first | decide | assumption | exact hV.b _ | exact mSh_rg hV.b _ _ | (constructor <;> omega)) (by first | decide | assumption | exact hV.b _ | exact mSh_rg hV.b _ _ | (constructor <;> omega)) (fun c2 => ?_) (fun c2 => ?_)
    · refine zF_iconst 62 dL_act_61 rfl ?_
      exact zF_ireturn dL_act_62 rfl (by exfalso; omega)
    · refine zF_iconst 58 dL_act_57 rfl ?_
      refine zF_goto 62 dL_act_58 rfl ?_
      exact zF_ireturn dL_act_62 rfl (pAct_do ((zAE_ge g43).tr (zAE_fr fr49)) (zB.tr (σ1 := σs43) (a := 4) (b := 4) ⟨by omega, by omega, by omega⟩ (zB_fr fr49)) rfl (L49.ups (by omega)) (O43.mu fr49 (hU.wk (by omega) : eU E n0 (zn σs43)) hn0 (by omega)) (by rw [fr49.1]; exact hU.wk (by omega)) (aTo_eq hV fun j hj => by
    by_cases c : j < 14
    · exact clN_lo (by omega) (by omega) c
    · exact clN_P (by omega) (by omega)))
  · refine zF_aload_n 28 dL_act_27 rfl rfl ?_
    refine zF_callV 31 (d2 := (d + 9)) (as := []) dL_act_28 rfl kL_140 iX11_close (ci := 11) rfl eX11_close (Nat.le_refl _) hL.1.bk hL.1.bl rfl rfl (Nat.le_of_ble_eq_true rfl) (zE.mono (pL_close60 (d := d) hGd hL (by omega) (by omega)) fun ro σs28 hh28 => ?_)
    obtain ⟨er28, fr28, L28⟩ := hh28
    subst er28
    refine ⟨fr28.1, ?_⟩
    show zF G mL_act (d + 10) 31 [(4, zI w), (3, zI z3), (0, zR (B0 0)), (1, zR (E 0)), (2, zI vv)] [zI (-2)] σs28 _
    refine zF_bipush 33 dL_act_31 rfl (by decide) ?_
    refine zF_icmp_ne 40 36 dL_act_33 rfl rfl (by first | decide | assumption | exact hV.b _ | exact mSh_rg hV.b _ _ | (constructor <;> omega)) (by first | decide | assumption | exact hV.b _ | exact mSh_rg hV.b _ _ | (constructor <;> omega)) (fun c3 => ?_) (fun c3 => ?_)
    · exact absurd c3 (by decide)
    · refine zF_iconst 37 dL_act_36 rfl ?_
      refine zF_goto 41 dL_act_37 rfl ?_
      exact zF_ireturn dL_act_41 rfl (pAct_no fr28 rfl L28 (hE.mu fr28 hU hn0 (by omega)) hU)
theorem mv_at {f a b : Int} (f0 : 0 ≤ f) (b0 : 0 ≤ b) : mP (mMv N f (a - 1) (b - 1)) f (b - 1) = mP N f (b - 1) + 1 := by
  unfold mMv
  show mSet _ 5 _ (154 + 5 * f + (b - 1) + 1) = _
  by_cases c : 154 + 5 * f + (b - 1) + 1 = 5
  · exfalso; omega
  · rw [mSet_o c, mSet_at]
theorem mv_eO (hV : mV N) (hE : eO N σ E) {f a b : Int} (f0 : 0 ≤ f) (f1 : f < N 2) (a0 : 0 ≤ a) (a1 : a ≤ N 0) (b0 : 0 ≤ b) (b1 : b ≤ N 0) (x : Int) (hx : x = mP N f (b - 1) + 1) : eO (mMv N f (a - 1) (b - 1)) (zsi (zsi (zsi σ (E (900 + f.toNat)) a (mP N f (a - 1) - 1)) (E (900 + f.toNat)) b x) (E 0) ((5 : Nat) : Int) (N 5 + 1)) E := by
  have hn := hV.n
  have hb := eB_of hV
  have o1 := eO.p9 hb hE (x9 := f) (y9 := a - 1) (v := mP N f (a - 1) - 1) f0 f1 (by omega) (by omega)
  rw [show a - 1 + 1 = a by omega] at o1
  have n0 : mSet N (154 + 5 * f + (a - 1) + 1) (mP N f (a - 1) - 1) 0 = N 0 := mSet_o (by omega)
  have n2 : mSet N (154 + 5 * f + (a - 1) + 1) (mP N f (a - 1) - 1) 2 = N 2 := mSet_o (by omega)
  have b1' := eB_set hb (j := 154 + 5 * f + (a - 1) + 1) (v := mP N f (a - 1) - 1) (by omega)
  have o2 := eO.p9 b1' o1 (x9 := f) (y9 := b - 1) (v := x) f0 (by omega) (by omega) (by omega)
  rw [show b - 1 + 1 = b by omega] at o2
  have b2' := eB_set b1' (j := 154 + 5 * f + (b - 1) + 1) (v := x) (by omega)
  have o3 := eO.pi5 b2' o2 (v := N 5 + 1)
  unfold mMv
  rw [← hx]
  exact o3
theorem mv_to (hV : mV N) {f a b : Int} (f0 : 0 ≤ f) (f1 : f < N 2) (a0 : 0 ≤ a) (a1 : a ≤ N 0) (b0 : 0 ≤ b) (b1 : b ≤ N 0) (ab : a ≠ b) : aTo N (mMv N f (a - 1) (b - 1)) := by
  have hn := hV.n
  have m : ∀ j, j ≠ 5 → j ≠ 154 + 5 * f + (a - 1) + 1 → j ≠ 154 + 5 * f + (b - 1) + 1 → mMv N f (a - 1) (b - 1) j = N j := fun j h5 h1 h2 => by
    unfold mMv
    rw [mSet_o h5, mSet_o h2, mSet_o h1]
  have e0 : mMv N f (a - 1) (b - 1) 0 = N 0 := m 0 (by omega) (by omega) (by omega)
  refine ⟨⟨e0, m 1 (by omega) (by omega) (by omega), m 2 (by omega) (by omega) (by omega)⟩, fun g g0 g1 => ?_⟩
  unfold prSum
  rw [e0]
  by_cases c : g = f
  · subst c
    obtain ⟨an, ea⟩ := Int.eq_ofNat_of_zero_le a0
    obtain ⟨bn, eb⟩ := Int.eq_ofNat_of_zero_le b0
    subst ea eb
    have u1 := zsum_upd (f := fun p => mP N g (p + -1)) (g := fun p => if p = (an : Int) then mP N g (p + -1) - 1 else mP N g (p + -1)) (j := an) (n := (N 0).toNat + 1) (by omega) (fun i _ ne => if_neg (by omega))
    have u2 := zsum_upd (f := fun p => if p = (an : Int) then mP N g (p + -1) - 1 else mP N g (p + -1)) (g := fun p => mP (mMv N g ((an : Int) - 1) ((bn : Int) - 1)) g (p + -1)) (j := bn) (n := (N 0).toNat + 1) (by omega) (fun i hi ne => by
      show mMv N g ((an : Int) - 1) ((bn : Int) - 1) (154 + 5 * g + ((i : Int) + -1) + 1) = if (i : Int) = (an : Int) then mP N g ((i : Int) + -1) - 1 else mP N g ((i : Int) + -1)
      by_cases q : (i : Int) = (an : Int)
      · rw [if_pos q]
        unfold mMv
        rw [mSet_o (by omega), mSet_o (by omega), show 154 + 5 * g + ((i : Int) + -1) + 1 = 154 + 5 * g + ((an : Int) - 1) + 1 by omega, mSet_at, show (i : Int) + -1 = (an : Int) - 1 by omega]
      · rw [if_neg q]
        exact m _ (by omega) (by omega) (by omega))
    have v1 : (if (an : Int) = (an : Int) then mP N g ((an : Int) + -1) - 1 else mP N g ((an : Int) + -1)) = mP N g ((an : Int) + -1) - 1 := if_pos rfl
    have v2 : (if (bn : Int) = (an : Int) then mP N g ((bn : Int) + -1) - 1 else mP N g ((bn : Int) + -1)) = mP N g ((bn : Int) + -1) := if_neg (by omega)
    have v3 : mP (mMv N g ((an : Int) - 1) ((bn : Int) - 1)) g ((bn : Int) + -1) = mP N g ((bn : Int) + -1) + 1 := by
      show mMv N g ((an : Int) - 1) ((bn : Int) - 1) (154 + 5 * g + ((bn : Int) + -1) + 1) = _
      unfold mMv
      rw [mSet_o (by omega), show 154 + 5 * g + ((bn : Int) + -1) + 1 = 154 + 5 * g + ((bn : Int) - 1) + 1 by omega, mSet_at, show (bn : Int) + -1 = (bn : Int) - 1 by omega]
    have w1 : zsum (fun p => if p = (an : Int) then mP N g (p + -1) - 1 else mP N g (p + -1)) ((N 0).toNat + 1) = zsum (fun p => mP N g (p + -1)) ((N 0).toNat + 1) + ((mP N g ((an : Int) + -1) - 1) - mP N g ((an : Int) + -1)) := by rw [← v1]; exact u1
    have w2 : zsum (fun p => mP (mMv N g ((an : Int) - 1) ((bn : Int) - 1)) g (p + -1)) ((N 0).toNat + 1) = zsum (fun p => if p = (an : Int) then mP N g (p + -1) - 1 else mP N g (p + -1)) ((N 0).toNat + 1) + ((mP N g ((bn : Int) + -1) + 1) - mP N g ((bn : Int) + -1)) := by rw [← v3, ← v2]; exact u2
    omega
  · exact zsum_congr fun p hp => m _ (by omega) (by omega) (by omega)
set_option maxRecDepth 20000 in
theorem act_move2 {a b : Int} (hGd : zGd G) (hAO : zAO G) (hL : cL T (N, H, u) σ) (hT : T ≤ 19999) (hE : eO N σ E) (hU : eU E n0 (zn σ)) (hn0 : 228 ≤ n0) (hbg : zn σ + 10 < zbg) (f0 : 0 ≤ f) (f1 : f < N 2) (a0 : 0 ≤ a) (a1 : a ≤ N 0) (b0 : 0 ≤ b) (b1 : b ≤ N 0) (ab : a ≠ b) : zF G mL_act (d + 10) 133 [(7, zI b), (6, zI a), (5, zI f), (4, zI w), (3, zI z3), (0, zR (B0 0)), (1, zR (E 0)), (2, zI vv)] [] σ (pAct N H u T E n0 σ) := by
  have hK : cK T N σ := hL.K
  have hV := hK.V
  have hn := hV.n
  have hb := eB_of hV
  have hE228 := hU.ge228 hn0
  have hs228 := hL.1.1
  have ha9 := hV.p f (a - 1) f0 (by omega) (by omega) (by omega)
  have hb9 := hV.p f (b - 1) f0 (by omega) (by omega) (by omega)
  have hnd : 0 < a → mNeed N (a - 1) f ≤ mP N f (a - 1) := fun q => hK.mq.p (a - 1) f (by omega) (by omega) f0 f1
  have zNd : zrg (mNeed N (a - 1) f) := by have q := mNeed_b hV (a - 1) f 7; unfold mNeed; constructor <;> omega
  have hne0 : E (900 + f.toNat) ≠ E 0 := fun q => by have := hE.inj _ _ q; omega
  refine zF_aload_n 134 dL_act_133 rfl rfl ?_
  refine zF_getRN 137 dL_act_134 rfl gnL_45 hE.k0 hE.l0 (hE.f 9 6 6 (by decide)).1 ?_
  refine zF_iload 139 dL_act_137 rfl rfl ?_
  refine zF_aaldA 140 dL_act_139 rfl (hE.f 9 6 6 (by decide)).2.2 (hE.f 9 6 6 (by decide)).2.1 (by omega) (by omega) (hE.r9 _ (by omega) (by omega)).1 ?_
  refine zF_iload 142 dL_act_140 rfl rfl ?_
  refine zF_iaload 143 dL_act_142 rfl (hE.r9 _ (by omega) (by omega)).2.2 (hE.r9 _ (by omega) (by omega)).2.1 (by omega) (by omega) (hE.c9q _ _ (by omega) (by omega) (by omega) (by omega)) ?_
  refine zF_if_ne 151 146 dL_act_143 rfl rfl (by first | decide | assumption | exact hV.b _ | exact mSh_rg hV.b _ _ | (constructor <;> omega)) (fun c1 => ?_) (fun c1 => ?_)
  · refine zF_iload 153 dL_act_151 rfl rfl ?_
    refine zF_if_le 184 156 dL_act_153 rfl rfl (by first | decide | assumption | exact hV.b _ | exact mSh_rg hV.b _ _ | (constructor <;> omega)) (fun c2 => ?_) (fun c2 => ?_)
    · refine zF_aload_n 185 dL_act_184 rfl rfl ?_
      refine zF_getRN 188 dL_act_185 rfl gnL_45 hE.k0 hE.l0 (hE.f 9 6 6 (by decide)).1 ?_
      refine zF_iload 190 dL_act_188 rfl rfl ?_
      refine zF_aaldA 191 dL_act_190 rfl (hE.f 9 6 6 (by decide)).2.2 (hE.f 9 6 6 (by decide)).2.1 (by omega) (by omega) (hE.r9 _ (by omega) (by omega)).1 ?_
      refine zF_iload 193 dL_act_191 rfl rfl ?_
      refine zF_iaload 194 dL_act_193 rfl (hE.r9 _ (by omega) (by omega)).2.2 (hE.r9 _ (by omega) (by omega)).2.1 (by omega) (by omega) (hE.c9q _ _ (by omega) (by omega) (by omega) (by omega)) ?_
      refine zF_bipush 196 dL_act_194 rfl (by decide) ?_
      refine zF_icmp_ne 204 199 dL_act_196 rfl rfl (by first | decide | assumption | exact hV.b _ | exact mSh_rg hV.b _ _ | (constructor <;> omega)) (by first | decide | assumption | exact hV.b _ | exact mSh_rg hV.b _ _ | (constructor <;> omega)) (fun c3 => ?_) (fun c3 => ?_)
      · refine zF_iconst 205 dL_act_204 rfl ?_
        refine zF_istore 207 (ls' := [(8, zI 0), (7, zI b), (6, zI a), (5, zI f), (4, zI w), (3, zI z3), (0, zR (B0 0)), (1, zR (E 0)), (2, zI vv)]) dL_act_205 rfl (by decide) rfl ?_
        refine zF_iload 209 dL_act_207 rfl rfl ?_
        refine zF_if_ge 237 212 dL_act_209 rfl rfl (by first | decide | assumption | exact hV.b _ | exact mSh_rg hV.b _ _ | (constructor <;> omega)) (fun c4 => ?_) (fun c4 => ?_)
        · refine zF_aload_n 238 dL_act_237 rfl rfl ?_
          refine zF_getRN 241 dL_act_238 rfl gnL_45 hE.k0 hE.l0 (hE.f 9 6 6 (by decide)).1 ?_
          refine zF_iload 243 dL_act_241 rfl rfl ?_
          refine zF_aaldA 244 dL_act_243 rfl (hE.f 9 6 6 (by decide)).2.2 (hE.f 9 6 6 (by decide)).2.1 (by omega) (by omega) (hE.r9 _ (by omega) (by omega)).1 ?_
          refine zF_iload 246 dL_act_244 rfl rfl ?_
          refine zF_dup2 247 dL_act_246 rfl rfl rfl ?_
          refine zF_iaload 248 dL_act_247 rfl (hE.r9 _ (by omega) (by omega)).2.2 (hE.r9 _ (by omega) (by omega)).2.1 (by omega) (by omega) (hE.c9q _ _ (by omega) (by omega) (by omega) (by omega)) ?_
          refine zF_iconst 249 dL_act_248 rfl ?_
          refine zF_isub 250 dL_act_249 rfl ?_
          refine zF_iastore 251 dL_act_250 rfl (hE.r9 _ (by omega) (by omega)).2.2 (hE.r9 _ (by omega) (by omega)).2.1 (by omega) (by omega) ?_
          refine zF_aload_n 252 dL_act_251 rfl rfl ?_
          refine zF_getRN 255 dL_act_252 rfl gnL_45 hE.k0 hE.l0 (hE.f 9 6 6 (by decide)).1 ?_
          refine zF_iload 257 dL_act_255 rfl rfl ?_
          refine zF_aaldA 258 dL_act_257 rfl (hE.f 9 6 6 (by decide)).2.2 (hE.f 9 6 6 (by decide)).2.1 (by omega) (by omega) (hE.r9 _ (by omega) (by omega)).1 ?_
          refine zF_iload 260 dL_act_258 rfl rfl ?_
          refine zF_dup2 261 dL_act_260 rfl rfl rfl ?_
          refine zF_iaload 262 dL_act_261 rfl (hE.r9 _ (by omega) (by omega)).2.2 (hE.r9 _ (by omega) (by omega)).2.1 (by omega) (by omega) ((zsi_F (by omega) (hE.c9q f b f0 f1 b0 b1)) : zia (zsi σ (E (900 + f.toNat)) a (mP N f (a - 1) - 1)) (E (900 + f.toNat)) b = mP N f (b - 1)) ?_
          refine zF_iconst 263 dL_act_262 rfl ?_
          refine zF_iadd 264 dL_act_263 rfl ?_
          refine zF_iastore 265 dL_act_264 rfl (hE.r9 _ (by omega) (by omega)).2.2 (hE.r9 _ (by omega) (by omega)).2.1 (by omega) (by omega) ?_
          refine zF_aload_n 266 dL_act_265 rfl rfl ?_
          refine zF_dup 267 dL_act_266 rfl rfl ?_
          refine zF_getIN 270 dL_act_267 rfl gnL_105 (by decide) (by decide) hE.k0 hE.l0 (zsi_N (Ne.symm hne0) (zsi_N (Ne.symm hne0) hE.i5)) ?_
          refine zF_iconst 271 dL_act_270 rfl ?_
          refine zF_iadd 272 dL_act_271 rfl ?_
          refine zF_putIN 275 dL_act_272 rfl pnL_105 hE.k0 hE.l0 ?_
          refine zF_aload_n 276 dL_act_275 rfl rfl ?_
          refine zF_iload 278 dL_act_276 rfl rfl ?_
          refine zF_iload 280 dL_act_278 rfl rfl ?_
          refine zF_iconst 281 dL_act_280 rfl ?_
          refine zF_isub 282 dL_act_281 rfl ?_
          refine zF_iload 284 dL_act_282 rfl rfl ?_
          refine zF_iconst 285 dL_act_284 rfl ?_
          refine zF_isub 286 dL_act_285 rfl ?_
          refine zF_callV 289 (d2 := (d + 9)) (as := [zI f, zI (a - 1), zI (b - 1)]) dL_act_286 rfl kL_147 iX11_move (ci := 11) rfl eX11_move (Nat.le_refl _) (((hL.gs hE228).gs hE228).gs hE228).1.bk (((hL.gs hE228).gs hE228).gs hE228).1.bl rfl rfl (Nat.le_of_ble_eq_true rfl) (zE.mono (pL_move (d := d) (f := f) (p := (a - 1)) (q := (b - 1)) hGd (((hL.gs hE228).gs hE228).gs hE228) (by omega) (by omega) (by omega) (by omega) (by omega) (by omega) (by omega) (by omega)) fun ro σs286 hh286 => ?_)
          have hq286 : pOp N H u (T + 1) (mMv N f (a - 1) (b - 1)) (mP N f (b - 1) + 1) (zsi (zsi (zsi σ (E (900 + f.toNat)) a ((mP N f (a - 1)) - 1)) (E (900 + f.toNat)) b ((mP N f (b - 1)) + 1)) (E 0) ((5 : Nat) : Int) ((N 5) + 1)) ro σs286 := by rcases hh286 with ⟨q1, q⟩ | ⟨q1, q2, q⟩ | ⟨q1, q2, q3, q⟩ | ⟨q1, q2, q3, q⟩ <;> first | exact q | (exfalso; omega)
          obtain ⟨er286, fr286, L286⟩ := hq286
          subst er286
          refine ⟨fr286.1, ?_⟩
          have O286 := (mv_eO hV hE f0 f1 a0 a1 b0 b1 _ rfl).mu fr286 hU hn0 (by omega)
          have t286 := mv_to hV f0 f1 a0 a1 b0 b1 ab
          show zF G mL_act (d + 10) 289 [(8, zI 0), (7, zI b), (6, zI a), (5, zI f), (4, zI w), (3, zI z3), (0, zR (B0 0)), (1, zR (E 0)), (2, zI vv)] [zI (mP N f (b - 1) + 1)] σs286 _
          refine zF_aload_n 290 dL_act_289 rfl rfl ?_
          refine zF_getRN 293 dL_act_290 rfl gnL_45 O286.k0 O286.l0 (O286.f 9 6 6 (by decide)).1 ?_
          refine zF_iload 295 dL_act_293 rfl rfl ?_
          refine zF_aaldA 296 dL_act_295 rfl (O286.f 9 6 6 (by decide)).2.2 (O286.f 9 6 6 (by decide)).2.1 (by omega) (by omega) (O286.r9 _ (by omega) (by omega)).1 ?_
          refine zF_iload 298 dL_act_296 rfl rfl ?_
          refine zF_iaload 299 dL_act_298 rfl (O286.r9 _ (by omega) (by omega)).2.2 (O286.r9 _ (by omega) (by omega)).2.1 (by omega) (by omega) ((O286.c9q f b f0 (by rw [t286.1.2.2]; exact f1) b0 (by rw [t286.1.1]; exact b1)).trans (mv_at f0 b0)) ?_
          refine zF_icmp_ne 306 302 dL_act_299 rfl rfl (by first | decide | assumption | exact hV.b _ | exact mSh_rg hV.b _ _ | (constructor <;> omega)) (by first | decide | assumption | exact hV.b _ | exact mSh_rg hV.b _ _ | (constructor <;> omega)) (fun c5 => ?_) (fun c5 => ?_)
          · refine zF_iconst 307 dL_act_306 rfl ?_
            exact zF_ireturn dL_act_307 rfl (by exfalso; omega)
          · refine zF_iconst 303 dL_act_302 rfl ?_
            refine zF_goto 307 dL_act_303 rfl ?_
            exact zF_ireturn dL_act_307 rfl (pAct_do ((zAE_ge (zGE.rf.si.si.si)).tr (zAE_fr fr286)) ((zB_fr fr286 : zB _ _ 8)) rfl L286 O286 (by rw [fr286.1]; exact hU) t286)
        · exact absurd c4 (by decide)
      · refine zF_bipush 201 dL_act_199 rfl (by decide) ?_
        refine zF_goto 205 dL_act_201 rfl ?_
        refine zF_istore 207 (ls' := [(8, zI (-4)), (7, zI b), (6, zI a), (5, zI f), (4, zI w), (3, zI z3), (0, zR (B0 0)), (1, zR (E 0)), (2, zI vv)]) dL_act_205 rfl (by decide) rfl ?_
        refine zF_iload 209 dL_act_207 rfl rfl ?_
        refine zF_if_ge 237 212 dL_act_209 rfl rfl (by first | decide | assumption | exact hV.b _ | exact mSh_rg hV.b _ _ | (constructor <;> omega)) (fun c6 => ?_) (fun c6 => ?_)
        · exact absurd c6 (by decide)
        · refine zF_aload_n 213 dL_act_212 rfl rfl ?_
          refine zF_iload 215 dL_act_213 rfl rfl ?_
          refine zF_iload 217 dL_act_215 rfl rfl ?_
          refine zF_iconst 218 dL_act_217 rfl ?_
          refine zF_isub 219 dL_act_218 rfl ?_
          refine zF_iload 221 dL_act_219 rfl rfl ?_
          refine zF_iconst 222 dL_act_221 rfl ?_
          refine zF_isub 223 dL_act_222 rfl ?_
          refine zF_callV 226 (d2 := (d + 9)) (as := [zI f, zI (a - 1), zI (b - 1)]) dL_act_223 rfl kL_147 iX11_move (ci := 11) rfl eX11_move (Nat.le_refl _) hL.1.bk hL.1.bl rfl rfl (Nat.le_of_ble_eq_true rfl) (zE.mono (pL_move (d := d) (f := f) (p := (a - 1)) (q := (b - 1)) hGd hL (by omega) (by omega) (by omega) (by omega) (by omega) (by omega) (by omega) (by omega)) fun ro σs223 hh223 => ?_)
          have hq223 : pNo N H u T (-4) σ ro σs223 := by rcases hh223 with ⟨q1, q⟩ | ⟨q1, q2, q⟩ | ⟨q1, q2, q3, q⟩ | ⟨q1, q2, q3, q⟩ <;> first | exact q | (exfalso; omega)
          obtain ⟨er223, fr223, L223⟩ := hq223
          subst er223
          refine ⟨fr223.1, ?_⟩
          show zF G mL_act (d + 10) 226 [(8, zI (-4)), (7, zI b), (6, zI a), (5, zI f), (4, zI w), (3, zI z3), (0, zR (B0 0)), (1, zR (E 0)), (2, zI vv)] [zI (-4)] σs223 _
          refine zF_iload 228 dL_act_226 rfl rfl ?_
          refine zF_icmp_ne 235 231 dL_act_228 rfl rfl (by first | decide | assumption | exact hV.b _ | exact mSh_rg hV.b _ _ | (constructor <;> omega)) (by first | decide | assumption | exact hV.b _ | exact mSh_rg hV.b _ _ | (constructor <;> omega)) (fun c7 => ?_) (fun c7 => ?_)
          · exact absurd c7 (by decide)
          · refine zF_iconst 232 dL_act_231 rfl ?_
            refine zF_goto 236 dL_act_232 rfl ?_
            exact zF_ireturn dL_act_236 rfl (pAct_no fr223 rfl L223 (hE.mu fr223 hU hn0 (by omega)) hU)
    · refine zF_aload_n 157 dL_act_156 rfl rfl ?_
      refine zF_iload 159 dL_act_157 rfl rfl ?_
      refine zF_iconst 160 dL_act_159 rfl ?_
      refine zF_isub 161 dL_act_160 rfl ?_
      refine zF_iload 163 dL_act_161 rfl rfl ?_
      refine zF_callVN 166 (d2 := (d + 9)) (as := [zI (a - 1), zI f]) dL_act_163 rfl knL_144 iX12_need (ci := 12) rfl eX12_need (Nat.le_refl _) hE.k0 hE.l0 rfl rfl (Nat.le_of_ble_eq_true rfl) (by exact (⟨trivial, trivial, trivial, trivial, trivial, zwR hL.1.bl, zwR hE.l0, trivial, trivial⟩ : _ ∧ _ ∧ _ ∧ _ ∧ _ ∧ _ ∧ _ ∧ _ ∧ True)) (by exact trivial) (zE.mono (zt_X12_need (d := d + 7) (h := (a - 1)) (f := f) hE hV (by constructor <;> omega) (by constructor <;> omega)) fun ro σx163 hh163 => ⟨_, hh163.2, ?_⟩)
      obtain ⟨es163, -⟩ := hh163
      replace es163 := es163.symm
      subst es163
      show zF G mL_act (d + 10) 166 [(7, zI b), (6, zI a), (5, zI f), (4, zI w), (3, zI z3), (0, zR (B0 0)), (1, zR (E 0)), (2, zI vv)] [zI (mNeed N (a - 1) f)] σ _
      refine zF_aload_n 167 dL_act_166 rfl rfl ?_
      refine zF_getRN 170 dL_act_167 rfl gnL_45 hE.k0 hE.l0 (hE.f 9 6 6 (by decide)).1 ?_
      refine zF_iload 172 dL_act_170 rfl rfl ?_
      refine zF_aaldA 173 dL_act_172 rfl (hE.f 9 6 6 (by decide)).2.2 (hE.f 9 6 6 (by decide)).2.1 (by omega) (by omega) (hE.r9 _ (by omega) (by omega)).1 ?_
      refine zF_iload 175 dL_act_173 rfl rfl ?_
      refine zF_iaload 176 dL_act_175 rfl (hE.r9 _ (by omega) (by omega)).2.2 (hE.r9 _ (by omega) (by omega)).2.1 (by omega) (by omega) (hE.c9q _ _ (by omega) (by omega) (by omega) (by omega)) ?_
      refine zF_icmp_ne 184 179 dL_act_176 rfl rfl (by first | decide | assumption | exact hV.b _ | exact mSh_rg hV.b _ _ | (constructor <;> omega)) (by first | decide | assumption | exact hV.b _ | exact mSh_rg hV.b _ _ | (constructor <;> omega)) (fun c8 => ?_) (fun c8 => ?_)
      · refine zF_aload_n 185 dL_act_184 rfl rfl ?_
        refine zF_getRN 188 dL_act_185 rfl gnL_45 hE.k0 hE.l0 (hE.f 9 6 6 (by decide)).1 ?_
        refine zF_iload 190 dL_act_188 rfl rfl ?_
        refine zF_aaldA 191 dL_act_190 rfl (hE.f 9 6 6 (by decide)).2.2 (hE.f 9 6 6 (by decide)).2.1 (by omega) (by omega) (hE.r9 _ (by omega) (by omega)).1 ?_
        refine zF_iload 193 dL_act_191 rfl rfl ?_
        refine zF_iaload 194 dL_act_193 rfl (hE.r9 _ (by omega) (by omega)).2.2 (hE.r9 _ (by omega) (by omega)).2.1 (by omega) (by omega) (hE.c9q _ _ (by omega) (by omega) (by omega) (by omega)) ?_
        refine zF_bipush 196 dL_act_194 rfl (by decide) ?_
        refine zF_icmp_ne 204 199 dL_act_196 rfl rfl (by first | decide | assumption | exact hV.b _ | exact mSh_rg hV.b _ _ | (constructor <;> omega)) (by first | decide | assumption | exact hV.b _ | exact mSh_rg hV.b _ _ | (constructor <;> omega)) (fun c9 => ?_) (fun c9 => ?_)
        · refine zF_iconst 205 dL_act_204 rfl ?_
          refine zF_istore 207 (ls' := [(8, zI 0), (7, zI b), (6, zI a), (5, zI f), (4, zI w), (3, zI z3), (0, zR (B0 0)), (1, zR (E 0)), (2, zI vv)]) dL_act_205 rfl (by decide) rfl ?_
          refine zF_iload 209 dL_act_207 rfl rfl ?_
          refine zF_if_ge 237 212 dL_act_209 rfl rfl (by first | decide | assumption | exact hV.b _ | exact mSh_rg hV.b _ _ | (constructor <;> omega)) (fun c10 => ?_) (fun c10 => ?_)
          · refine zF_aload_n 238 dL_act_237 rfl rfl ?_
            refine zF_getRN 241 dL_act_238 rfl gnL_45 hE.k0 hE.l0 (hE.f 9 6 6 (by decide)).1 ?_
            refine zF_iload 243 dL_act_241 rfl rfl ?_
            refine zF_aaldA 244 dL_act_243 rfl (hE.f 9 6 6 (by decide)).2.2 (hE.f 9 6 6 (by decide)).2.1 (by omega) (by omega) (hE.r9 _ (by omega) (by omega)).1 ?_
            refine zF_iload 246 dL_act_244 rfl rfl ?_
            refine zF_dup2 247 dL_act_246 rfl rfl rfl ?_
            refine zF_iaload 248 dL_act_247 rfl (hE.r9 _ (by omega) (by omega)).2.2 (hE.r9 _ (by omega) (by omega)).2.1 (by omega) (by omega) (hE.c9q _ _ (by omega) (by omega) (by omega) (by omega)) ?_
            refine zF_iconst 249 dL_act_248 rfl ?_
            refine zF_isub 250 dL_act_249 rfl ?_
            refine zF_iastore 251 dL_act_250 rfl (hE.r9 _ (by omega) (by omega)).2.2 (hE.r9 _ (by omega) (by omega)).2.1 (by omega) (by omega) ?_
            refine zF_aload_n 252 dL_act_251 rfl rfl ?_
            refine zF_getRN 255 dL_act_252 rfl gnL_45 hE.k0 hE.l0 (hE.f 9 6 6 (by decide)).1 ?_
            refine zF_iload 257 dL_act_255 rfl rfl ?_
            refine zF_aaldA 258 dL_act_257 rfl (hE.f 9 6 6 (by decide)).2.2 (hE.f 9 6 6 (by decide)).2.1 (by omega) (by omega) (hE.r9 _ (by omega) (by omega)).1 ?_
            refine zF_iload 260 dL_act_258 rfl rfl ?_
            refine zF_dup2 261 dL_act_260 rfl rfl rfl ?_
            refine zF_iaload 262 dL_act_261 rfl (hE.r9 _ (by omega) (by omega)).2.2 (hE.r9 _ (by omega) (by omega)).2.1 (by omega) (by omega) ((zsi_F (by omega) (hE.c9q f b f0 f1 b0 b1)) : zia (zsi σ (E (900 + f.toNat)) a (mP N f (a - 1) - 1)) (E (900 + f.toNat)) b = mP N f (b - 1)) ?_
            refine zF_iconst 263 dL_act_262 rfl ?_
            refine zF_iadd 264 dL_act_263 rfl ?_
            refine zF_iastore 265 dL_act_264 rfl (hE.r9 _ (by omega) (by omega)).2.2 (hE.r9 _ (by omega) (by omega)).2.1 (by omega) (by omega) ?_
            refine zF_aload_n 266 dL_act_265 rfl rfl ?_
            refine zF_dup 267 dL_act_266 rfl rfl ?_
            refine zF_getIN 270 dL_act_267 rfl gnL_105 (by decide) (by decide) hE.k0 hE.l0 (zsi_N (Ne.symm hne0) (zsi_N (Ne.symm hne0) hE.i5)) ?_
            refine zF_iconst 271 dL_act_270 rfl ?_
            refine zF_iadd 272 dL_act_271 rfl ?_
            refine zF_putIN 275 dL_act_272 rfl pnL_105 hE.k0 hE.l0 ?_
            refine zF_aload_n 276 dL_act_275 rfl rfl ?_
            refine zF_iload 278 dL_act_276 rfl rfl ?_
            refine zF_iload 280 dL_act_278 rfl rfl ?_
            refine zF_iconst 281 dL_act_280 rfl ?_
            refine zF_isub 282 dL_act_281 rfl ?_
            refine zF_iload 284 dL_act_282 rfl rfl ?_
            refine zF_iconst 285 dL_act_284 rfl ?_
            refine zF_isub 286 dL_act_285 rfl ?_
            refine zF_callV 289 (d2 := (d + 9)) (as := [zI f, zI (a - 1), zI (b - 1)]) dL_act_286 rfl kL_147 iX11_move (ci := 11) rfl eX11_move (Nat.le_refl _) (((hL.gs hE228).gs hE228).gs hE228).1.bk (((hL.gs hE228).gs hE228).gs hE228).1.bl rfl rfl (Nat.le_of_ble_eq_true rfl) (zE.mono (pL_move (d := d) (f := f) (p := (a - 1)) (q := (b - 1)) hGd (((hL.gs hE228).gs hE228).gs hE228) (by omega) (by omega) (by omega) (by omega) (by omega) (by omega) (by omega) (by omega)) fun ro σs286 hh286 => ?_)
            have hq286 : pOp N H u (T + 1) (mMv N f (a - 1) (b - 1)) (mP N f (b - 1) + 1) (zsi (zsi (zsi σ (E (900 + f.toNat)) a ((mP N f (a - 1)) - 1)) (E (900 + f.toNat)) b ((mP N f (b - 1)) + 1)) (E 0) ((5 : Nat) : Int) ((N 5) + 1)) ro σs286 := by rcases hh286 with ⟨q1, q⟩ | ⟨q1, q2, q⟩ | ⟨q1, q2, q3, q⟩ | ⟨q1, q2, q3, q⟩ <;> first | exact q | (exfalso; omega)
            obtain ⟨er286, fr286, L286⟩ := hq286
            subst er286
            refine ⟨fr286.1, ?_⟩
            have O286 := (mv_eO hV hE f0 f1 a0 a1 b0 b1 _ rfl).mu fr286 hU hn0 (by omega)
            have t286 := mv_to hV f0 f1 a0 a1 b0 b1 ab
            show zF G mL_act (d + 10) 289 [(8, zI 0), (7, zI b), (6, zI a), (5, zI f), (4, zI w), (3, zI z3), (0, zR (B0 0)), (1, zR (E 0)), (2, zI vv)] [zI (mP N f (b - 1) + 1)] σs286 _
            refine zF_aload_n 290 dL_act_289 rfl rfl ?_
            refine zF_getRN 293 dL_act_290 rfl gnL_45 O286.k0 O286.l0 (O286.f 9 6 6 (by decide)).1 ?_
            refine zF_iload 295 dL_act_293 rfl rfl ?_
            refine zF_aaldA 296 dL_act_295 rfl (O286.f 9 6 6 (by decide)).2.2 (O286.f 9 6 6 (by decide)).2.1 (by omega) (by omega) (O286.r9 _ (by omega) (by omega)).1 ?_
            refine zF_iload 298 dL_act_296 rfl rfl ?_
            refine zF_iaload 299 dL_act_298 rfl (O286.r9 _ (by omega) (by omega)).2.2 (O286.r9 _ (by omega) (by omega)).2.1 (by omega) (by omega) ((O286.c9q f b f0 (by rw [t286.1.2.2]; exact f1) b0 (by rw [t286.1.1]; exact b1)).trans (mv_at f0 b0)) ?_
            refine zF_icmp_ne 306 302 dL_act_299 rfl rfl (by first | decide | assumption | exact hV.b _ | exact mSh_rg hV.b _ _ | (constructor <;> omega)) (by first | decide | assumption | exact hV.b _ | exact mSh_rg hV.b _ _ | (constructor <;> omega)) (fun c11 => ?_) (fun c11 => ?_)
            · refine zF_iconst 307 dL_act_306 rfl ?_
              exact zF_ireturn dL_act_307 rfl (by exfalso; omega)
            · refine zF_iconst 303 dL_act_302 rfl ?_
              refine zF_goto 307 dL_act_303 rfl ?_
              exact zF_ireturn dL_act_307 rfl (pAct_do ((zAE_ge (zGE.rf.si.si.si)).tr (zAE_fr fr286)) ((zB_fr fr286 : zB _ _ 8)) rfl L286 O286 (by rw [fr286.1]; exact hU) t286)
          · exact absurd c10 (by decide)
        · refine zF_bipush 201 dL_act_199 rfl (by decide) ?_
          refine zF_goto 205 dL_act_201 rfl ?_
          refine zF_istore 207 (ls' := [(8, zI (-4)), (7, zI b), (6, zI a), (5, zI f), (4, zI w), (3, zI z3), (0, zR (B0 0)), (1, zR (E 0)), (2, zI vv)]) dL_act_205 rfl (by decide) rfl ?_
          refine zF_iload 209 dL_act_207 rfl rfl ?_
          refine zF_if_ge 237 212 dL_act_209 rfl rfl (by first | decide | assumption | exact hV.b _ | exact mSh_rg hV.b _ _ | (constructor <;> omega)) (fun c12 => ?_) (fun c12 => ?_)
          · exact absurd c12 (by decide)
          · refine zF_aload_n 213 dL_act_212 rfl rfl ?_
            refine zF_iload 215 dL_act_213 rfl rfl ?_
            refine zF_iload 217 dL_act_215 rfl rfl ?_
            refine zF_iconst 218 dL_act_217 rfl ?_
            refine zF_isub 219 dL_act_218 rfl ?_
            refine zF_iload 221 dL_act_219 rfl rfl ?_
            refine zF_iconst 222 dL_act_221 rfl ?_
            refine zF_isub 223 dL_act_222 rfl ?_
            refine zF_callV 226 (d2 := (d + 9)) (as := [zI f, zI (a - 1), zI (b - 1)]) dL_act_223 rfl kL_147 iX11_move (ci := 11) rfl eX11_move (Nat.le_refl _) hL.1.bk hL.1.bl rfl rfl (Nat.le_of_ble_eq_true rfl) (zE.mono (pL_move (d := d) (f := f) (p := (a - 1)) (q := (b - 1)) hGd hL (by omega) (by omega) (by omega) (by omega) (by omega) (by omega) (by omega) (by omega)) fun ro σs223 hh223 => ?_)
            have hq223 : pNo N H u T (-4) σ ro σs223 := by rcases hh223 with ⟨q1, q⟩ | ⟨q1, q2, q⟩ | ⟨q1, q2, q3, q⟩ | ⟨q1, q2, q3, q⟩ <;> first | exact q | (exfalso; omega)
            obtain ⟨er223, fr223, L223⟩ := hq223
            subst er223
            refine ⟨fr223.1, ?_⟩
            show zF G mL_act (d + 10) 226 [(8, zI (-4)), (7, zI b), (6, zI a), (5, zI f), (4, zI w), (3, zI z3), (0, zR (B0 0)), (1, zR (E 0)), (2, zI vv)] [zI (-4)] σs223 _
            refine zF_iload 228 dL_act_226 rfl rfl ?_
            refine zF_icmp_ne 235 231 dL_act_228 rfl rfl (by first | decide | assumption | exact hV.b _ | exact mSh_rg hV.b _ _ | (constructor <;> omega)) (by first | decide | assumption | exact hV.b _ | exact mSh_rg hV.b _ _ | (constructor <;> omega)) (fun c13 => ?_) (fun c13 => ?_)
            · exact absurd c13 (by decide)
            · refine zF_iconst 232 dL_act_231 rfl ?_
              refine zF_goto 236 dL_act_232 rfl ?_
              exact zF_ireturn dL_act_236 rfl (pAct_no fr223 rfl L223 (hE.mu fr223 hU hn0 (by omega)) hU)
      · refine zF_bipush 181 dL_act_179 rfl (by decide) ?_
        refine zF_goto 205 dL_act_181 rfl ?_
        refine zF_istore 207 (ls' := [(8, zI (-3)), (7, zI b), (6, zI a), (5, zI f), (4, zI w), (3, zI z3), (0, zR (B0 0)), (1, zR (E 0)), (2, zI vv)]) dL_act_205 rfl (by decide) rfl ?_
        refine zF_iload 209 dL_act_207 rfl rfl ?_
        refine zF_if_ge 237 212 dL_act_209 rfl rfl (by first | decide | assumption | exact hV.b _ | exact mSh_rg hV.b _ _ | (constructor <;> omega)) (fun c14 => ?_) (fun c14 => ?_)
        · exact absurd c14 (by decide)
        · refine zF_aload_n 213 dL_act_212 rfl rfl ?_
          refine zF_iload 215 dL_act_213 rfl rfl ?_
          refine zF_iload 217 dL_act_215 rfl rfl ?_
          refine zF_iconst 218 dL_act_217 rfl ?_
          refine zF_isub 219 dL_act_218 rfl ?_
          refine zF_iload 221 dL_act_219 rfl rfl ?_
          refine zF_iconst 222 dL_act_221 rfl ?_
          refine zF_isub 223 dL_act_222 rfl ?_
          refine zF_callV 226 (d2 := (d + 9)) (as := [zI f, zI (a - 1), zI (b - 1)]) dL_act_223 rfl kL_147 iX11_move (ci := 11) rfl eX11_move (Nat.le_refl _) hL.1.bk hL.1.bl rfl rfl (Nat.le_of_ble_eq_true rfl) (zE.mono (pL_move (d := d) (f := f) (p := (a - 1)) (q := (b - 1)) hGd hL (by omega) (by omega) (by omega) (by omega) (by omega) (by omega) (by omega) (by omega)) fun ro σs223 hh223 => ?_)
          have hq223 : pNo N H u T (-3) σ ro σs223 := by rcases hh223 with ⟨q1, q⟩ | ⟨q1, q2, q⟩ | ⟨q1, q2, q3, q⟩ | ⟨q1, q2, q3, q⟩ <;> first | exact q | (exfalso; omega)
          obtain ⟨er223, fr223, L223⟩ := hq223
          subst er223
          refine ⟨fr223.1, ?_⟩
          show zF G mL_act (d + 10) 226 [(8, zI (-3)), (7, zI b), (6, zI a), (5, zI f), (4, zI w), (3, zI z3), (0, zR (B0 0)), (1, zR (E 0)), (2, zI vv)] [zI (-3)] σs223 _
          refine zF_iload 228 dL_act_226 rfl rfl ?_
          refine zF_icmp_ne 235 231 dL_act_228 rfl rfl (by first | decide | assumption | exact hV.b _ | exact mSh_rg hV.b _ _ | (constructor <;> omega)) (by first | decide | assumption | exact hV.b _ | exact mSh_rg hV.b _ _ | (constructor <;> omega)) (fun c15 => ?_) (fun c15 => ?_)
          · exact absurd c15 (by decide)
          · refine zF_iconst 232 dL_act_231 rfl ?_
            refine zF_goto 236 dL_act_232 rfl ?_
            exact zF_ireturn dL_act_236 rfl (pAct_no fr223 rfl L223 (hE.mu fr223 hU hn0 (by omega)) hU)
  · refine zF_bipush 148 dL_act_146 rfl (by decide) ?_
    refine zF_goto 205 dL_act_148 rfl ?_
    refine zF_istore 207 (ls' := [(8, zI (-2)), (7, zI b), (6, zI a), (5, zI f), (4, zI w), (3, zI z3), (0, zR (B0 0)), (1, zR (E 0)), (2, zI vv)]) dL_act_205 rfl (by decide) rfl ?_
    refine zF_iload 209 dL_act_207 rfl rfl ?_
    refine zF_if_ge 237 212 dL_act_209 rfl rfl (by first | decide | assumption | exact hV.b _ | exact mSh_rg hV.b _ _ | (constructor <;> omega)) (fun c16 => ?_) (fun c16 => ?_)
    · exact absurd c16 (by decide)
    · refine zF_aload_n 213 dL_act_212 rfl rfl ?_
      refine zF_iload 215 dL_act_213 rfl rfl ?_
      refine zF_iload 217 dL_act_215 rfl rfl ?_
      refine zF_iconst 218 dL_act_217 rfl ?_
      refine zF_isub 219 dL_act_218 rfl ?_
      refine zF_iload 221 dL_act_219 rfl rfl ?_
      refine zF_iconst 222 dL_act_221 rfl ?_
      refine zF_isub 223 dL_act_222 rfl ?_
      refine zF_callV 226 (d2 := (d + 9)) (as := [zI f, zI (a - 1), zI (b - 1)]) dL_act_223 rfl kL_147 iX11_move (ci := 11) rfl eX11_move (Nat.le_refl _) hL.1.bk hL.1.bl rfl rfl (Nat.le_of_ble_eq_true rfl) (zE.mono (pL_move (d := d) (f := f) (p := (a - 1)) (q := (b - 1)) hGd hL (by omega) (by omega) (by omega) (by omega) (by omega) (by omega) (by omega) (by omega)) fun ro σs223 hh223 => ?_)
      have hq223 : pNo N H u T (-2) σ ro σs223 := by rcases hh223 with ⟨q1, q⟩ | ⟨q1, q2, q⟩ | ⟨q1, q2, q3, q⟩ | ⟨q1, q2, q3, q⟩ <;> first | exact q | (exfalso; omega)
      obtain ⟨er223, fr223, L223⟩ := hq223
      subst er223
      refine ⟨fr223.1, ?_⟩
      show zF G mL_act (d + 10) 226 [(8, zI (-2)), (7, zI b), (6, zI a), (5, zI f), (4, zI w), (3, zI z3), (0, zR (B0 0)), (1, zR (E 0)), (2, zI vv)] [zI (-2)] σs223 _
      refine zF_iload 228 dL_act_226 rfl rfl ?_
      refine zF_icmp_ne 235 231 dL_act_228 rfl rfl (by first | decide | assumption | exact hV.b _ | exact mSh_rg hV.b _ _ | (constructor <;> omega)) (by first | decide | assumption | exact hV.b _ | exact mSh_rg hV.b _ _ | (constructor <;> omega)) (fun c17 => ?_) (fun c17 => ?_)
      · exact absurd c17 (by decide)
      · refine zF_iconst 232 dL_act_231 rfl ?_
        refine zF_goto 236 dL_act_232 rfl ?_
        exact zF_ireturn dL_act_236 rfl (pAct_no fr223 rfl L223 (hE.mu fr223 hU hn0 (by omega)) hU)
theorem mv_rem {a n : Int} (a0 : 0 ≤ a) (a1 : a < n + 1) (n1 : 1 ≤ n) : 0 ≤ (a + 1) % (n + 1) ∧ (a + 1) % (n + 1) ≤ n ∧ a ≠ (a + 1) % (n + 1) := by
  have q1 := Int.emod_nonneg (a + 1) (show n + 1 ≠ 0 by omega)
  have q2 := Int.emod_lt_of_pos (a + 1) (show 0 < n + 1 by omega)
  refine ⟨q1, by omega, fun q => ?_⟩
  by_cases c : a = n
  · subst c
    rw [Int.emod_self] at q
    omega
  · rw [Int.emod_eq_of_lt (by omega) (by omega)] at q
    omega
set_option maxRecDepth 20000 in
theorem act_move (hGd : zGd G) (hAO : zAO G) (hL : cL T (N, H, u) σ) (hT : T ≤ 19999) (hE : eO N σ E) (hU : eU E n0 (zn σ)) (hn0 : 228 ≤ n0) (hbg : zn σ + 10 < zbg) (f0 : 0 ≤ f) (f1 : f < N 2) (hN1 : 1 ≤ N 0) : zF G mL_act (d + 10) 82 [(5, zI f), (4, zI w), (3, zI z3), (0, zR (B0 0)), (1, zR (E 0)), (2, zI vv)] [] σ (pAct N H u T E n0 σ) := by
  have hK : cK T N σ := hL.K
  have hV := hK.V
  have hn := hV.n
  have hb := eB_of hV
  have hE228 := hU.ge228 hn0
  have hs228 := hL.1.1
  refine zF_iload 84 dL_act_82 rfl rfl ?_
  refine zF_iconst 85 dL_act_84 rfl ?_
  refine zF_ishr 86 dL_act_85 rfl ?_
  refine zF_aload_n 87 dL_act_86 rfl rfl ?_
  refine zF_getIN 90 dL_act_87 rfl gnL_31 (by decide) (by decide) hE.k0 hE.l0 hE.i0 ?_
  refine zF_iconst 91 dL_act_90 rfl ?_
  refine zF_iadd 92 dL_act_91 rfl ?_
  refine zF_callS 95 (d2 := (d + 9)) (as := [zI ((Int32.ofInt w >>> (Int32.ofInt 5 &&& 31)).toInt), zI ((N 0) + 1)]) dL_act_92 rfl kL_27 sL_most (Nat.le_refl _) rfl rfl (Nat.le_of_ble_eq_true rfl) (zE.mono (zt_L_most (by omega) (by constructor <;> omega)) fun ro σx92 hh92 => ?_)
  obtain ⟨es92, z92, er92, zl92, zu92⟩ := hh92
  replace es92 := es92.symm
  subst es92
  subst er92
  refine ⟨rfl, ?_⟩
  show zF G mL_act (d + 10) 95 [(5, zI f), (4, zI w), (3, zI z3), (0, zR (B0 0)), (1, zR (E 0)), (2, zI vv)] [zI z92] σ _
  refine zF_istore 97 (ls' := [(6, zI z92), (5, zI f), (4, zI w), (3, zI z3), (0, zR (B0 0)), (1, zR (E 0)), (2, zI vv)]) dL_act_95 rfl (by decide) rfl ?_
  refine zF_iload 99 dL_act_97 rfl rfl ?_
  refine zF_bipush 101 dL_act_99 rfl (by decide) ?_
  refine zF_ishr 102 dL_act_101 rfl ?_
  refine zF_aload_n 103 dL_act_102 rfl rfl ?_
  refine zF_getIN 106 dL_act_103 rfl gnL_31 (by decide) (by decide) hE.k0 hE.l0 hE.i0 ?_
  refine zF_iconst 107 dL_act_106 rfl ?_
  refine zF_iadd 108 dL_act_107 rfl ?_
  refine zF_callS 111 (d2 := (d + 9)) (as := [zI ((Int32.ofInt w >>> (Int32.ofInt 7 &&& 31)).toInt), zI ((N 0) + 1)]) dL_act_108 rfl kL_27 sL_most (Nat.le_refl _) rfl rfl (Nat.le_of_ble_eq_true rfl) (zE.mono (zt_L_most (by omega) (by constructor <;> omega)) fun ro σx108 hh108 => ?_)
  obtain ⟨es108, z108, er108, zl108, zu108⟩ := hh108
  replace es108 := es108.symm
  subst es108
  subst er108
  refine ⟨rfl, ?_⟩
  show zF G mL_act (d + 10) 111 [(6, zI z92), (5, zI f), (4, zI w), (3, zI z3), (0, zR (B0 0)), (1, zR (E 0)), (2, zI vv)] [zI z108] σ _
  refine zF_istore 113 (ls' := [(7, zI z108), (6, zI z92), (5, zI f), (4, zI w), (3, zI z3), (0, zR (B0 0)), (1, zR (E 0)), (2, zI vv)]) dL_act_111 rfl (by decide) rfl ?_
  refine zF_iload 115 dL_act_113 rfl rfl ?_
  refine zF_iload 117 dL_act_115 rfl rfl ?_
  refine zF_icmp_ne 133 120 dL_act_117 rfl rfl (by first | decide | assumption | exact hV.b _ | exact mSh_rg hV.b _ _ | (constructor <;> omega)) (by first | decide | assumption | exact hV.b _ | exact mSh_rg hV.b _ _ | (constructor <;> omega)) (fun c1 => ?_) (fun c1 => ?_)
  · exact act_move2 hGd hAO hL hT hE hU hn0 hbg f0 f1 (by omega) (by omega) (by omega) (by omega) (by omega)
  · refine zF_iload 122 dL_act_120 rfl rfl ?_
    refine zF_iconst 123 dL_act_122 rfl ?_
    refine zF_iadd 124 dL_act_123 rfl ?_
    refine zF_aload_n 125 dL_act_124 rfl rfl ?_
    refine zF_getIN 128 dL_act_125 rfl gnL_31 (by decide) (by decide) hE.k0 hE.l0 hE.i0 ?_
    refine zF_iconst 129 dL_act_128 rfl ?_
    refine zF_iadd 130 dL_act_129 rfl ?_
    refine zF_irem 131 dL_act_130 rfl (by omega) (by omega) (by omega) (by omega) ?_
    refine zF_istore 133 (ls' := [(7, zI ((z108 + 1) % ((N 0) + 1))), (6, zI z92), (5, zI f), (4, zI w), (3, zI z3), (0, zR (B0 0)), (1, zR (E 0)), (2, zI vv)]) dL_act_131 rfl (by decide) rfl ?_
    exact act_move2 hGd hAO hL hT hE hU hn0 hbg f0 f1 (by omega) (by omega) (mv_rem (by omega) (by omega) hN1).1 (mv_rem (by omega) (by omega) hN1).2.1 (by rw [show z92 = z108 by omega]; exact (mv_rem (by omega) (by omega) hN1).2.2)
end ZQE

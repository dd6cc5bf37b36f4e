/-! the law as a whole -/
section ZQS
variable {G : zG} {d L k b x y : Nat} {xs : Nat → Int32} {σ σ1 σ2 : zMem} {N N0 N1 : Int → Int} {H : Int → Int → Int} {T u vv v : Int} {S : zS} {E E1 : Nat → Nat} {a6 a7 : Nat}
theorem sJ_z (h : sJ N0 N a6 σ x y σ1) (hx : (x : Int) < N0 2) (hy : y = (N 0).toNat + 1) (hp : prSum N x = prSum N0 x) : zia σ1 a6 (x : Int) = 0 := by
  have v := h.2.1
  rw [if_pos hx, hy] at v
  rw [v]
  show prSum N0 x - prSum N x = 0
  omega
set_option maxRecDepth 20000 in
theorem law_4b (hGd : zGd G) (g : lG N0) (hZ : lZ N0 a7 N H u σ) (hb0 : lb 640 σ) (ha6 : a6 < zn σ) : zF G mL_law (d + 14) 505 [(9, zI v), (8, zI u), (7, zR a7), (6, zR a6), (4, zL (aV N0)), (3, zR 229), (2, zR 228), (1, zR (B0 0)), (0, zR (zbg + 500))] [] σ lQ1 := by
  have e1 : zbg = 1000000 := rfl
  have hu := hZ.1.2.2.1.2.1
  change 0 ≤ u ∧ u ≤ 10 at hu
  obtain ⟨un, eu⟩ := Int.eq_ofNat_of_zero_le hu.1
  refine zF_iload 507 dL_law_505 rfl rfl ?_
  refine zF_iconst 508 dL_law_507 rfl ?_
  refine zF_isub 509 dL_law_508 rfl ?_
  refine zF_istore 511 (ls' := [(9, zI (u - 1)), (8, zI u), (7, zR a7), (6, zR a6), (4, zL (aV N0)), (3, zR 229), (2, zR 228), (1, zR (B0 0)), (0, zR (zbg + 500))]) dL_law_509 rfl (by decide) rfl ?_
  refine zF_locs (ls' := [(9, zI (((un : Nat) : Int) - 1)), (8, zI u), (7, zR a7), (6, zR a6), (4, zL (aV N0)), (3, zR 229), (2, zR 228), (1, zR (B0 0)), (0, zR (zbg + 500))]) ⟨zlI rfl (by first | rfl | omega | (push_cast; omega) | exact congrArg (_ + ·) (zbT (by assumption)) | exact congrArg (_ + ·) (zbF (by assumption)) | exact congrArg (_ + ·) (zbT (by omega)) | exact congrArg (_ + ·) (zbF (by omega)) | exact congrArg (_ + ·) (if_pos (by omega)).symm | exact congrArg (_ + ·) (if_neg (by omega)).symm | exact (if_pos (by omega)).symm | exact (if_neg (by omega)).symm | exact zsub_s (if_pos (by omega)).symm | exact zsub_s0 (if_neg (by omega)).symm | exact zadd0 (if_neg (by omega)).symm | exact zadd0 (zbF (by omega)) | exact (Int.sub_zero _).symm), rfl, rfl, rfl, rfl, rfl, rfl, rfl, rfl, trivial⟩ ?_
  refine zF_while (X := Nat) (fun z => z) (fun z σ511 => ∃ N2, lZ N0 a7 N2 H ((z : Nat) : Int) σ511 ∧ lb 640 σ511 ∧ a6 < zn σ511) (fun z => [(9, zI (((z : Nat) : Int) - 1)), (8, zI u), (7, zR a7), (6, zR a6), (4, zL (aV N0)), (3, zR 229), (2, zR 228), (1, zR (B0 0)), (0, zR (zbg + 500))]) ?_ un σ (⟨N, by rw [← eu]; exact hZ, hb0, ha6⟩)
  intro x σ511 hI511 ih511
  show zF G mL_law (d + 14) 511 [(9, zI (((x : Nat) : Int) - 1)), (8, zI u), (7, zR a7), (6, zR a6), (4, zL (aV N0)), (3, zR 229), (2, zR 228), (1, zR (B0 0)), (0, zR (zbg + 500))] [] σ511 _
  obtain ⟨N2, hZ2, hbz, h6⟩ := hI511
  obtain ⟨hL, hC, hW, hY⟩ := id hZ2
  have hb := hbz
  unfold lb at hb
  have hux := hL.2.2.1.2.1
  change 0 ≤ ((x : Nat) : Int) ∧ ((x : Nat) : Int) ≤ 10 at hux
  refine zF_iload 513 dL_law_511 rfl rfl ?_
  refine zF_if_lt 546 516 dL_law_513 rfl rfl (by first | decide | assumption | (constructor <;> omega)) (fun c1 => ?_) (fun c1 => ?_)
  · exact law_5 hGd g (by have q := hZ2; rw [show x = 0 by omega] at q; exact q) hbz h6
  · refine zF_aload_n 517 dL_law_516 rfl rfl ?_
    have u1 := un_1 hL (by omega)
    refine zF_callV 520 (d2 := (d + 13)) (as := []) dL_law_517 rfl kL_220 iX11_undo (ci := 11) rfl eX11_undo (Nat.le_refl _) hL.1.bk hL.1.bl rfl rfl (Nat.le_of_ble_eq_true rfl) (zE.mono (pL_undo hGd hL) fun ro σu hh517 => ?_)
    obtain ⟨er517, fr517, Lu⟩ := hh517
    rw [u1.1] at er517
    rw [u1.2.1] at Lu
    subst er517
    refine ⟨fr517.1, ?_⟩
    have Yu := hY.mu (zMu_fr fr517) (by omega)
    have Wu := hW.mu hY (zMu_fr fr517) (by omega)
    have zu : zn σu = zn σ511 := fr517.1
    have hbu : lb 640 σu := lb.zb (m := 0) hbz (zB_fr fr517)
    have hZu : lZ N0 a7 (H ((x : Int) - 1)) H (((x - 1 : Nat)) : Int) σu := by
      have e : (((x - 1 : Nat)) : Int) = (x : Int) - 1 := by omega
      rw [e]
      exact ⟨Lu, hC.tr u1.2.2, fun j j0 j1 => Wu j j0 (by omega), Yu⟩
    show zF G mL_law (d + 14) 520 [(9, zI (((x : Nat) : Int) - 1)), (8, zI u), (7, zR a7), (6, zR a6), (4, zL (aV N0)), (3, zR 229), (2, zR 228), (1, zR (B0 0)), (0, zR (zbg + 500))] [zI (((x : Nat) : Int) - 1)] σu _
    refine zF_iload 522 dL_law_520 rfl rfl ?_
    refine zF_icmp_ne 538 525 dL_law_522 rfl rfl (by first | decide | assumption | (constructor <;> omega)) (by first | decide | assumption | (constructor <;> omega)) (fun c2 => ?_) (fun c2 => ?_)
    · refine zF_iconst 539 dL_law_538 rfl ?_
      exact zF_zreturn dL_law_539 rfl (by decide) (by exfalso; omega)
    · refine zF_aload_n 526 dL_law_525 rfl rfl ?_
      refine zF_callS 529 (d2 := (d + 13)) (as := [zR (B0 0)]) dL_law_526 rfl kL_210 sL_all (Nat.le_refl _) rfl rfl (Nat.le_of_ble_eq_true rfl) (zE.mono (zt_L_all hGd (show cK _ (H (((x : Nat) : Int) - 1)) σu from Lu.K)) fun ro σx526 hh526 => ?_)
      obtain ⟨es526, er526⟩ := hh526
      replace es526 := es526.symm
      subst es526
      subst er526
      refine ⟨rfl, ?_⟩
      show zF G mL_law (d + 14) 529 [(9, zI (((x : Nat) : Int) - 1)), (8, zI u), (7, zR a7), (6, zR a6), (4, zL (aV N0)), (3, zR 229), (2, zR 228), (1, zR (B0 0)), (0, zR (zbg + 500))] [zL (aV (H (((x : Nat) : Int) - 1)))] σu _
      refine zF_aload 531 dL_law_529 rfl rfl ?_
      refine zF_iload 533 dL_law_531 rfl rfl ?_
      refine zF_laload 534 dL_law_533 rfl Yu.1 Yu.2.1.2 (by omega) (by omega) (Wu _ (by omega) (by omega)) ?_
      refine zF_Lw2 ?_
      refine zF_lcmp 535 dL_law_534 rfl (w64_rg _) (w64_rg _) ?_
      rw [zlcm_self]
      refine zF_if_eq 540 538 dL_law_535 rfl rfl (by first | decide | assumption | (constructor <;> omega)) (fun c3 => ?_) (fun c3 => ?_)
      · refine zF_iinc 543 (ls' := [(9, zI ((((x : Nat) : Int) - 1) + (-1))), (8, zI u), (7, zR a7), (6, zR a6), (4, zL (aV N0)), (3, zR 229), (2, zR 228), (1, zR (B0 0)), (0, zR (zbg + 500))]) dL_law_540 rfl rfl rfl (by decide) rfl ?_
        refine zF_goto 511 dL_law_543 rfl ?_
        exact zF_locs (ls' := [(9, zI ((((x - 1) : Nat) : Int) - 1)), (8, zI u), (7, zR a7), (6, zR a6), (4, zL (aV N0)), (3, zR 229), (2, zR 228), (1, zR (B0 0)), (0, zR (zbg + 500))]) ⟨zlI rfl (by first | rfl | omega | (push_cast; omega) | exact congrArg (_ + ·) (zbT (by assumption)) | exact congrArg (_ + ·) (zbF (by assumption)) | exact congrArg (_ + ·) (zbT (by omega)) | exact congrArg (_ + ·) (zbF (by omega)) | exact congrArg (_ + ·) (if_pos (by omega)).symm | exact congrArg (_ + ·) (if_neg (by omega)).symm | exact (if_pos (by omega)).symm | exact (if_neg (by omega)).symm | exact zsub_s (if_pos (by omega)).symm | exact zsub_s0 (if_neg (by omega)).symm | exact zadd0 (if_neg (by omega)).symm | exact zadd0 (zbF (by omega)) | exact (Int.sub_zero _).symm), rfl, rfl, rfl, rfl, rfl, rfl, rfl, rfl, trivial⟩ (ih511 (x - 1) _ (by show x - 1 < x; omega) (⟨_, hZu, hbu, by rw [zu]; exact h6⟩))
      · exact absurd c3 (by first | decide | simp)
set_option maxRecDepth 20000 in
theorem law_4 (hGd : zGd G) (g : lG N0) (hS : lT N0 a6 a7 32 N H u E σ) (hb0 : lb 640 σ) : zF G mL_law (d + 14) 443 [(9, zI 32), (8, zI u), (7, zR a7), (6, zR a6), (4, zL (aV N0)), (3, zR 229), (2, zR 228), (1, zR (B0 0)), (0, zR (zbg + 500))] [] σ lQ1 := by
  have e1 : zbg = 1000000 := rfl
  obtain ⟨hL, hO, hU, he, hC, hp, hM, hW⟩ := id hS
  have hb := hb0
  unfold lb at hb
  have hV := hL.2.2.1.1.v
  have hu := hL.2.2.1.2.1
  change 0 ≤ u ∧ u ≤ 10 at hu
  have hn := hV.n
  have m6 := hM.2.1
  obtain ⟨g0, gf, g1, g2, g3, g4⟩ := id g
  have n0 := hC.1.1
  have n2 := hC.1.2.2
  have hh0 := nH_eq hV
  have hf0 := nF_eq hV
  refine zF_iconst 444 dL_law_443 rfl ?_
  refine zF_istore 446 (ls' := [(9, zI 0), (8, zI u), (7, zR a7), (6, zR a6), (4, zL (aV N0)), (3, zR 229), (2, zR 228), (1, zR (B0 0)), (0, zR (zbg + 500))]) dL_law_444 rfl (by decide) rfl ?_
  refine zF_locs (ls' := [(9, zI ((0 : Nat) : Int)), (8, zI u), (7, zR a7), (6, zR a6), (4, zL (aV N0)), (3, zR 229), (2, zR 228), (1, zR (B0 0)), (0, zR (zbg + 500))]) ⟨zlI rfl (by first | rfl | omega | (push_cast; omega) | exact congrArg (_ + ·) (zbT (by assumption)) | exact congrArg (_ + ·) (zbF (by assumption)) | exact congrArg (_ + ·) (zbT (by omega)) | exact congrArg (_ + ·) (zbF (by omega)) | exact congrArg (_ + ·) (if_pos (by omega)).symm | exact congrArg (_ + ·) (if_neg (by omega)).symm | exact (if_pos (by omega)).symm | exact (if_neg (by omega)).symm | exact zsub_s (if_pos (by omega)).symm | exact zsub_s0 (if_neg (by omega)).symm | exact zadd0 (if_neg (by omega)).symm | exact zadd0 (zbF (by omega)) | exact (Int.sub_zero _).symm), rfl, rfl, rfl, rfl, rfl, rfl, rfl, rfl, trivial⟩ ?_
  refine zF_while (X := Nat) (fun z => (N0 2).toNat - z) (fun z σ446 => ((z : Nat) : Int) ≤ N0 2 ∧ sJ N0 N a6 σ z 0 σ446) (fun z => [(9, zI ((z : Nat) : Int)), (8, zI u), (7, zR a7), (6, zR a6), (4, zL (aV N0)), (3, zR 229), (2, zR 228), (1, zR (B0 0)), (0, zR (zbg + 500))]) ?_ 0 σ (⟨by show ((0 : Nat) : Int) ≤ N0 2; omega, sJ_0 hM (by omega)⟩)
  intro x σ446 hI446 ih446
  show zF G mL_law (d + 14) 446 [(9, zI ((x : Nat) : Int)), (8, zI u), (7, zR a7), (6, zR a6), (4, zL (aV N0)), (3, zR 229), (2, zR 228), (1, zR (B0 0)), (0, zR (zbg + 500))] [] σ446 _
  obtain ⟨hx, I446⟩ := hI446
  change ((x : Nat) : Int) ≤ N0 2 at hx
  obtain ⟨L446, O446, Y446, W446, K446⟩ := s6 hL hO hM (by omega) I446.1
  refine zF_iload 448 dL_law_446 rfl rfl ?_
  refine zF_aload_n 449 dL_law_448 rfl rfl ?_
  refine zF_getIN 452 dL_law_449 rfl gnL_39 (by decide) (by decide) (he ▸ O446.k0) (he ▸ O446.l0) (he ▸ O446.i2) ?_
  refine zF_icmp_ge 505 455 dL_law_452 rfl rfl (by first | decide | assumption | (constructor <;> omega)) (by first | decide | assumption | (constructor <;> omega)) (fun c1 => ?_) (fun c1 => ?_)
  · exact law_4b hGd g ⟨L446, hC, W446 hW, Y446⟩ (lb.zb (m := 0) hb0 (zB_fr I446.1)) K446.2
  · refine zF_iconst 456 dL_law_455 rfl ?_
    refine zF_istore 458 (ls' := [(10, zI (-1)), (9, zI ((x : Nat) : Int)), (8, zI u), (7, zR a7), (6, zR a6), (4, zL (aV N0)), (3, zR 229), (2, zR 228), (1, zR (B0 0)), (0, zR (zbg + 500))]) dL_law_456 rfl (by decide) rfl ?_
    refine zF_locs (ls' := [(10, zI (((0 : Nat) : Int) + -1)), (9, zI ((x : Nat) : Int)), (8, zI u), (7, zR a7), (6, zR a6), (4, zL (aV N0)), (3, zR 229), (2, zR 228), (1, zR (B0 0)), (0, zR (zbg + 500))]) ⟨zlI rfl (by first | rfl | omega | (push_cast; omega) | exact congrArg (_ + ·) (zbT (by assumption)) | exact congrArg (_ + ·) (zbF (by assumption)) | exact congrArg (_ + ·) (zbT (by omega)) | exact congrArg (_ + ·) (zbF (by omega)) | exact congrArg (_ + ·) (if_pos (by omega)).symm | exact congrArg (_ + ·) (if_neg (by omega)).symm | exact (if_pos (by omega)).symm | exact (if_neg (by omega)).symm | exact zsub_s (if_pos (by omega)).symm | exact zsub_s0 (if_neg (by omega)).symm | exact zadd0 (if_neg (by omega)).symm | exact zadd0 (zbF (by omega)) | exact (Int.sub_zero _).symm), rfl, rfl, rfl, rfl, rfl, rfl, rfl, rfl, rfl, trivial⟩ ?_
    refine zF_while (X := Nat) (fun z => (N 0).toNat + 1 - z) (fun z σ458 => z ≤ (N 0).toNat + 1 ∧ sJ N0 N a6 σ x z σ458) (fun z => [(10, zI (((z : Nat) : Int) + -1)), (9, zI ((x : Nat) : Int)), (8, zI u), (7, zR a7), (6, zR a6), (4, zL (aV N0)), (3, zR 229), (2, zR 228), (1, zR (B0 0)), (0, zR (zbg + 500))]) ?_ 0 σ446 (⟨by omega, I446⟩)
    intro y σ458 hI458 ih458
    show zF G mL_law (d + 14) 458 [(10, zI (((y : Nat) : Int) + -1)), (9, zI ((x : Nat) : Int)), (8, zI u), (7, zR a7), (6, zR a6), (4, zL (aV N0)), (3, zR 229), (2, zR 228), (1, zR (B0 0)), (0, zR (zbg + 500))] [] σ458 _
    obtain ⟨hy, I458⟩ := hI458
    obtain ⟨L458, O458, Y458, W458, K458⟩ := s6 hL hO hM (by omega) I458.1
    refine zF_iload 460 dL_law_458 rfl rfl ?_
    refine zF_aload_n 461 dL_law_460 rfl rfl ?_
    refine zF_getIN 464 dL_law_461 rfl gnL_31 (by decide) (by decide) (he ▸ O458.k0) (he ▸ O458.l0) (he ▸ O458.i0) ?_
    refine zF_icmp_ge 489 467 dL_law_464 rfl rfl (by first | decide | assumption | (constructor <;> omega)) (by first | decide | assumption | (constructor <;> omega)) (fun c2 => ?_) (fun c2 => ?_)
    · have z0 : zia σ458 a6 ((x : Nat) : Int) = 0 := sJ_z I458 (by omega) (by omega) (hp x (by omega) (by omega))
      refine zF_aload 491 dL_law_489 rfl rfl ?_
      refine zF_iload 493 dL_law_491 rfl rfl ?_
      refine zF_iaload 494 dL_law_493 rfl K458.1 K458.2 (by omega) (by omega) z0 ?_
      refine zF_if_eq 499 497 dL_law_494 rfl rfl (by first | decide | assumption | (constructor <;> omega)) (fun c3 => ?_) (fun c3 => ?_)
      · refine zF_iinc 502 (ls' := [(9, zI (((x : Nat) : Int) + 1)), (10, zI (((y : Nat) : Int) + -1)), (8, zI u), (7, zR a7), (6, zR a6), (4, zL (aV N0)), (3, zR 229), (2, zR 228), (1, zR (B0 0)), (0, zR (zbg + 500))]) dL_law_499 rfl rfl rfl (by decide) rfl ?_
        refine zF_goto 446 dL_law_502 rfl ?_
        exact zF_locs (ls' := [(9, zI (((x + 1) : Nat) : Int)), (8, zI u), (7, zR a7), (6, zR a6), (4, zL (aV N0)), (3, zR 229), (2, zR 228), (1, zR (B0 0)), (0, zR (zbg + 500))]) ⟨zlI rfl (by first | rfl | omega | (push_cast; omega) | exact congrArg (_ + ·) (zbT (by assumption)) | exact congrArg (_ + ·) (zbF (by assumption)) | exact congrArg (_ + ·) (zbT (by omega)) | exact congrArg (_ + ·) (zbF (by omega)) | exact congrArg (_ + ·) (if_pos (by omega)).symm | exact congrArg (_ + ·) (if_neg (by omega)).symm | exact (if_pos (by omega)).symm | exact (if_neg (by omega)).symm | exact zsub_s (if_pos (by omega)).symm | exact zsub_s0 (if_neg (by omega)).symm | exact zadd0 (if_neg (by omega)).symm | exact zadd0 (zbF (by omega)) | exact (Int.sub_zero _).symm), rfl, rfl, rfl, rfl, rfl, rfl, rfl, rfl, trivial⟩ (ih446 (x + 1) _ (by show (N0 2).toNat - (x + 1) < (N0 2).toNat - x; omega) (⟨by show ((x + 1 : Nat) : Int) ≤ N0 2; omega, sJ_x hM I458⟩))
      · exact absurd c3 (by first | decide | simp)
    · refine zF_aload 469 dL_law_467 rfl rfl ?_
      refine zF_iload 471 dL_law_469 rfl rfl ?_
      refine zF_dup2 472 dL_law_471 rfl rfl rfl ?_
      refine zF_iaload 473 dL_law_472 rfl K458.1 K458.2 (by omega) (by omega) rfl ?_
      refine zF_aload_n 474 dL_law_473 rfl rfl ?_
      refine zF_iload 476 dL_law_474 rfl rfl ?_
      refine zF_iload 478 dL_law_476 rfl rfl ?_
      refine zF_callV 481 (d2 := (d + 13)) (as := [zI ((x : Nat) : Int), zI (((y : Nat) : Int) + -1)]) dL_law_478 rfl kL_125 iX11_prints (ci := 11) rfl eX11_prints (Nat.le_refl _) L458.1.bk L458.1.bl rfl rfl (Nat.le_of_ble_eq_true rfl) (zE.mono (qL_prints hGd (show cK 32 N σ458 from L458.K) (by omega) (by omega) (by omega) (by omega)) fun ro σx478 hh478 => ?_)
      obtain ⟨es478, er478⟩ := hh478
      replace es478 := es478.symm
      subst es478
      subst er478
      refine ⟨rfl, ?_⟩
      show zF G mL_law (d + 14) 481 [(10, zI (((y : Nat) : Int) + -1)), (9, zI ((x : Nat) : Int)), (8, zI u), (7, zR a7), (6, zR a6), (4, zL (aV N0)), (3, zR 229), (2, zR 228), (1, zR (B0 0)), (0, zR (zbg + 500))] [zI (mP N ((x : Nat) : Int) (((y : Nat) : Int) + -1)), zI (zia σ458 a6 ((x : Nat) : Int)), zI ((x : Nat) : Int), zR a6] σ458 _
      refine zF_isub 482 dL_law_481 rfl ?_
      refine zF_iastore 483 dL_law_482 rfl K458.1 K458.2 (by omega) (by omega) ?_
      refine zF_iinc 486 (ls' := [(10, zI ((((y : Nat) : Int) + -1) + 1)), (9, zI ((x : Nat) : Int)), (8, zI u), (7, zR a7), (6, zR a6), (4, zL (aV N0)), (3, zR 229), (2, zR 228), (1, zR (B0 0)), (0, zR (zbg + 500))]) dL_law_483 rfl rfl rfl (by decide) rfl ?_
      refine zF_goto 458 dL_law_486 rfl ?_
      exact zF_locs (ls' := [(10, zI ((((y + 1) : Nat) : Int) + -1)), (9, zI ((x : Nat) : Int)), (8, zI u), (7, zR a7), (6, zR a6), (4, zL (aV N0)), (3, zR 229), (2, zR 228), (1, zR (B0 0)), (0, zR (zbg + 500))]) ⟨zlI rfl (by first | rfl | omega | (push_cast; omega) | exact congrArg (_ + ·) (zbT (by assumption)) | exact congrArg (_ + ·) (zbF (by assumption)) | exact congrArg (_ + ·) (zbT (by omega)) | exact congrArg (_ + ·) (zbF (by omega)) | exact congrArg (_ + ·) (if_pos (by omega)).symm | exact congrArg (_ + ·) (if_neg (by omega)).symm | exact (if_pos (by omega)).symm | exact (if_neg (by omega)).symm | exact zsub_s (if_pos (by omega)).symm | exact zsub_s0 (if_neg (by omega)).symm | exact zadd0 (if_neg (by omega)).symm | exact zadd0 (zbF (by omega)) | exact (Int.sub_zero _).symm), rfl, rfl, rfl, rfl, rfl, rfl, rfl, rfl, rfl, trivial⟩ (ih458 (y + 1) _ (by show (N 0).toNat + 1 - (y + 1) < (N 0).toNat + 1 - y; omega) (⟨by omega, sJ_y I458 (by omega)⟩))
theorem law_all (hGd : zGd G) (hG1 : zOS G) (hAO : zAO G) (hX : zSx G L xs) : zF G mL_law (d + 14) 0 [(0, zR (zbg + 500))] [] zE0 lQ1 :=
  law_0 hG1 hAO fun σ hS hT hn hc hx => law_1 hGd hG1 hS hT hn hc hx fun σ S hL hT hn hc => law_2 hGd hG1 hAO hX hL hT hn hc fun N0 E a6 a7 σ g s => by
    obtain ⟨hL, hO, hU, he, hC, hp, hM, hW, b1, b2, b3⟩ := s
    rw [he]
    exact law_3 hGd g hX hAO (fun N H u E σ s b => law_4 hGd g s b) 32 0 rfl _ _ _ _ _ ⟨hL, hO, hU, he, hC, hp, hM, hW⟩ ⟨by omega, by omega, by omega⟩
end ZQS

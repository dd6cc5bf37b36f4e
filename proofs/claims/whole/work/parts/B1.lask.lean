/-! the law's questions -/
section ZLW
variable {G : zG} {d n L : Nat} {xs : Nat → Int32} {σ σ1 : zMem} {Q : zRes → zMem → Prop} {i k v : Int} {S1 : zS}
theorem lQ_us {r : zRes} (hs : lSh σ) (h : (k = 1 ∧ r = .inr eNSE ∧ σ1 = zus σ 1 6) ∨ (k = 2 ∧ r = .inr eIAE ∧ σ1 = zus σ 1 6)) : lQ σ 245 r σ1 := by
  rcases h with ⟨_, er, f⟩ | ⟨_, er, f⟩ <;> subst er <;> subst f
  · exact ⟨⟨hs.ol, hs.ok⟩, Or.inr (Or.inl ⟨rfl, rfl⟩)⟩
  · exact ⟨⟨hs.ol, hs.ok⟩, Or.inr (Or.inr ⟨rfl, rfl⟩)⟩
theorem lQ_cop (hs : lSh σ) : ∀ r σ1, cop k v B0 σ r σ1 → lQ σ 245 r σ1 := fun r σ1 h => by
  rcases h with ⟨_, er, f⟩ | h
  · exact ⟨⟨(hs.fr f).ol, (hs.fr f).ok⟩, Or.inl ⟨v, er⟩⟩
  · exact lQ_us hs h
theorem lQ_copM (hs : lSh σ) : ∀ r σ1, copM k v S1 B0 σ r σ1 → lQ σ 245 r σ1 := fun r σ1 h => by
  rcases h with ⟨_, er, f, _⟩ | h
  · exact ⟨⟨(hs.fr f).ol, (hs.fr f).ok⟩, Or.inl ⟨v, er⟩⟩
  · exact lQ_us hs h
theorem eIN : eNSE ≠ eIAE := by decide
theorem nI_cop (h : lk2 k) : ∀ σ1, ¬ cop k v B0 σ (.inr eIAE) σ1 := fun σ1 q => by
  unfold lk2 at h
  rcases q with ⟨_, e, _⟩ | ⟨_, e, _⟩ | ⟨e, _⟩
  · cases e
  · exact absurd e.symm (by decide)
  · omega
theorem nI_copM (h : lk2 k) : ∀ σ1, ¬ copM k v S1 B0 σ (.inr eIAE) σ1 := fun σ1 q => by
  unfold lk2 at h
  rcases q with ⟨_, e, _⟩ | ⟨_, e, _⟩ | ⟨e, _⟩
  · cases e
  · exact absurd e.symm (by decide)
  · omega
theorem nN_copM (h : k ≠ 1) : ∀ σ1, ¬ copM k v S1 B0 σ (.inr eNSE) σ1 := fun σ1 q => by
  rcases q with ⟨_, e, _⟩ | ⟨e, _⟩ | ⟨_, e, _⟩
  · cases e
  · exact h e
  · exact absurd e (by decide)
theorem zb_01 {p : Prop} [Decidable p] : zb p = 0 ∨ zb p = 1 := by
  unfold zb
  split
  · exact Or.inr rfl
  · exact Or.inl rfl
theorem h01_cop {p : Prop} [Decidable p] : ∀ w σ1, cop k (zb p) B0 σ (.inl (some (zI w))) σ1 → w = 0 ∨ w = 1 := fun w σ1 q => by
  rcases q with ⟨_, e, _⟩ | ⟨_, e, _⟩ | ⟨_, e, _⟩
  · have ew : w = zb p := by injection e with e; injection e with e; injection e
    rw [ew]
    exact zb_01
  · cases e
  · cases e
theorem lw_tailB {k kc x v : Int} (hk : lk3 k) (hkc : kc = k) (e5 : zia σ 228 ((5 : Nat) : Int) = k) (ev : k = 0 → zia σ 245 0 = zw32 v) (ex : k = 0 → x = v) (hs : lSh σ) (h01 : v = 0 ∨ v = 1) (K : zF G mL_law (d + 40) 2286 (lLs i) [] σ Q) : zF G mL_law (d + 40) 1047 ((6, zI x) :: (5, zI kc) :: lLs i) [] σ Q := by
  subst hkc
  have hr : zrg kc := by unfold lk3 at hk; constructor <;> omega
  refine zF_aload_n 1048 dL_law_1047 rfl rfl ?_
  refine zF_callVi 1051 (d2 := d) (as := []) dL_law_1048 rfl kLX12_thrown iX12_thrown (ci := 12) rfl eX12_thrown (by omega) hs.zMo.1 hs.zMo.2.1 rfl rfl (Nat.le_of_ble_eq_true rfl) (zt_X12_thrown hs.zMo e5) ?_
  refine zF_iload 1053 dL_law_1051 rfl rfl ?_
  refine zF_icmp_eq 1058 1056 dL_law_1053 rfl rfl hr hr (fun _ => ?_) (fun c => absurd rfl c)
  refine zF_iload 1060 dL_law_1058 rfl rfl ?_
  refine zF_if_ne 1082 1063 dL_law_1060 rfl rfl hr (fun _ => ?_) (fun c => ?_)
  · refine zF_goto 2286 dL_law_1082 rfl ?_
    exact zF_locs (ls' := lLs i) ⟨rfl, rfl, rfl, rfl, rfl, trivial⟩ K
  · have c0 : kc = 0 := by omega
    have ew := ev c0
    have exv := ex c0
    subst exv
    refine zF_aload_n 1064 dL_law_1063 rfl rfl ?_
    refine zF_iconst 1065 dL_law_1064 rfl ?_
    refine zF_laload 1066 dL_law_1065 rfl hs.ok hs.ol (by decide) (by decide) ew ?_
    refine zF_iload 1068 dL_law_1066 rfl rfl ?_
    have end0 : ∀ w : Int, zw32 x = w → zF G mL_law (d + 40) 1076 ((6, zI x) :: (5, zI kc) :: lLs i) [zL w, zL (zw32 x)] σ Q := fun w hw => by
      subst hw
      refine zF_lcmp 1077 dL_law_1076 rfl (zw32_L _) (zw32_L _) ?_
      refine zF_I (show zlcm (zw32 x) (zw32 x) = 0 from by rw [zlcm_z]) ?_
      refine zF_if_eq 1082 1080 dL_law_1077 rfl rfl zrg0 (fun _ => ?_) (fun c => absurd rfl c)
      refine zF_goto 2286 dL_law_1082 rfl ?_
      exact zF_locs (ls' := lLs i) ⟨rfl, rfl, rfl, rfl, rfl, trivial⟩ K
    rcases h01 with e | e
    · refine zF_if_eq 1075 1071 dL_law_1068 rfl rfl (by rw [e]; decide) (fun c => ?_) (fun c => absurd e c)
      refine zF_lconst 1076 dL_law_1075 rfl ?_
      exact end0 _ (by rw [e]; rfl)
    · refine zF_if_eq 1075 1071 dL_law_1068 rfl rfl (by rw [e]; decide) (fun c => absurd c (by rw [e]; decide)) (fun c => ?_)
      refine zF_lconst 1072 dL_law_1071 rfl ?_
      refine zF_goto 1076 dL_law_1072 rfl ?_
      exact end0 _ (by rw [e]; rfl)
theorem lw_size (hg : lGd G L xs) (i0 : 0 ≤ i) (i6 : i + 6 ≤ (L : Int)) (hn : n < 512) (J : lI n σ) (K : ∀ σ1, lI (n + 1) σ1 → zF G mL_law (d + 40) 2286 (lLs i) [] σ1 Q) : zF G mL_law (d + 40) 354 (lLs i) [] σ Q := by
  obtain ⟨S, Sn, sf, cc, ep, t, l, vv, cap, J⟩ := J
  obtain ⟨⟨hs, hb, hv⟩, ⟨hD, hT, hL⟩, hc, hm⟩ := id J
  obtain ⟨hGd, hG, hOD, hOP, hX, hNx⟩ := hg
  have gn := hD.gn
  have hR := hc.1.1.1
  show zF G mL_law (d + 40) 354 [(0, zR (zbg + 500)), (1, zR (B0 0)), (2, zR 228), (3, zR 245), (4, zI i)] [] σ _
  refine zF_aload_n 355 dL_law_354 rfl rfl ?_
  refine zF_aload_n 356 dL_law_355 rfl rfl ?_
  refine zF_iload 358 dL_law_356 rfl rfl ?_
  refine zF_iconst 359 dL_law_358 rfl ?_
  refine zF_iadd 360 dL_law_359 rfl ?_
  refine zF_sload 361 dL_law_360 rfl hX (by omega) (by omega) ?_
  refine zF_aload_n 362 dL_law_361 rfl rfl ?_
  refine zF_callSH 365 (d2 := d + 39) (as := [zR (B0 0), zI (lx xs i 1), zR 245]) (rest := []) dL_law_362 rfl kLH_size sL_size (by omega) rfl rfl (Nat.le_of_ble_eq_true rfl) ⟨zwO, zwR hs.bl, zwR hs.ml, zwR hs.ol, trivial, trivial⟩ trivial (zEH.mono (zl_size (d2 := d + 11) (by omega) hs.bk hs.bl hs.ol ((zt_X11_size hGd hs.cO hR gn.v (zrg_x _)).mono fun _ _ h => zop_cop h) (lQ_cop hs) (nI_cop (by repeat' (first | exact lk2_0 | exact lk2_1 | refine lk2_if ?_ ?_)))) fun ro σ1 hh => ?_)
  obtain ⟨er, ev, ⟨s1, b1⟩, c1, m1⟩ := lq_cop hn J hh
  subst er
  refine ⟨_, rfl, ?_⟩
  show zF G _ _ _ _ [zI _] σ1 _
  refine zF_istore 367 (ls' := (5, zI _) :: lLs i) dL_law_365 rfl (by decide) rfl ?_
  have hN1 := m1.1.1.1
  refine zF_aload_n 368 dL_law_367 rfl rfl ?_
  refine zF_aload_n 369 dL_law_368 rfl rfl ?_
  refine zF_iload 371 dL_law_369 rfl rfl ?_
  refine zF_iconst 372 dL_law_371 rfl ?_
  refine zF_iadd 373 dL_law_372 rfl ?_
  refine zF_sload 374 dL_law_373 rfl hX (by omega) (by omega) ?_
  refine zF_callV 377 (d2 := d + 12) (as := [zI (lx xs i 1)]) dL_law_374 rfl kLX12_size iX12_size (ci := 12) rfl eX12_size (by omega) s1.zMo.1 s1.zMo.2.1 rfl rfl (Nat.le_of_ble_eq_true rfl) (zE.mono (zt_X12_size s1.zMo hN1 gn.v (zrg_x _)) fun r σ2 hh2 => ?_)
  obtain ⟨x, er2, en, e5, ex, eo, ⟨s2, b2⟩, c2, m2⟩ := lq_mop s1 b1 hv c1 m1 hh2
  subst er2
  rw [← eo] at ev
  refine ⟨en, ?_⟩
  show zF G _ _ _ _ [zI x] σ2 _
  refine zF_istore 379 (ls' := (6, zI x) :: (5, zI _) :: lLs i) dL_law_377 rfl (by decide) rfl ?_
  refine lw_tail 379 dL_law_379 dL_law_380 dL_law_383 dL_law_385 dL_law_390 dL_law_392 dL_law_395 dL_law_396 dL_law_397 dL_law_398 dL_law_400 dL_law_401 dL_law_402 dL_law_407 (by decide) (by repeat' (first | exact lk3_0 | exact lk3_1 | exact lk3_2 | refine lk3_if ?_ ?_)) (lkc_1 (by repeat' (first | exact lk2_0 | exact lk2_1 | refine lk2_if ?_ ?_))) e5 ev ex s2 ?_
  exact K σ2 ⟨S, Sn, sf, cc, ep, t, l, vv, cap, ⟨s2, b2, hv⟩, ⟨hD.up (by push_cast; omega), hT, hL⟩, c2, m2⟩
theorem lw_house (hg : lGd G L xs) (i0 : 0 ≤ i) (i6 : i + 6 ≤ (L : Int)) (hn : n < 512) (J : lI n σ) (K : ∀ σ1, lI (n + 1) σ1 → zF G mL_law (d + 40) 2286 (lLs i) [] σ1 Q) : zF G mL_law (d + 40) 410 (lLs i) [] σ Q := by
  obtain ⟨S, Sn, sf, cc, ep, t, l, vv, cap, J⟩ := J
  obtain ⟨⟨hs, hb, hv⟩, ⟨hD, hT, hL⟩, hc, hm⟩ := id J
  obtain ⟨hGd, hG, hOD, hOP, hX, hNx⟩ := hg
  have gn := hD.gn
  have hR := hc.1.1.1
  show zF G mL_law (d + 40) 410 [(0, zR (zbg + 500)), (1, zR (B0 0)), (2, zR 228), (3, zR 245), (4, zI i)] [] σ _
  refine zF_aload_n 411 dL_law_410 rfl rfl ?_
  refine zF_aload_n 412 dL_law_411 rfl rfl ?_
  refine zF_iload 414 dL_law_412 rfl rfl ?_
  refine zF_iconst 415 dL_law_414 rfl ?_
  refine zF_iadd 416 dL_law_415 rfl ?_
  refine zF_sload 417 dL_law_416 rfl hX (by omega) (by omega) ?_
  refine zF_aload_n 418 dL_law_417 rfl rfl ?_
  refine zF_iload 420 dL_law_418 rfl rfl ?_
  refine zF_iconst 421 dL_law_420 rfl ?_
  refine zF_iadd 422 dL_law_421 rfl ?_
  refine zF_sload 423 dL_law_422 rfl hX (by omega) (by omega) ?_
  refine zF_aload_n 424 dL_law_423 rfl rfl ?_
  refine zF_callSH 427 (d2 := d + 39) (as := [zR (B0 0), zI (lx xs i 1), zI (lx xs i 2), zR 245]) (rest := []) dL_law_424 rfl kLH_house sL_house (by omega) rfl rfl (Nat.le_of_ble_eq_true rfl) ⟨zwO, zwR hs.bl, zwR hs.ml, zwR hs.ol, trivial, trivial⟩ trivial (zEH.mono (zl_house (d2 := d + 11) (by omega) hs.bk hs.bl hs.ol ((zt_X11_house hGd hs.cO hR gn.v gn.w gn.x (zrg_x _) (zrg_x _)).mono fun _ _ h => zop_cop h) (lQ_cop hs) (nI_cop (by repeat' (first | exact lk2_0 | exact lk2_1 | refine lk2_if ?_ ?_)))) fun ro σ1 hh => ?_)
  obtain ⟨er, ev, ⟨s1, b1⟩, c1, m1⟩ := lq_cop hn J hh
  subst er
  refine ⟨_, rfl, ?_⟩
  show zF G _ _ _ _ [zI _] σ1 _
  refine zF_istore 429 (ls' := (5, zI _) :: lLs i) dL_law_427 rfl (by decide) rfl ?_
  have hN1 := m1.1.1.1
  refine zF_aload_n 430 dL_law_429 rfl rfl ?_
  refine zF_aload_n 431 dL_law_430 rfl rfl ?_
  refine zF_iload 433 dL_law_431 rfl rfl ?_
  refine zF_iconst 434 dL_law_433 rfl ?_
  refine zF_iadd 435 dL_law_434 rfl ?_
  refine zF_sload 436 dL_law_435 rfl hX (by omega) (by omega) ?_
  refine zF_aload_n 437 dL_law_436 rfl rfl ?_
  refine zF_iload 439 dL_law_437 rfl rfl ?_
  refine zF_iconst 440 dL_law_439 rfl ?_
  refine zF_iadd 441 dL_law_440 rfl ?_
  refine zF_sload 442 dL_law_441 rfl hX (by omega) (by omega) ?_
  refine zF_callV 445 (d2 := d + 12) (as := [zI (lx xs i 1), zI (lx xs i 2)]) dL_law_442 rfl kLX12_house iX12_house (ci := 12) rfl eX12_house (by omega) s1.zMo.1 s1.zMo.2.1 rfl rfl (Nat.le_of_ble_eq_true rfl) (zE.mono (zt_X12_house s1.zMo hN1 gn.v gn.w gn.q (zrg_x _) (zrg_x _)) fun r σ2 hh2 => ?_)
  obtain ⟨x, er2, en, e5, ex, eo, ⟨s2, b2⟩, c2, m2⟩ := lq_mop s1 b1 hv c1 m1 hh2
  subst er2
  rw [← eo] at ev
  refine ⟨en, ?_⟩
  show zF G _ _ _ _ [zI x] σ2 _
  refine zF_istore 447 (ls' := (6, zI x) :: (5, zI _) :: lLs i) dL_law_445 rfl (by decide) rfl ?_
  refine lw_tail 447 dL_law_447 dL_law_448 dL_law_451 dL_law_453 dL_law_458 dL_law_460 dL_law_463 dL_law_464 dL_law_465 dL_law_466 dL_law_468 dL_law_469 dL_law_470 dL_law_475 (by decide) (by repeat' (first | exact lk3_0 | exact lk3_1 | exact lk3_2 | refine lk3_if ?_ ?_)) (lkc_1 (by repeat' (first | exact lk2_0 | exact lk2_1 | refine lk2_if ?_ ?_))) e5 ev ex s2 ?_
  exact K σ2 ⟨S, Sn, sf, cc, ep, t, l, vv, cap, ⟨s2, b2, hv⟩, ⟨hD.up (by push_cast; omega), hT, hL⟩, c2, m2⟩
theorem lw_screen (hg : lGd G L xs) (i0 : 0 ≤ i) (i6 : i + 6 ≤ (L : Int)) (hn : n < 512) (J : lI n σ) (K : ∀ σ1, lI (n + 1) σ1 → zF G mL_law (d + 40) 2286 (lLs i) [] σ1 Q) : zF G mL_law (d + 40) 478 (lLs i) [] σ Q := by
  obtain ⟨S, Sn, sf, cc, ep, t, l, vv, cap, J⟩ := J
  obtain ⟨⟨hs, hb, hv⟩, ⟨hD, hT, hL⟩, hc, hm⟩ := id J
  obtain ⟨hGd, hG, hOD, hOP, hX, hNx⟩ := hg
  have gn := hD.gn
  have hR := hc.1.1.1
  show zF G mL_law (d + 40) 478 [(0, zR (zbg + 500)), (1, zR (B0 0)), (2, zR 228), (3, zR 245), (4, zI i)] [] σ _
  refine zF_aload_n 479 dL_law_478 rfl rfl ?_
  refine zF_aload_n 480 dL_law_479 rfl rfl ?_
  refine zF_iload 482 dL_law_480 rfl rfl ?_
  refine zF_iconst 483 dL_law_482 rfl ?_
  refine zF_iadd 484 dL_law_483 rfl ?_
  refine zF_sload 485 dL_law_484 rfl hX (by omega) (by omega) ?_
  refine zF_aload_n 486 dL_law_485 rfl rfl ?_
  refine zF_iload 488 dL_law_486 rfl rfl ?_
  refine zF_iconst 489 dL_law_488 rfl ?_
  refine zF_iadd 490 dL_law_489 rfl ?_
  refine zF_sload 491 dL_law_490 rfl hX (by omega) (by omega) ?_
  refine zF_aload_n 492 dL_law_491 rfl rfl ?_
  refine zF_callSH 495 (d2 := d + 39) (as := [zR (B0 0), zI (lx xs i 1), zI (lx xs i 2), zR 245]) (rest := []) dL_law_492 rfl kLH_screen sL_screen (by omega) rfl rfl (Nat.le_of_ble_eq_true rfl) ⟨zwO, zwR hs.bl, zwR hs.ml, zwR hs.ol, trivial, trivial⟩ trivial (zEH.mono (zl_screen (d2 := d + 11) (by omega) hs.bk hs.bl hs.ol ((zt_X11_screen hGd hs.cO hR gn.v gn.w (zrg_x _) (zrg_x _)).mono fun _ _ h => zop_cop h) (lQ_cop hs) (nI_cop (by repeat' (first | exact lk2_0 | exact lk2_1 | refine lk2_if ?_ ?_)))) fun ro σ1 hh => ?_)
  obtain ⟨er, ev, ⟨s1, b1⟩, c1, m1⟩ := lq_cop hn J hh
  subst er
  refine ⟨_, rfl, ?_⟩
  show zF G _ _ _ _ [zI _] σ1 _
  refine zF_istore 497 (ls' := (5, zI _) :: lLs i) dL_law_495 rfl (by decide) rfl ?_
  have hN1 := m1.1.1.1
  refine zF_aload_n 498 dL_law_497 rfl rfl ?_
  refine zF_aload_n 499 dL_law_498 rfl rfl ?_
  refine zF_iload 501 dL_law_499 rfl rfl ?_
  refine zF_iconst 502 dL_law_501 rfl ?_
  refine zF_iadd 503 dL_law_502 rfl ?_
  refine zF_sload 504 dL_law_503 rfl hX (by omega) (by omega) ?_
  refine zF_aload_n 505 dL_law_504 rfl rfl ?_
  refine zF_iload 507 dL_law_505 rfl rfl ?_
  refine zF_iconst 508 dL_law_507 rfl ?_
  refine zF_iadd 509 dL_law_508 rfl ?_
  refine zF_sload 510 dL_law_509 rfl hX (by omega) (by omega) ?_
  refine zF_callV 513 (d2 := d + 12) (as := [zI (lx xs i 1), zI (lx xs i 2)]) dL_law_510 rfl kLX12_screen iX12_screen (ci := 12) rfl eX12_screen (by omega) s1.zMo.1 s1.zMo.2.1 rfl rfl (Nat.le_of_ble_eq_true rfl) (zE.mono (zt_X12_screen s1.zMo hN1 gn.v gn.w (zrg_x _) (zrg_x _)) fun r σ2 hh2 => ?_)
  obtain ⟨x, er2, en, e5, ex, eo, ⟨s2, b2⟩, c2, m2⟩ := lq_mop s1 b1 hv c1 m1 hh2
  subst er2
  rw [← eo] at ev
  refine ⟨en, ?_⟩
  show zF G _ _ _ _ [zI x] σ2 _
  refine zF_istore 515 (ls' := (6, zI x) :: (5, zI _) :: lLs i) dL_law_513 rfl (by decide) rfl ?_
  refine lw_tail 515 dL_law_515 dL_law_516 dL_law_519 dL_law_521 dL_law_526 dL_law_528 dL_law_531 dL_law_532 dL_law_533 dL_law_534 dL_law_536 dL_law_537 dL_law_538 dL_law_543 (by decide) (by repeat' (first | exact lk3_0 | exact lk3_1 | exact lk3_2 | refine lk3_if ?_ ?_)) (lkc_1 (by repeat' (first | exact lk2_0 | exact lk2_1 | refine lk2_if ?_ ?_))) e5 ev ex s2 ?_
  exact K σ2 ⟨S, Sn, sf, cc, ep, t, l, vv, cap, ⟨s2, b2, hv⟩, ⟨hD.up (by push_cast; omega), hT, hL⟩, c2, m2⟩
theorem lw_film (hg : lGd G L xs) (i0 : 0 ≤ i) (i6 : i + 6 ≤ (L : Int)) (hn : n < 512) (J : lI n σ) (K : ∀ σ1, lI (n + 1) σ1 → zF G mL_law (d + 40) 2286 (lLs i) [] σ1 Q) : zF G mL_law (d + 40) 546 (lLs i) [] σ Q := by
  obtain ⟨S, Sn, sf, cc, ep, t, l, vv, cap, J⟩ := J
  obtain ⟨⟨hs, hb, hv⟩, ⟨hD, hT, hL⟩, hc, hm⟩ := id J
  obtain ⟨hGd, hG, hOD, hOP, hX, hNx⟩ := hg
  have gn := hD.gn
  have hR := hc.1.1.1
  show zF G mL_law (d + 40) 546 [(0, zR (zbg + 500)), (1, zR (B0 0)), (2, zR 228), (3, zR 245), (4, zI i)] [] σ _
  refine zF_aload_n 547 dL_law_546 rfl rfl ?_
  refine zF_aload_n 548 dL_law_547 rfl rfl ?_
  refine zF_iload 550 dL_law_548 rfl rfl ?_
  refine zF_iconst 551 dL_law_550 rfl ?_
  refine zF_iadd 552 dL_law_551 rfl ?_
  refine zF_sload 553 dL_law_552 rfl hX (by omega) (by omega) ?_
  refine zF_aload_n 554 dL_law_553 rfl rfl ?_
  refine zF_iload 556 dL_law_554 rfl rfl ?_
  refine zF_iconst 557 dL_law_556 rfl ?_
  refine zF_iadd 558 dL_law_557 rfl ?_
  refine zF_sload 559 dL_law_558 rfl hX (by omega) (by omega) ?_
  refine zF_aload_n 560 dL_law_559 rfl rfl ?_
  refine zF_callSH 563 (d2 := d + 39) (as := [zR (B0 0), zI (lx xs i 1), zI (lx xs i 2), zR 245]) (rest := []) dL_law_560 rfl kLH_film sL_film (by omega) rfl rfl (Nat.le_of_ble_eq_true rfl) ⟨zwO, zwR hs.bl, zwR hs.ml, zwR hs.ol, trivial, trivial⟩ trivial (zEH.mono (zl_film (d2 := d + 11) (by omega) hs.bk hs.bl hs.ol ((zt_X11_film hGd hs.cO hR gn.v gn.x (zrg_x _) (zrg_x _)).mono fun _ _ h => zop_cop h) (lQ_cop hs) (nI_cop (by repeat' (first | exact lk2_0 | exact lk2_1 | refine lk2_if ?_ ?_)))) fun ro σ1 hh => ?_)
  obtain ⟨er, ev, ⟨s1, b1⟩, c1, m1⟩ := lq_cop hn J hh
  subst er
  refine ⟨_, rfl, ?_⟩
  show zF G _ _ _ _ [zI _] σ1 _
  refine zF_istore 565 (ls' := (5, zI _) :: lLs i) dL_law_563 rfl (by decide) rfl ?_
  have hN1 := m1.1.1.1
  refine zF_aload_n 566 dL_law_565 rfl rfl ?_
  refine zF_aload_n 567 dL_law_566 rfl rfl ?_
  refine zF_iload 569 dL_law_567 rfl rfl ?_
  refine zF_iconst 570 dL_law_569 rfl ?_
  refine zF_iadd 571 dL_law_570 rfl ?_
  refine zF_sload 572 dL_law_571 rfl hX (by omega) (by omega) ?_
  refine zF_aload_n 573 dL_law_572 rfl rfl ?_
  refine zF_iload 575 dL_law_573 rfl rfl ?_
  refine zF_iconst 576 dL_law_575 rfl ?_
  refine zF_iadd 577 dL_law_576 rfl ?_
  refine zF_sload 578 dL_law_577 rfl hX (by omega) (by omega) ?_
  refine zF_callV 581 (d2 := d + 12) (as := [zI (lx xs i 1), zI (lx xs i 2)]) dL_law_578 rfl kLX12_film iX12_film (ci := 12) rfl eX12_film (by omega) s1.zMo.1 s1.zMo.2.1 rfl rfl (Nat.le_of_ble_eq_true rfl) (zE.mono (zt_X12_film s1.zMo hN1 gn.v gn.w (zrg_x _) (zrg_x _)) fun r σ2 hh2 => ?_)
  obtain ⟨x, er2, en, e5, ex, eo, ⟨s2, b2⟩, c2, m2⟩ := lq_mop s1 b1 hv c1 m1 hh2
  subst er2
  rw [← eo] at ev
  refine ⟨en, ?_⟩
  show zF G _ _ _ _ [zI x] σ2 _
  refine zF_istore 583 (ls' := (6, zI x) :: (5, zI _) :: lLs i) dL_law_581 rfl (by decide) rfl ?_
  refine lw_tail 583 dL_law_583 dL_law_584 dL_law_587 dL_law_589 dL_law_594 dL_law_596 dL_law_599 dL_law_600 dL_law_601 dL_law_602 dL_law_604 dL_law_605 dL_law_606 dL_law_611 (by decide) (by repeat' (first | exact lk3_0 | exact lk3_1 | exact lk3_2 | refine lk3_if ?_ ?_)) (lkc_1 (by repeat' (first | exact lk2_0 | exact lk2_1 | refine lk2_if ?_ ?_))) e5 ev ex s2 ?_
  exact K σ2 ⟨S, Sn, sf, cc, ep, t, l, vv, cap, ⟨s2, b2, hv⟩, ⟨hD.up (by push_cast; omega), hT, hL⟩, c2, m2⟩
theorem lw_term (hg : lGd G L xs) (i0 : 0 ≤ i) (i6 : i + 6 ≤ (L : Int)) (hn : n < 512) (J : lI n σ) (K : ∀ σ1, lI (n + 1) σ1 → zF G mL_law (d + 40) 2286 (lLs i) [] σ1 Q) : zF G mL_law (d + 40) 614 (lLs i) [] σ Q := by
  obtain ⟨S, Sn, sf, cc, ep, t, l, vv, cap, J⟩ := J
  obtain ⟨⟨hs, hb, hv⟩, ⟨hD, hT, hL⟩, hc, hm⟩ := id J
  obtain ⟨hGd, hG, hOD, hOP, hX, hNx⟩ := hg
  have gn := hD.gn
  have hR := hc.1.1.1
  show zF G mL_law (d + 40) 614 [(0, zR (zbg + 500)), (1, zR (B0 0)), (2, zR 228), (3, zR 245), (4, zI i)] [] σ _
  refine zF_aload_n 615 dL_law_614 rfl rfl ?_
  refine zF_aload_n 616 dL_law_615 rfl rfl ?_
  refine zF_iload 618 dL_law_616 rfl rfl ?_
  refine zF_iconst 619 dL_law_618 rfl ?_
  refine zF_iadd 620 dL_law_619 rfl ?_
  refine zF_sload 621 dL_law_620 rfl hX (by omega) (by omega) ?_
  refine zF_aload_n 622 dL_law_621 rfl rfl ?_
  refine zF_iload 624 dL_law_622 rfl rfl ?_
  refine zF_iconst 625 dL_law_624 rfl ?_
  refine zF_iadd 626 dL_law_625 rfl ?_
  refine zF_sload 627 dL_law_626 rfl hX (by omega) (by omega) ?_
  refine zF_aload_n 628 dL_law_627 rfl rfl ?_
  refine zF_callSH 631 (d2 := d + 39) (as := [zR (B0 0), zI (lx xs i 1), zI (lx xs i 2), zR 245]) (rest := []) dL_law_628 rfl kLH_term sL_term (by omega) rfl rfl (Nat.le_of_ble_eq_true rfl) ⟨zwO, zwR hs.bl, zwR hs.ml, zwR hs.ol, trivial, trivial⟩ trivial (zEH.mono (zl_term (d2 := d + 11) (by omega) hs.bk hs.bl hs.ol ((zt_X11_term hGd hs.cO hR gn.v (zrg_x _) (zrg_x _)).mono fun _ _ h => zop_cop h) (lQ_cop hs) (nI_cop (by repeat' (first | exact lk2_0 | exact lk2_1 | refine lk2_if ?_ ?_)))) fun ro σ1 hh => ?_)
  obtain ⟨er, ev, ⟨s1, b1⟩, c1, m1⟩ := lq_cop hn J hh
  subst er
  refine ⟨_, rfl, ?_⟩
  show zF G _ _ _ _ [zI _] σ1 _
  refine zF_istore 633 (ls' := (5, zI _) :: lLs i) dL_law_631 rfl (by decide) rfl ?_
  have hN1 := m1.1.1.1
  refine zF_aload_n 634 dL_law_633 rfl rfl ?_
  refine zF_aload_n 635 dL_law_634 rfl rfl ?_
  refine zF_iload 637 dL_law_635 rfl rfl ?_
  refine zF_iconst 638 dL_law_637 rfl ?_
  refine zF_iadd 639 dL_law_638 rfl ?_
  refine zF_sload 640 dL_law_639 rfl hX (by omega) (by omega) ?_
  refine zF_aload_n 641 dL_law_640 rfl rfl ?_
  refine zF_iload 643 dL_law_641 rfl rfl ?_
  refine zF_iconst 644 dL_law_643 rfl ?_
  refine zF_iadd 645 dL_law_644 rfl ?_
  refine zF_sload 646 dL_law_645 rfl hX (by omega) (by omega) ?_
  refine zF_callV 649 (d2 := d + 12) (as := [zI (lx xs i 1), zI (lx xs i 2)]) dL_law_646 rfl kLX12_term iX12_term (ci := 12) rfl eX12_term (by omega) s1.zMo.1 s1.zMo.2.1 rfl rfl (Nat.le_of_ble_eq_true rfl) (zE.mono (zt_X12_term s1.zMo hN1 gn.v (zrg_x _) (zrg_x _)) fun r σ2 hh2 => ?_)
  obtain ⟨x, er2, en, e5, ex, eo, ⟨s2, b2⟩, c2, m2⟩ := lq_mop s1 b1 hv c1 m1 hh2
  subst er2
  rw [← eo] at ev
  refine ⟨en, ?_⟩
  show zF G _ _ _ _ [zI x] σ2 _
  refine zF_istore 651 (ls' := (6, zI x) :: (5, zI _) :: lLs i) dL_law_649 rfl (by decide) rfl ?_
  refine lw_tail 651 dL_law_651 dL_law_652 dL_law_655 dL_law_657 dL_law_662 dL_law_664 dL_law_667 dL_law_668 dL_law_669 dL_law_670 dL_law_672 dL_law_673 dL_law_674 dL_law_679 (by decide) (by repeat' (first | exact lk3_0 | exact lk3_1 | exact lk3_2 | refine lk3_if ?_ ?_)) (lkc_1 (by repeat' (first | exact lk2_0 | exact lk2_1 | refine lk2_if ?_ ?_))) e5 ev ex s2 ?_
  exact K σ2 ⟨S, Sn, sf, cc, ep, t, l, vv, cap, ⟨s2, b2, hv⟩, ⟨hD.up (by push_cast; omega), hT, hL⟩, c2, m2⟩
theorem lw_prints (hg : lGd G L xs) (i0 : 0 ≤ i) (i6 : i + 6 ≤ (L : Int)) (hn : n < 512) (J : lI n σ) (K : ∀ σ1, lI (n + 1) σ1 → zF G mL_law (d + 40) 2286 (lLs i) [] σ1 Q) : zF G mL_law (d + 40) 682 (lLs i) [] σ Q := by
  obtain ⟨S, Sn, sf, cc, ep, t, l, vv, cap, J⟩ := J
  obtain ⟨⟨hs, hb, hv⟩, ⟨hD, hT, hL⟩, hc, hm⟩ := id J
  obtain ⟨hGd, hG, hOD, hOP, hX, hNx⟩ := hg
  have gn := hD.gn
  have hR := hc.1.1.1
  show zF G mL_law (d + 40) 682 [(0, zR (zbg + 500)), (1, zR (B0 0)), (2, zR 228), (3, zR 245), (4, zI i)] [] σ _
  refine zF_aload_n 683 dL_law_682 rfl rfl ?_
  refine zF_aload_n 684 dL_law_683 rfl rfl ?_
  refine zF_iload 686 dL_law_684 rfl rfl ?_
  refine zF_iconst 687 dL_law_686 rfl ?_
  refine zF_iadd 688 dL_law_687 rfl ?_
  refine zF_sload 689 dL_law_688 rfl hX (by omega) (by omega) ?_
  refine zF_aload_n 690 dL_law_689 rfl rfl ?_
  refine zF_iload 692 dL_law_690 rfl rfl ?_
  refine zF_iconst 693 dL_law_692 rfl ?_
  refine zF_iadd 694 dL_law_693 rfl ?_
  refine zF_sload 695 dL_law_694 rfl hX (by omega) (by omega) ?_
  refine zF_aload_n 696 dL_law_695 rfl rfl ?_
  refine zF_callSH 699 (d2 := d + 39) (as := [zR (B0 0), zI (lx xs i 1), zI (lx xs i 2), zR 245]) (rest := []) dL_law_696 rfl kLH_prints sL_prints (by omega) rfl rfl (Nat.le_of_ble_eq_true rfl) ⟨zwO, zwR hs.bl, zwR hs.ml, zwR hs.ol, trivial, trivial⟩ trivial (zEH.mono (zl_prints (d2 := d + 11) (by omega) hs.bk hs.bl hs.ol ((zt_X11_prints hGd hs.cO hR gn.v (zrg_x _) (zrg_x _)).mono fun _ _ h => zop_cop h) (lQ_cop hs) (nI_cop (by repeat' (first | exact lk2_0 | exact lk2_1 | refine lk2_if ?_ ?_)))) fun ro σ1 hh => ?_)
  obtain ⟨er, ev, ⟨s1, b1⟩, c1, m1⟩ := lq_cop hn J hh
  subst er
  refine ⟨_, rfl, ?_⟩
  show zF G _ _ _ _ [zI _] σ1 _
  refine zF_istore 701 (ls' := (5, zI _) :: lLs i) dL_law_699 rfl (by decide) rfl ?_
  have hN1 := m1.1.1.1
  refine zF_aload_n 702 dL_law_701 rfl rfl ?_
  refine zF_aload_n 703 dL_law_702 rfl rfl ?_
  refine zF_iload 705 dL_law_703 rfl rfl ?_
  refine zF_iconst 706 dL_law_705 rfl ?_
  refine zF_iadd 707 dL_law_706 rfl ?_
  refine zF_sload 708 dL_law_707 rfl hX (by omega) (by omega) ?_
  refine zF_aload_n 709 dL_law_708 rfl rfl ?_
  refine zF_iload 711 dL_law_709 rfl rfl ?_
  refine zF_iconst 712 dL_law_711 rfl ?_
  refine zF_iadd 713 dL_law_712 rfl ?_
  refine zF_sload 714 dL_law_713 rfl hX (by omega) (by omega) ?_
  refine zF_callV 717 (d2 := d + 12) (as := [zI (lx xs i 1), zI (lx xs i 2)]) dL_law_714 rfl kLX12_prints iX12_prints (ci := 12) rfl eX12_prints (by omega) s1.zMo.1 s1.zMo.2.1 rfl rfl (Nat.le_of_ble_eq_true rfl) (zE.mono (zt_X12_prints s1.zMo hN1 gn.v (zrg_x _) (zrg_x _)) fun r σ2 hh2 => ?_)
  obtain ⟨x, er2, en, e5, ex, eo, ⟨s2, b2⟩, c2, m2⟩ := lq_mop s1 b1 hv c1 m1 hh2
  subst er2
  rw [← eo] at ev
  refine ⟨en, ?_⟩
  show zF G _ _ _ _ [zI x] σ2 _
  refine zF_istore 719 (ls' := (6, zI x) :: (5, zI _) :: lLs i) dL_law_717 rfl (by decide) rfl ?_
  refine lw_tail 719 dL_law_719 dL_law_720 dL_law_723 dL_law_725 dL_law_730 dL_law_732 dL_law_735 dL_law_736 dL_law_737 dL_law_738 dL_law_740 dL_law_741 dL_law_742 dL_law_747 (by decide) (by repeat' (first | exact lk3_0 | exact lk3_1 | exact lk3_2 | refine lk3_if ?_ ?_)) (lkc_1 (by repeat' (first | exact lk2_0 | exact lk2_1 | refine lk2_if ?_ ?_))) e5 ev ex s2 ?_
  exact K σ2 ⟨S, Sn, sf, cc, ep, t, l, vv, cap, ⟨s2, b2, hv⟩, ⟨hD.up (by push_cast; omega), hT, hL⟩, c2, m2⟩
theorem lw_shown (hg : lGd G L xs) (i0 : 0 ≤ i) (i6 : i + 6 ≤ (L : Int)) (hn : n < 512) (J : lI n σ) (K : ∀ σ1, lI (n + 1) σ1 → zF G mL_law (d + 40) 2286 (lLs i) [] σ1 Q) : zF G mL_law (d + 40) 750 (lLs i) [] σ Q := by
  obtain ⟨S, Sn, sf, cc, ep, t, l, vv, cap, J⟩ := J
  obtain ⟨⟨hs, hb, hv⟩, ⟨hD, hT, hL⟩, hc, hm⟩ := id J
  obtain ⟨hGd, hG, hOD, hOP, hX, hNx⟩ := hg
  have gn := hD.gn
  have hR := hc.1.1.1
  show zF G mL_law (d + 40) 750 [(0, zR (zbg + 500)), (1, zR (B0 0)), (2, zR 228), (3, zR 245), (4, zI i)] [] σ _
  refine zF_aload_n 751 dL_law_750 rfl rfl ?_
  refine zF_aload_n 752 dL_law_751 rfl rfl ?_
  refine zF_iload 754 dL_law_752 rfl rfl ?_
  refine zF_iconst 755 dL_law_754 rfl ?_
  refine zF_iadd 756 dL_law_755 rfl ?_
  refine zF_sload 757 dL_law_756 rfl hX (by omega) (by omega) ?_
  refine zF_aload_n 758 dL_law_757 rfl rfl ?_
  refine zF_iload 760 dL_law_758 rfl rfl ?_
  refine zF_iconst 761 dL_law_760 rfl ?_
  refine zF_iadd 762 dL_law_761 rfl ?_
  refine zF_sload 763 dL_law_762 rfl hX (by omega) (by omega) ?_
  refine zF_aload_n 764 dL_law_763 rfl rfl ?_
  refine zF_callSH 767 (d2 := d + 39) (as := [zR (B0 0), zI (lx xs i 1), zI (lx xs i 2), zR 245]) (rest := []) dL_law_764 rfl kLH_shown sL_shown (by omega) rfl rfl (Nat.le_of_ble_eq_true rfl) ⟨zwO, zwR hs.bl, zwR hs.ml, zwR hs.ol, trivial, trivial⟩ trivial (zEH.mono (zl_shown (d2 := d + 11) (by omega) hs.bk hs.bl hs.ol ((zt_X11_shown hGd hs.cO hR gn.v gn.x (zrg_x _) (zrg_x _)).mono fun _ _ h => zop_cop h) (lQ_cop hs) hNx) fun ro σ1 hh => ?_)
  obtain ⟨er, ev, ⟨s1, b1⟩, c1, m1⟩ := lq_cop hn J hh
  subst er
  refine ⟨_, rfl, ?_⟩
  show zF G _ _ _ _ [zI _] σ1 _
  refine zF_istore 769 (ls' := (5, zI _) :: lLs i) dL_law_767 rfl (by decide) rfl ?_
  have hN1 := m1.1.1.1
  refine zF_aload_n 770 dL_law_769 rfl rfl ?_
  refine zF_aload_n 771 dL_law_770 rfl rfl ?_
  refine zF_iload 773 dL_law_771 rfl rfl ?_
  refine zF_iconst 774 dL_law_773 rfl ?_
  refine zF_iadd 775 dL_law_774 rfl ?_
  refine zF_sload 776 dL_law_775 rfl hX (by omega) (by omega) ?_
  refine zF_aload_n 777 dL_law_776 rfl rfl ?_
  refine zF_iload 779 dL_law_777 rfl rfl ?_
  refine zF_iconst 780 dL_law_779 rfl ?_
  refine zF_iadd 781 dL_law_780 rfl ?_
  refine zF_sload 782 dL_law_781 rfl hX (by omega) (by omega) ?_
  refine zF_callV 785 (d2 := d + 12) (as := [zI (lx xs i 1), zI (lx xs i 2)]) dL_law_782 rfl kLX12_shown iX12_shown (ci := 12) rfl eX12_shown (by omega) s1.zMo.1 s1.zMo.2.1 rfl rfl (Nat.le_of_ble_eq_true rfl) (zE.mono (zt_X12_shown s1.zMo hN1 gn.v (zrg_x _) (zrg_x _)) fun r σ2 hh2 => ?_)
  obtain ⟨x, er2, en, e5, ex, eo, ⟨s2, b2⟩, c2, m2⟩ := lq_mop s1 b1 hv c1 m1 hh2
  subst er2
  rw [← eo] at ev
  refine ⟨en, ?_⟩
  show zF G _ _ _ _ [zI x] σ2 _
  refine zF_istore 787 (ls' := (6, zI x) :: (5, zI _) :: lLs i) dL_law_785 rfl (by decide) rfl ?_
  refine lw_tail 787 dL_law_787 dL_law_788 dL_law_791 dL_law_793 dL_law_798 dL_law_800 dL_law_803 dL_law_804 dL_law_805 dL_law_806 dL_law_808 dL_law_809 dL_law_810 dL_law_815 (by decide) (by repeat' (first | exact lk3_0 | exact lk3_1 | exact lk3_2 | refine lk3_if ?_ ?_)) (lkc_2 _) e5 ev ex s2 ?_
  exact K σ2 ⟨S, Sn, sf, cc, ep, t, l, vv, cap, ⟨s2, b2, hv⟩, ⟨hD.up (by push_cast; omega), hT, hL⟩, c2, m2⟩
theorem lw_visitors (hg : lGd G L xs) (i0 : 0 ≤ i) (i6 : i + 6 ≤ (L : Int)) (hn : n < 512) (J : lI n σ) (K : ∀ σ1, lI (n + 1) σ1 → zF G mL_law (d + 40) 2286 (lLs i) [] σ1 Q) : zF G mL_law (d + 40) 818 (lLs i) [] σ Q := by
  obtain ⟨S, Sn, sf, cc, ep, t, l, vv, cap, J⟩ := J
  obtain ⟨⟨hs, hb, hv⟩, ⟨hD, hT, hL⟩, hc, hm⟩ := id J
  obtain ⟨hGd, hG, hOD, hOP, hX, hNx⟩ := hg
  have gn := hD.gn
  have hR := hc.1.1.1
  show zF G mL_law (d + 40) 818 [(0, zR (zbg + 500)), (1, zR (B0 0)), (2, zR 228), (3, zR 245), (4, zI i)] [] σ _
  refine zF_aload_n 819 dL_law_818 rfl rfl ?_
  refine zF_aload_n 820 dL_law_819 rfl rfl ?_
  refine zF_iload 822 dL_law_820 rfl rfl ?_
  refine zF_iconst 823 dL_law_822 rfl ?_
  refine zF_iadd 824 dL_law_823 rfl ?_
  refine zF_sload 825 dL_law_824 rfl hX (by omega) (by omega) ?_
  refine zF_aload_n 826 dL_law_825 rfl rfl ?_
  refine zF_iload 828 dL_law_826 rfl rfl ?_
  refine zF_iconst 829 dL_law_828 rfl ?_
  refine zF_iadd 830 dL_law_829 rfl ?_
  refine zF_sload 831 dL_law_830 rfl hX (by omega) (by omega) ?_
  refine zF_aload_n 832 dL_law_831 rfl rfl ?_
  refine zF_callSH 835 (d2 := d + 39) (as := [zR (B0 0), zI (lx xs i 1), zI (lx xs i 2), zR 245]) (rest := []) dL_law_832 rfl kLH_visitors sL_visitors (by omega) rfl rfl (Nat.le_of_ble_eq_true rfl) ⟨zwO, zwR hs.bl, zwR hs.ml, zwR hs.ol, trivial, trivial⟩ trivial (zEH.mono (zl_visitors (d2 := d + 11) (by omega) hs.bk hs.bl hs.ol ((zt_X11_visitors hGd hs.cO hR gn.v (zrg_x _) (zrg_x _)).mono fun _ _ h => zop_cop h) (lQ_cop hs) hNx) fun ro σ1 hh => ?_)
  obtain ⟨er, ev, ⟨s1, b1⟩, c1, m1⟩ := lq_cop hn J hh
  subst er
  refine ⟨_, rfl, ?_⟩
  show zF G _ _ _ _ [zI _] σ1 _
  refine zF_istore 837 (ls' := (5, zI _) :: lLs i) dL_law_835 rfl (by decide) rfl ?_
  have hN1 := m1.1.1.1
  refine zF_aload_n 838 dL_law_837 rfl rfl ?_
  refine zF_aload_n 839 dL_law_838 rfl rfl ?_
  refine zF_iload 841 dL_law_839 rfl rfl ?_
  refine zF_iconst 842 dL_law_841 rfl ?_
  refine zF_iadd 843 dL_law_842 rfl ?_
  refine zF_sload 844 dL_law_843 rfl hX (by omega) (by omega) ?_
  refine zF_aload_n 845 dL_law_844 rfl rfl ?_
  refine zF_iload 847 dL_law_845 rfl rfl ?_
  refine zF_iconst 848 dL_law_847 rfl ?_
  refine zF_iadd 849 dL_law_848 rfl ?_
  refine zF_sload 850 dL_law_849 rfl hX (by omega) (by omega) ?_
  refine zF_callV 853 (d2 := d + 12) (as := [zI (lx xs i 1), zI (lx xs i 2)]) dL_law_850 rfl kLX12_visitors iX12_visitors (ci := 12) rfl eX12_visitors (by omega) s1.zMo.1 s1.zMo.2.1 rfl rfl (Nat.le_of_ble_eq_true rfl) (zE.mono (zt_X12_visitors s1.zMo hN1 gn.v gn.w (zrg_x _) (zrg_x _)) fun r σ2 hh2 => ?_)
  obtain ⟨x, er2, en, e5, ex, eo, ⟨s2, b2⟩, c2, m2⟩ := lq_mop s1 b1 hv c1 m1 hh2
  subst er2
  rw [← eo] at ev
  refine ⟨en, ?_⟩
  show zF G _ _ _ _ [zI x] σ2 _
  refine zF_istore 855 (ls' := (6, zI x) :: (5, zI _) :: lLs i) dL_law_853 rfl (by decide) rfl ?_
  refine lw_tail 855 dL_law_855 dL_law_856 dL_law_859 dL_law_861 dL_law_866 dL_law_868 dL_law_871 dL_law_872 dL_law_873 dL_law_874 dL_law_876 dL_law_877 dL_law_878 dL_law_883 (by decide) (by repeat' (first | exact lk3_0 | exact lk3_1 | exact lk3_2 | refine lk3_if ?_ ?_)) (lkc_2 _) e5 ev ex s2 ?_
  exact K σ2 ⟨S, Sn, sf, cc, ep, t, l, vv, cap, ⟨s2, b2, hv⟩, ⟨hD.up (by push_cast; omega), hT, hL⟩, c2, m2⟩
theorem lw_share (hg : lGd G L xs) (i0 : 0 ≤ i) (i6 : i + 6 ≤ (L : Int)) (hn : n < 512) (J : lI n σ) (K : ∀ σ1, lI (n + 1) σ1 → zF G mL_law (d + 40) 2286 (lLs i) [] σ1 Q) : zF G mL_law (d + 40) 886 (lLs i) [] σ Q := by
  obtain ⟨S, Sn, sf, cc, ep, t, l, vv, cap, J⟩ := J
  obtain ⟨⟨hs, hb, hv⟩, ⟨hD, hT, hL⟩, hc, hm⟩ := id J
  obtain ⟨hGd, hG, hOD, hOP, hX, hNx⟩ := hg
  have gn := hD.gn
  have hR := hc.1.1.1
  show zF G mL_law (d + 40) 886 [(0, zR (zbg + 500)), (1, zR (B0 0)), (2, zR 228), (3, zR 245), (4, zI i)] [] σ _
  refine zF_aload_n 887 dL_law_886 rfl rfl ?_
  refine zF_aload_n 888 dL_law_887 rfl rfl ?_
  refine zF_iload 890 dL_law_888 rfl rfl ?_
  refine zF_iconst 891 dL_law_890 rfl ?_
  refine zF_iadd 892 dL_law_891 rfl ?_
  refine zF_sload 893 dL_law_892 rfl hX (by omega) (by omega) ?_
  refine zF_aload_n 894 dL_law_893 rfl rfl ?_
  refine zF_iload 896 dL_law_894 rfl rfl ?_
  refine zF_iconst 897 dL_law_896 rfl ?_
  refine zF_iadd 898 dL_law_897 rfl ?_
  refine zF_sload 899 dL_law_898 rfl hX (by omega) (by omega) ?_
  refine zF_aload_n 900 dL_law_899 rfl rfl ?_
  refine zF_callSH 903 (d2 := d + 39) (as := [zR (B0 0), zI (lx xs i 1), zI (lx xs i 2), zR 245]) (rest := []) dL_law_900 rfl kLH_share sL_share (by omega) rfl rfl (Nat.le_of_ble_eq_true rfl) ⟨zwO, zwR hs.bl, zwR hs.ml, zwR hs.ol, trivial, trivial⟩ trivial (zEH.mono (zl_share (d2 := d + 11) (by omega) hs.bk hs.bl hs.ol ((zt_X11_share hGd hs.cO hR gn.v gn.x (zrg_x _) (zrg_x _)).mono fun _ _ h => zop_cop h) (lQ_cop hs) (nI_cop (by repeat' (first | exact lk2_0 | exact lk2_1 | refine lk2_if ?_ ?_)))) fun ro σ1 hh => ?_)
  obtain ⟨er, ev, ⟨s1, b1⟩, c1, m1⟩ := lq_cop hn J hh
  subst er
  refine ⟨_, rfl, ?_⟩
  show zF G _ _ _ _ [zI _] σ1 _
  refine zF_istore 905 (ls' := (5, zI _) :: lLs i) dL_law_903 rfl (by decide) rfl ?_
  have hN1 := m1.1.1.1
  refine zF_aload_n 906 dL_law_905 rfl rfl ?_
  refine zF_aload_n 907 dL_law_906 rfl rfl ?_
  refine zF_iload 909 dL_law_907 rfl rfl ?_
  refine zF_iconst 910 dL_law_909 rfl ?_
  refine zF_iadd 911 dL_law_910 rfl ?_
  refine zF_sload 912 dL_law_911 rfl hX (by omega) (by omega) ?_
  refine zF_aload_n 913 dL_law_912 rfl rfl ?_
  refine zF_iload 915 dL_law_913 rfl rfl ?_
  refine zF_iconst 916 dL_law_915 rfl ?_
  refine zF_iadd 917 dL_law_916 rfl ?_
  refine zF_sload 918 dL_law_917 rfl hX (by omega) (by omega) ?_
  refine zF_callV 921 (d2 := d + 12) (as := [zI (lx xs i 1), zI (lx xs i 2)]) dL_law_918 rfl kLX12_share iX12_share (ci := 12) rfl eX12_share (by omega) s1.zMo.1 s1.zMo.2.1 rfl rfl (Nat.le_of_ble_eq_true rfl) (zE.mono (zt_X12_share s1.zMo hN1 gn.v gn.w (zrg_x _) (zrg_x _)) fun r σ2 hh2 => ?_)
  obtain ⟨x, er2, en, e5, ex, eo, ⟨s2, b2⟩, c2, m2⟩ := lq_mop s1 b1 hv c1 m1 hh2
  subst er2
  rw [← eo] at ev
  refine ⟨en, ?_⟩
  show zF G _ _ _ _ [zI x] σ2 _
  refine zF_istore 923 (ls' := (6, zI x) :: (5, zI _) :: lLs i) dL_law_921 rfl (by decide) rfl ?_
  refine lw_tail 923 dL_law_923 dL_law_924 dL_law_927 dL_law_929 dL_law_934 dL_law_936 dL_law_939 dL_law_940 dL_law_941 dL_law_942 dL_law_944 dL_law_945 dL_law_946 dL_law_951 (by decide) (by repeat' (first | exact lk3_0 | exact lk3_1 | exact lk3_2 | refine lk3_if ?_ ?_)) (lkc_1 (by repeat' (first | exact lk2_0 | exact lk2_1 | refine lk2_if ?_ ?_))) e5 ev ex s2 ?_
  exact K σ2 ⟨S, Sn, sf, cc, ep, t, l, vv, cap, ⟨s2, b2, hv⟩, ⟨hD.up (by push_cast; omega), hT, hL⟩, c2, m2⟩
theorem lw_run (hg : lGd G L xs) (i0 : 0 ≤ i) (i6 : i + 6 ≤ (L : Int)) (hn : n < 512) (J : lI n σ) (K : ∀ σ1, lI (n + 1) σ1 → zF G mL_law (d + 40) 2286 (lLs i) [] σ1 Q) : zF G mL_law (d + 40) 954 (lLs i) [] σ Q := by
  obtain ⟨S, Sn, sf, cc, ep, t, l, vv, cap, J⟩ := J
  obtain ⟨⟨hs, hb, hv⟩, ⟨hD, hT, hL⟩, hc, hm⟩ := id J
  obtain ⟨hGd, hG, hOD, hOP, hX, hNx⟩ := hg
  have gn := hD.gn
  have hR := hc.1.1.1
  show zF G mL_law (d + 40) 954 [(0, zR (zbg + 500)), (1, zR (B0 0)), (2, zR 228), (3, zR 245), (4, zI i)] [] σ _
  refine zF_aload_n 955 dL_law_954 rfl rfl ?_
  refine zF_aload_n 956 dL_law_955 rfl rfl ?_
  refine zF_iload 958 dL_law_956 rfl rfl ?_
  refine zF_iconst 959 dL_law_958 rfl ?_
  refine zF_iadd 960 dL_law_959 rfl ?_
  refine zF_sload 961 dL_law_960 rfl hX (by omega) (by omega) ?_
  refine zF_aload_n 962 dL_law_961 rfl rfl ?_
  refine zF_iload 964 dL_law_962 rfl rfl ?_
  refine zF_iconst 965 dL_law_964 rfl ?_
  refine zF_iadd 966 dL_law_965 rfl ?_
  refine zF_sload 967 dL_law_966 rfl hX (by omega) (by omega) ?_
  refine zF_aload_n 968 dL_law_967 rfl rfl ?_
  refine zF_callSH 971 (d2 := d + 39) (as := [zR (B0 0), zI (lx xs i 1), zI (lx xs i 2), zR 245]) (rest := []) dL_law_968 rfl kLH_run sL_run (by omega) rfl rfl (Nat.le_of_ble_eq_true rfl) ⟨zwO, zwR hs.bl, zwR hs.ml, zwR hs.ol, trivial, trivial⟩ trivial (zEH.mono (zl_run (d2 := d + 11) (by omega) hs.bk hs.bl hs.ol ((zt_X11_run hGd hs.cO hR gn.v (zrg_x _) (zrg_x _)).mono fun _ _ h => zop_cop h) (lQ_cop hs) (nI_cop (by repeat' (first | exact lk2_0 | exact lk2_1 | refine lk2_if ?_ ?_)))) fun ro σ1 hh => ?_)
  obtain ⟨er, ev, ⟨s1, b1⟩, c1, m1⟩ := lq_cop hn J hh
  subst er
  refine ⟨_, rfl, ?_⟩
  show zF G _ _ _ _ [zI _] σ1 _
  refine zF_istore 973 (ls' := (5, zI _) :: lLs i) dL_law_971 rfl (by decide) rfl ?_
  have hN1 := m1.1.1.1
  refine zF_aload_n 974 dL_law_973 rfl rfl ?_
  refine zF_aload_n 975 dL_law_974 rfl rfl ?_
  refine zF_iload 977 dL_law_975 rfl rfl ?_
  refine zF_iconst 978 dL_law_977 rfl ?_
  refine zF_iadd 979 dL_law_978 rfl ?_
  refine zF_sload 980 dL_law_979 rfl hX (by omega) (by omega) ?_
  refine zF_aload_n 981 dL_law_980 rfl rfl ?_
  refine zF_iload 983 dL_law_981 rfl rfl ?_
  refine zF_iconst 984 dL_law_983 rfl ?_
  refine zF_iadd 985 dL_law_984 rfl ?_
  refine zF_sload 986 dL_law_985 rfl hX (by omega) (by omega) ?_
  refine zF_callV 989 (d2 := d + 12) (as := [zI (lx xs i 1), zI (lx xs i 2)]) dL_law_986 rfl kLX12_run iX12_run (ci := 12) rfl eX12_run (by omega) s1.zMo.1 s1.zMo.2.1 rfl rfl (Nat.le_of_ble_eq_true rfl) (zE.mono (zt_X12_run s1.zMo hN1 gn.v (zrg_x _) (zrg_x _)) fun r σ2 hh2 => ?_)
  obtain ⟨x, er2, en, e5, ex, eo, ⟨s2, b2⟩, c2, m2⟩ := lq_mop s1 b1 hv c1 m1 hh2
  subst er2
  rw [← eo] at ev
  refine ⟨en, ?_⟩
  show zF G _ _ _ _ [zI x] σ2 _
  refine zF_istore 991 (ls' := (6, zI x) :: (5, zI _) :: lLs i) dL_law_989 rfl (by decide) rfl ?_
  refine lw_tail 991 dL_law_991 dL_law_992 dL_law_995 dL_law_997 dL_law_1002 dL_law_1004 dL_law_1007 dL_law_1008 dL_law_1009 dL_law_1010 dL_law_1012 dL_law_1013 dL_law_1014 dL_law_1019 (by decide) (by repeat' (first | exact lk3_0 | exact lk3_1 | exact lk3_2 | refine lk3_if ?_ ?_)) (lkc_1 (by repeat' (first | exact lk2_0 | exact lk2_1 | refine lk2_if ?_ ?_))) e5 ev ex s2 ?_
  exact K σ2 ⟨S, Sn, sf, cc, ep, t, l, vv, cap, ⟨s2, b2, hv⟩, ⟨hD.up (by push_cast; omega), hT, hL⟩, c2, m2⟩
theorem lw_wouldHold (hg : lGd G L xs) (i0 : 0 ≤ i) (i6 : i + 6 ≤ (L : Int)) (hn : n < 512) (J : lI n σ) (K : ∀ σ1, lI (n + 1) σ1 → zF G mL_law (d + 40) 2286 (lLs i) [] σ1 Q) : zF G mL_law (d + 40) 1022 (lLs i) [] σ Q := by
  obtain ⟨S, Sn, sf, cc, ep, t, l, vv, cap, J⟩ := J
  obtain ⟨⟨hs, hb, hv⟩, ⟨hD, hT, hL⟩, hc, hm⟩ := id J
  obtain ⟨hGd, hG, hOD, hOP, hX, hNx⟩ := hg
  have gn := hD.gn
  have hR := hc.1.1.1
  show zF G mL_law (d + 40) 1022 [(0, zR (zbg + 500)), (1, zR (B0 0)), (2, zR 228), (3, zR 245), (4, zI i)] [] σ _
  refine zF_aload_n 1023 dL_law_1022 rfl rfl ?_
  refine zF_aload_n 1024 dL_law_1023 rfl rfl ?_
  refine zF_iload 1026 dL_law_1024 rfl rfl ?_
  refine zF_iconst 1027 dL_law_1026 rfl ?_
  refine zF_iadd 1028 dL_law_1027 rfl ?_
  refine zF_sload 1029 dL_law_1028 rfl hX (by omega) (by omega) ?_
  refine zF_aload_n 1030 dL_law_1029 rfl rfl ?_
  refine zF_callSH 1033 (d2 := d + 39) (as := [zR (B0 0), zI (lx xs i 1), zR 245]) (rest := []) dL_law_1030 rfl kLH_wouldHold sL_wouldHold (by omega) rfl rfl (Nat.le_of_ble_eq_true rfl) ⟨zwO, zwR hs.bl, zwR hs.ml, zwR hs.ol, trivial, trivial⟩ trivial (zEH.mono (zl_wouldHold (d2 := d + 11) (by omega) hs.bk hs.bl hs.ol ((zt_X11_wouldHold hGd hs.cO hR gn.v gn.w gn.x gn.q (zrg_x _)).mono fun _ _ h => zop_cop h) (lQ_cop hs) (nI_cop (by repeat' (first | exact lk2_0 | exact lk2_1 | refine lk2_if ?_ ?_))) h01_cop) fun ro σ1 hh => ?_)
  obtain ⟨er, ev, ⟨s1, b1⟩, c1, m1⟩ := lq_cop hn J hh
  subst er
  refine ⟨_, rfl, ?_⟩
  show zF G _ _ _ _ [zI _] σ1 _
  refine zF_istore 1035 (ls' := (5, zI _) :: lLs i) dL_law_1033 rfl (by decide) rfl ?_
  have hN1 := m1.1.1.1
  refine zF_aload_n 1036 dL_law_1035 rfl rfl ?_
  refine zF_aload_n 1037 dL_law_1036 rfl rfl ?_
  refine zF_iload 1039 dL_law_1037 rfl rfl ?_
  refine zF_iconst 1040 dL_law_1039 rfl ?_
  refine zF_iadd 1041 dL_law_1040 rfl ?_
  refine zF_sload 1042 dL_law_1041 rfl hX (by omega) (by omega) ?_
  refine zF_callV 1045 (d2 := d + 12) (as := [zI (lx xs i 1)]) dL_law_1042 rfl kLX12_wouldHold iX12_wouldHold (ci := 12) rfl eX12_wouldHold (by omega) s1.zMo.1 s1.zMo.2.1 rfl rfl (Nat.le_of_ble_eq_true rfl) (zE.mono (zt_X12_wouldHold s1.zMo hN1 gn.v gn.w gn.x gn.q (zrg_x _)) fun r σ2 hh2 => ?_)
  obtain ⟨x, er2, en, e5, ex, eo, ⟨s2, b2⟩, c2, m2⟩ := lq_mop s1 b1 hv c1 m1 hh2
  subst er2
  rw [← eo] at ev
  refine ⟨en, ?_⟩
  show zF G _ _ _ _ [zI x] σ2 _
  refine zF_istore 1047 (ls' := (6, zI x) :: (5, zI _) :: lLs i) dL_law_1045 rfl (by decide) rfl ?_
  refine lw_tailB (by repeat' (first | exact lk3_0 | exact lk3_1 | exact lk3_2 | refine lk3_if ?_ ?_)) (lkc_1 (by repeat' (first | exact lk2_0 | exact lk2_1 | refine lk2_if ?_ ?_))) e5 ev ex s2 zb_01 ?_
  exact K σ2 ⟨S, Sn, sf, cc, ep, t, l, vv, cap, ⟨s2, b2, hv⟩, ⟨hD.up (by push_cast; omega), hT, hL⟩, c2, m2⟩
theorem lw_forecast (hg : lGd G L xs) (i0 : 0 ≤ i) (i6 : i + 6 ≤ (L : Int)) (hn : n < 512) (J : lI n σ) (K : ∀ σ1, lI (n + 1) σ1 → zF G mL_law (d + 40) 2286 (lLs i) [] σ1 Q) : zF G mL_law (d + 40) 1085 (lLs i) [] σ Q := by
  obtain ⟨S, Sn, sf, cc, ep, t, l, vv, cap, J⟩ := J
  obtain ⟨⟨hs, hb, hv⟩, ⟨hD, hT, hL⟩, hc, hm⟩ := id J
  obtain ⟨hGd, hG, hOD, hOP, hX, hNx⟩ := hg
  have gn := hD.gn
  have hR := hc.1.1.1
  show zF G mL_law (d + 40) 1085 [(0, zR (zbg + 500)), (1, zR (B0 0)), (2, zR 228), (3, zR 245), (4, zI i)] [] σ _
  refine zF_aload_n 1086 dL_law_1085 rfl rfl ?_
  refine zF_aload_n 1087 dL_law_1086 rfl rfl ?_
  refine zF_iload 1089 dL_law_1087 rfl rfl ?_
  refine zF_iconst 1090 dL_law_1089 rfl ?_
  refine zF_iadd 1091 dL_law_1090 rfl ?_
  refine zF_sload 1092 dL_law_1091 rfl hX (by omega) (by omega) ?_
  refine zF_aload_n 1093 dL_law_1092 rfl rfl ?_
  refine zF_iload 1095 dL_law_1093 rfl rfl ?_
  refine zF_iconst 1096 dL_law_1095 rfl ?_
  refine zF_iadd 1097 dL_law_1096 rfl ?_
  refine zF_sload 1098 dL_law_1097 rfl hX (by omega) (by omega) ?_
  refine zF_aload_n 1099 dL_law_1098 rfl rfl ?_
  refine zF_callSH 1102 (d2 := d + 39) (as := [zR (B0 0), zI (lx xs i 1), zI (lx xs i 2), zR 245]) (rest := []) dL_law_1099 rfl kLH_forecast sL_forecast (by omega) rfl rfl (Nat.le_of_ble_eq_true rfl) ⟨zwO, zwR hs.bl, zwR hs.ml, zwR hs.ol, trivial, trivial⟩ trivial (zEH.mono (zl_forecast (d2 := d + 11) (by omega) hs.bk hs.bl hs.ol ((zt_X11_forecast hGd hs.cO hR gn.v gn.w gn.x (zrg_x _) (zrg_x _)).mono fun _ _ h => zop_cop h) (lQ_cop hs) (nI_cop (by repeat' (first | exact lk2_0 | exact lk2_1 | refine lk2_if ?_ ?_)))) fun ro σ1 hh => ?_)
  obtain ⟨er, ev, ⟨s1, b1⟩, c1, m1⟩ := lq_cop hn J hh
  subst er
  refine ⟨_, rfl, ?_⟩
  show zF G _ _ _ _ [zI _] σ1 _
  refine zF_istore 1104 (ls' := (5, zI _) :: lLs i) dL_law_1102 rfl (by decide) rfl ?_
  have hN1 := m1.1.1.1
  refine zF_aload_n 1105 dL_law_1104 rfl rfl ?_
  refine zF_aload_n 1106 dL_law_1105 rfl rfl ?_
  refine zF_iload 1108 dL_law_1106 rfl rfl ?_
  refine zF_iconst 1109 dL_law_1108 rfl ?_
  refine zF_iadd 1110 dL_law_1109 rfl ?_
  refine zF_sload 1111 dL_law_1110 rfl hX (by omega) (by omega) ?_
  refine zF_aload_n 1112 dL_law_1111 rfl rfl ?_
  refine zF_iload 1114 dL_law_1112 rfl rfl ?_
  refine zF_iconst 1115 dL_law_1114 rfl ?_
  refine zF_iadd 1116 dL_law_1115 rfl ?_
  refine zF_sload 1117 dL_law_1116 rfl hX (by omega) (by omega) ?_
  refine zF_callV 1120 (d2 := d + 12) (as := [zI (lx xs i 1), zI (lx xs i 2)]) dL_law_1117 rfl kLX12_forecast iX12_forecast (ci := 12) rfl eX12_forecast (by omega) s1.zMo.1 s1.zMo.2.1 rfl rfl (Nat.le_of_ble_eq_true rfl) (zE.mono (zt_X12_forecast s1.zMo hN1 gn.v gn.w (zrg_x _) (zrg_x _)) fun r σ2 hh2 => ?_)
  obtain ⟨x, er2, en, e5, ex, eo, ⟨s2, b2⟩, c2, m2⟩ := lq_mop s1 b1 hv c1 m1 hh2
  subst er2
  rw [← eo] at ev
  refine ⟨en, ?_⟩
  show zF G _ _ _ _ [zI x] σ2 _
  refine zF_istore 1122 (ls' := (6, zI x) :: (5, zI _) :: lLs i) dL_law_1120 rfl (by decide) rfl ?_
  refine lw_tail 1122 dL_law_1122 dL_law_1123 dL_law_1126 dL_law_1128 dL_law_1133 dL_law_1135 dL_law_1138 dL_law_1139 dL_law_1140 dL_law_1141 dL_law_1143 dL_law_1144 dL_law_1145 dL_law_1150 (by decide) (by repeat' (first | exact lk3_0 | exact lk3_1 | exact lk3_2 | refine lk3_if ?_ ?_)) (lkc_1 (by repeat' (first | exact lk2_0 | exact lk2_1 | refine lk2_if ?_ ?_))) e5 ev ex s2 ?_
  exact K σ2 ⟨S, Sn, sf, cc, ep, t, l, vv, cap, ⟨s2, b2, hv⟩, ⟨hD.up (by push_cast; omega), hT, hL⟩, c2, m2⟩
theorem lw_chart (hg : lGd G L xs) (i0 : 0 ≤ i) (i6 : i + 6 ≤ (L : Int)) (hn : n < 512) (J : lI n σ) (K : ∀ σ1, lI (n + 1) σ1 → zF G mL_law (d + 40) 2286 (lLs i) [] σ1 Q) : zF G mL_law (d + 40) 1153 (lLs i) [] σ Q := by
  obtain ⟨S, Sn, sf, cc, ep, t, l, vv, cap, J⟩ := J
  obtain ⟨⟨hs, hb, hv⟩, ⟨hD, hT, hL⟩, hc, hm⟩ := id J
  obtain ⟨hGd, hG, hOD, hOP, hX, hNx⟩ := hg
  have gn := hD.gn
  have hR := hc.1.1.1
  show zF G mL_law (d + 40) 1153 [(0, zR (zbg + 500)), (1, zR (B0 0)), (2, zR 228), (3, zR 245), (4, zI i)] [] σ _
  refine zF_aload_n 1154 dL_law_1153 rfl rfl ?_
  refine zF_aload_n 1155 dL_law_1154 rfl rfl ?_
  refine zF_iload 1157 dL_law_1155 rfl rfl ?_
  refine zF_iconst 1158 dL_law_1157 rfl ?_
  refine zF_iadd 1159 dL_law_1158 rfl ?_
  refine zF_sload 1160 dL_law_1159 rfl hX (by omega) (by omega) ?_
  refine zF_aload_n 1161 dL_law_1160 rfl rfl ?_
  refine zF_callSH 1164 (d2 := d + 39) (as := [zR (B0 0), zI (lx xs i 1), zR 245]) (rest := []) dL_law_1161 rfl kLH_chart sL_chart (by omega) rfl rfl (Nat.le_of_ble_eq_true rfl) ⟨zwO, zwR hs.bl, zwR hs.ml, zwR hs.ol, trivial, trivial⟩ trivial (zEH.mono (zl_chart (d2 := d + 11) (by omega) hs.bk hs.bl hs.ol (zt_X11_chart hGd hs.cO hR gn.v gn.w gn.x gn.q (zrg_x _)) (lQ_cop hs) (nI_cop (by repeat' (first | exact lk2_0 | exact lk2_1 | refine lk2_if ?_ ?_)))) fun ro σ1 hh => ?_)
  obtain ⟨er, ev, ⟨s1, b1⟩, c1, m1⟩ := lq_cop hn J hh
  subst er
  refine ⟨_, rfl, ?_⟩
  show zF G _ _ _ _ [zI _] σ1 _
  refine zF_istore 1166 (ls' := (5, zI _) :: lLs i) dL_law_1164 rfl (by decide) rfl ?_
  have hN1 := m1.1.1.1
  refine zF_aload_n 1167 dL_law_1166 rfl rfl ?_
  refine zF_aload_n 1168 dL_law_1167 rfl rfl ?_
  refine zF_iload 1170 dL_law_1168 rfl rfl ?_
  refine zF_iconst 1171 dL_law_1170 rfl ?_
  refine zF_iadd 1172 dL_law_1171 rfl ?_
  refine zF_sload 1173 dL_law_1172 rfl hX (by omega) (by omega) ?_
  refine zF_callV 1176 (d2 := d + 12) (as := [zI (lx xs i 1)]) dL_law_1173 rfl kLX12_chart iX12_chart (ci := 12) rfl eX12_chart (by omega) s1.zMo.1 s1.zMo.2.1 rfl rfl (Nat.le_of_ble_eq_true rfl) (zE.mono (zt_X12_chart s1.zMo hN1 gn.v gn.w gn.x gn.q (zrg_x _)) fun r σ2 hh2 => ?_)
  obtain ⟨x, er2, en, e5, ex, eo, ⟨s2, b2⟩, c2, m2⟩ := lq_mop s1 b1 hv c1 m1 hh2
  subst er2
  rw [← eo] at ev
  refine ⟨en, ?_⟩
  show zF G _ _ _ _ [zI x] σ2 _
  refine zF_istore 1178 (ls' := (6, zI x) :: (5, zI _) :: lLs i) dL_law_1176 rfl (by decide) rfl ?_
  refine lw_tail 1178 dL_law_1178 dL_law_1179 dL_law_1182 dL_law_1184 dL_law_1189 dL_law_1191 dL_law_1194 dL_law_1195 dL_law_1196 dL_law_1197 dL_law_1199 dL_law_1200 dL_law_1201 dL_law_1206 (by decide) (by repeat' (first | exact lk3_0 | exact lk3_1 | exact lk3_2 | refine lk3_if ?_ ?_)) (lkc_1 (by repeat' (first | exact lk2_0 | exact lk2_1 | refine lk2_if ?_ ?_))) e5 ev ex s2 ?_
  exact K σ2 ⟨S, Sn, sf, cc, ep, t, l, vv, cap, ⟨s2, b2, hv⟩, ⟨hD.up (by push_cast; omega), hT, hL⟩, c2, m2⟩
theorem lw_bestGain (hg : lGd G L xs) (i0 : 0 ≤ i) (i6 : i + 6 ≤ (L : Int)) (hn : n < 512) (J : lI n σ) (K : ∀ σ1, lI (n + 1) σ1 → zF G mL_law (d + 40) 2286 (lLs i) [] σ1 Q) : zF G mL_law (d + 40) 1209 (lLs i) [] σ Q := by
  obtain ⟨S, Sn, sf, cc, ep, t, l, vv, cap, J⟩ := J
  obtain ⟨⟨hs, hb, hv⟩, ⟨hD, hT, hL⟩, hc, hm⟩ := id J
  obtain ⟨hGd, hG, hOD, hOP, hX, hNx⟩ := hg
  have gn := hD.gn
  have hR := hc.1.1.1
  show zF G mL_law (d + 40) 1209 [(0, zR (zbg + 500)), (1, zR (B0 0)), (2, zR 228), (3, zR 245), (4, zI i)] [] σ _
  refine zF_aload_n 1210 dL_law_1209 rfl rfl ?_
  refine zF_aload_n 1211 dL_law_1210 rfl rfl ?_
  refine zF_iload 1213 dL_law_1211 rfl rfl ?_
  refine zF_iconst 1214 dL_law_1213 rfl ?_
  refine zF_iadd 1215 dL_law_1214 rfl ?_
  refine zF_sload 1216 dL_law_1215 rfl hX (by omega) (by omega) ?_
  refine zF_aload_n 1217 dL_law_1216 rfl rfl ?_
  refine zF_callSH 1220 (d2 := d + 39) (as := [zR (B0 0), zI (lx xs i 1), zR 245]) (rest := []) dL_law_1217 rfl kLH_bestGain sL_bestGain (by omega) rfl rfl (Nat.le_of_ble_eq_true rfl) ⟨zwO, zwR hs.bl, zwR hs.ml, zwR hs.ol, trivial, trivial⟩ trivial (zEH.mono (zl_bestGain (d2 := d + 11) (by omega) hs.bk hs.bl hs.ol (zt_X11_bestGain hGd hs.cO hR gn.v hs.cPr hc.1.2.1 gn.q (zrg_x _)) (lQ_cop hs) (nI_cop (by repeat' (first | exact lk2_0 | exact lk2_1 | refine lk2_if ?_ ?_)))) fun ro σ1 hh => ?_)
  obtain ⟨er, ev, ⟨s1, b1⟩, c1, m1⟩ := lq_cop hn J hh
  subst er
  refine ⟨_, rfl, ?_⟩
  show zF G _ _ _ _ [zI _] σ1 _
  refine zF_istore 1222 (ls' := (5, zI _) :: lLs i) dL_law_1220 rfl (by decide) rfl ?_
  have hN1 := m1.1.1.1
  refine zF_aload_n 1223 dL_law_1222 rfl rfl ?_
  refine zF_aload_n 1224 dL_law_1223 rfl rfl ?_
  refine zF_iload 1226 dL_law_1224 rfl rfl ?_
  refine zF_iconst 1227 dL_law_1226 rfl ?_
  refine zF_iadd 1228 dL_law_1227 rfl ?_
  refine zF_sload 1229 dL_law_1228 rfl hX (by omega) (by omega) ?_
  refine zF_callV 1232 (d2 := d + 14) (as := [zI (lx xs i 1)]) dL_law_1229 rfl kLX12_bestGain iX12_bestGain (ci := 12) rfl eX12_bestGain (by omega) s1.zMo.1 s1.zMo.2.1 rfl rfl (Nat.le_of_ble_eq_true rfl) (zE.mono (zt_X12_bestGain s1.zMo hN1 gn.v gn.w gn.x gn.q (zrg_x _)) fun r σ2 hh2 => ?_)
  obtain ⟨x, er2, en, e5, ex, eo, ⟨s2, b2⟩, c2, m2⟩ := lq_mop s1 b1 hv c1 m1 hh2
  subst er2
  rw [← eo] at ev
  refine ⟨en, ?_⟩
  show zF G _ _ _ _ [zI x] σ2 _
  refine zF_istore 1234 (ls' := (6, zI x) :: (5, zI _) :: lLs i) dL_law_1232 rfl (by decide) rfl ?_
  refine lw_tail 1234 dL_law_1234 dL_law_1235 dL_law_1238 dL_law_1240 dL_law_1245 dL_law_1247 dL_law_1250 dL_law_1251 dL_law_1252 dL_law_1253 dL_law_1255 dL_law_1256 dL_law_1257 dL_law_1262 (by decide) (by repeat' (first | exact lk3_0 | exact lk3_1 | exact lk3_2 | refine lk3_if ?_ ?_)) (lkc_1 (by repeat' (first | exact lk2_0 | exact lk2_1 | refine lk2_if ?_ ?_))) e5 ev ex s2 ?_
  exact K σ2 ⟨S, Sn, sf, cc, ep, t, l, vv, cap, ⟨s2, b2, hv⟩, ⟨hD.up (by push_cast; omega), hT, hL⟩, c2, m2⟩
theorem lw_bestFilm (hg : lGd G L xs) (i0 : 0 ≤ i) (i6 : i + 6 ≤ (L : Int)) (hn : n < 512) (J : lI n σ) (K : ∀ σ1, lI (n + 1) σ1 → zF G mL_law (d + 40) 2286 (lLs i) [] σ1 Q) : zF G mL_law (d + 40) 1265 (lLs i) [] σ Q := by
  obtain ⟨S, Sn, sf, cc, ep, t, l, vv, cap, J⟩ := J
  obtain ⟨⟨hs, hb, hv⟩, ⟨hD, hT, hL⟩, hc, hm⟩ := id J
  obtain ⟨hGd, hG, hOD, hOP, hX, hNx⟩ := hg
  have gn := hD.gn
  have hR := hc.1.1.1
  show zF G mL_law (d + 40) 1265 [(0, zR (zbg + 500)), (1, zR (B0 0)), (2, zR 228), (3, zR 245), (4, zI i)] [] σ _
  refine zF_aload_n 1266 dL_law_1265 rfl rfl ?_
  refine zF_aload_n 1267 dL_law_1266 rfl rfl ?_
  refine zF_iload 1269 dL_law_1267 rfl rfl ?_
  refine zF_iconst 1270 dL_law_1269 rfl ?_
  refine zF_iadd 1271 dL_law_1270 rfl ?_
  refine zF_sload 1272 dL_law_1271 rfl hX (by omega) (by omega) ?_
  refine zF_aload_n 1273 dL_law_1272 rfl rfl ?_
  refine zF_callSH 1276 (d2 := d + 39) (as := [zR (B0 0), zI (lx xs i 1), zR 245]) (rest := []) dL_law_1273 rfl kLH_bestFilm sL_bestFilm (by omega) rfl rfl (Nat.le_of_ble_eq_true rfl) ⟨zwO, zwR hs.bl, zwR hs.ml, zwR hs.ol, trivial, trivial⟩ trivial (zEH.mono (zl_bestFilm (d2 := d + 11) (by omega) hs.bk hs.bl hs.ol (zt_X11_bestFilm hGd hs.cO hR gn.v hs.cPr hc.1.2.1 gn.w gn.q (zrg_x _)) (lQ_cop hs) (nI_cop (by repeat' (first | exact lk2_0 | exact lk2_1 | refine lk2_if ?_ ?_)))) fun ro σ1 hh => ?_)
  obtain ⟨er, ev, ⟨s1, b1⟩, c1, m1⟩ := lq_cop hn J hh
  subst er
  refine ⟨_, rfl, ?_⟩
  show zF G _ _ _ _ [zI _] σ1 _
  refine zF_istore 1278 (ls' := (5, zI _) :: lLs i) dL_law_1276 rfl (by decide) rfl ?_
  have hN1 := m1.1.1.1
  refine zF_aload_n 1279 dL_law_1278 rfl rfl ?_
  refine zF_aload_n 1280 dL_law_1279 rfl rfl ?_
  refine zF_iload 1282 dL_law_1280 rfl rfl ?_
  refine zF_iconst 1283 dL_law_1282 rfl ?_
  refine zF_iadd 1284 dL_law_1283 rfl ?_
  refine zF_sload 1285 dL_law_1284 rfl hX (by omega) (by omega) ?_
  refine zF_callV 1288 (d2 := d + 14) (as := [zI (lx xs i 1)]) dL_law_1285 rfl kLX12_bestFilm iX12_bestFilm (ci := 12) rfl eX12_bestFilm (by omega) s1.zMo.1 s1.zMo.2.1 rfl rfl (Nat.le_of_ble_eq_true rfl) (zE.mono (zt_X12_bestFilm s1.zMo hN1 gn.v gn.w gn.x gn.q (zrg_x _)) fun r σ2 hh2 => ?_)
  obtain ⟨x, er2, en, e5, ex, eo, ⟨s2, b2⟩, c2, m2⟩ := lq_mop s1 b1 hv c1 m1 hh2
  subst er2
  rw [← eo] at ev
  refine ⟨en, ?_⟩
  show zF G _ _ _ _ [zI x] σ2 _
  refine zF_istore 1290 (ls' := (6, zI x) :: (5, zI _) :: lLs i) dL_law_1288 rfl (by decide) rfl ?_
  refine lw_tail 1290 dL_law_1290 dL_law_1291 dL_law_1294 dL_law_1296 dL_law_1301 dL_law_1303 dL_law_1306 dL_law_1307 dL_law_1308 dL_law_1309 dL_law_1311 dL_law_1312 dL_law_1313 dL_law_1318 (by decide) (by repeat' (first | exact lk3_0 | exact lk3_1 | exact lk3_2 | refine lk3_if ?_ ?_)) (lkc_1 (by repeat' (first | exact lk2_0 | exact lk2_1 | refine lk2_if ?_ ?_))) e5 ev ex s2 ?_
  exact K σ2 ⟨S, Sn, sf, cc, ep, t, l, vv, cap, ⟨s2, b2, hv⟩, ⟨hD.up (by push_cast; omega), hT, hL⟩, c2, m2⟩
theorem lw_total (hg : lGd G L xs) (i0 : 0 ≤ i) (i6 : i + 6 ≤ (L : Int)) (hn : n < 512) (J : lI n σ) (K : ∀ σ1, lI (n + 1) σ1 → zF G mL_law (d + 40) 2286 (lLs i) [] σ1 Q) : zF G mL_law (d + 40) 1334 (lLs i) [] σ Q := by
  obtain ⟨S, Sn, sf, cc, ep, t, l, vv, cap, J⟩ := J
  obtain ⟨⟨hs, hb, hv⟩, ⟨hD, hT, hL⟩, hc, hm⟩ := id J
  obtain ⟨hGd, hG, hOD, hOP, hX, hNx⟩ := hg
  have gn := hD.gn
  have hR := hc.1.1.1
  show zF G mL_law (d + 40) 1334 [(0, zR (zbg + 500)), (1, zR (B0 0)), (2, zR 228), (3, zR 245), (4, zI i)] [] σ _
  refine zF_aload_n 1335 dL_law_1334 rfl rfl ?_
  refine zF_aload_n 1336 dL_law_1335 rfl rfl ?_
  refine zF_iload 1338 dL_law_1336 rfl rfl ?_
  refine zF_iconst 1339 dL_law_1338 rfl ?_
  refine zF_iadd 1340 dL_law_1339 rfl ?_
  refine zF_sload 1341 dL_law_1340 rfl hX (by omega) (by omega) ?_
  refine zF_aload_n 1342 dL_law_1341 rfl rfl ?_
  refine zF_callSH 1345 (d2 := d + 39) (as := [zR (B0 0), zI (lx xs i 1), zR 245]) (rest := []) dL_law_1342 rfl kLH_total sL_total (by omega) rfl rfl (Nat.le_of_ble_eq_true rfl) ⟨zwO, zwR hs.bl, zwR hs.ml, zwR hs.ol, trivial, trivial⟩ trivial (zEH.mono (zl_total (d2 := d + 11) (by omega) hs.bk hs.bl hs.ol ((zt_X11_total hGd hs.cO hR gn.v (zrg_x _)).mono fun _ _ h => zop_cop h) (lQ_cop hs) (nI_cop (by repeat' (first | exact lk2_0 | exact lk2_1 | refine lk2_if ?_ ?_)))) fun ro σ1 hh => ?_)
  obtain ⟨er, ev, ⟨s1, b1⟩, c1, m1⟩ := lq_cop hn J hh
  subst er
  refine ⟨_, rfl, ?_⟩
  show zF G _ _ _ _ [zI _] σ1 _
  refine zF_istore 1347 (ls' := (5, zI _) :: lLs i) dL_law_1345 rfl (by decide) rfl ?_
  have hN1 := m1.1.1.1
  refine zF_aload_n 1348 dL_law_1347 rfl rfl ?_
  refine zF_aload_n 1349 dL_law_1348 rfl rfl ?_
  refine zF_iload 1351 dL_law_1349 rfl rfl ?_
  refine zF_iconst 1352 dL_law_1351 rfl ?_
  refine zF_iadd 1353 dL_law_1352 rfl ?_
  refine zF_sload 1354 dL_law_1353 rfl hX (by omega) (by omega) ?_
  refine zF_callV 1357 (d2 := d + 12) (as := [zI (lx xs i 1)]) dL_law_1354 rfl kLX12_total iX12_total (ci := 12) rfl eX12_total (by omega) s1.zMo.1 s1.zMo.2.1 rfl rfl (Nat.le_of_ble_eq_true rfl) (zE.mono (zt_X12_total s1.zMo hN1 gn.v (zrg_x _)) fun r σ2 hh2 => ?_)
  obtain ⟨x, er2, en, e5, ex, eo, ⟨s2, b2⟩, c2, m2⟩ := lq_mop s1 b1 hv c1 m1 hh2
  subst er2
  rw [← eo] at ev
  refine ⟨en, ?_⟩
  show zF G _ _ _ _ [zI x] σ2 _
  refine zF_istore 1359 (ls' := (6, zI x) :: (5, zI _) :: lLs i) dL_law_1357 rfl (by decide) rfl ?_
  refine lw_tail 1359 dL_law_1359 dL_law_1360 dL_law_1363 dL_law_1365 dL_law_1370 dL_law_1372 dL_law_1375 dL_law_1376 dL_law_1377 dL_law_1378 dL_law_1380 dL_law_1381 dL_law_1382 dL_law_1387 (by decide) (by repeat' (first | exact lk3_0 | exact lk3_1 | exact lk3_2 | refine lk3_if ?_ ?_)) (lkc_1 (by repeat' (first | exact lk2_0 | exact lk2_1 | refine lk2_if ?_ ?_))) e5 ev ex s2 ?_
  exact K σ2 ⟨S, Sn, sf, cc, ep, t, l, vv, cap, ⟨s2, b2, hv⟩, ⟨hD.up (by push_cast; omega), hT, hL⟩, c2, m2⟩
theorem lw_closed (hg : lGd G L xs) (i0 : 0 ≤ i) (i6 : i + 6 ≤ (L : Int)) (hn : n < 512) (J : lI n σ) (K : ∀ σ1, lI (n + 1) σ1 → zF G mL_law (d + 40) 2286 (lLs i) [] σ1 Q) : zF G mL_law (d + 40) 1390 (lLs i) [] σ Q := by
  obtain ⟨S, Sn, sf, cc, ep, t, l, vv, cap, J⟩ := J
  obtain ⟨⟨hs, hb, hv⟩, ⟨hD, hT, hL⟩, hc, hm⟩ := id J
  obtain ⟨hGd, hG, hOD, hOP, hX, hNx⟩ := hg
  have gn := hD.gn
  have hR := hc.1.1.1
  show zF G mL_law (d + 40) 1390 [(0, zR (zbg + 500)), (1, zR (B0 0)), (2, zR 228), (3, zR 245), (4, zI i)] [] σ _
  refine zF_aload_n 1391 dL_law_1390 rfl rfl ?_
  refine zF_aload_n 1392 dL_law_1391 rfl rfl ?_
  refine zF_iload 1394 dL_law_1392 rfl rfl ?_
  refine zF_iconst 1395 dL_law_1394 rfl ?_
  refine zF_iadd 1396 dL_law_1395 rfl ?_
  refine zF_sload 1397 dL_law_1396 rfl hX (by omega) (by omega) ?_
  refine zF_aload_n 1398 dL_law_1397 rfl rfl ?_
  refine zF_iload 1400 dL_law_1398 rfl rfl ?_
  refine zF_iconst 1401 dL_law_1400 rfl ?_
  refine zF_iadd 1402 dL_law_1401 rfl ?_
  refine zF_sload 1403 dL_law_1402 rfl hX (by omega) (by omega) ?_
  refine zF_aload_n 1404 dL_law_1403 rfl rfl ?_
  refine zF_callSH 1407 (d2 := d + 39) (as := [zR (B0 0), zI (lx xs i 1), zI (lx xs i 2), zR 245]) (rest := []) dL_law_1404 rfl kLH_closed sL_closed (by omega) rfl rfl (Nat.le_of_ble_eq_true rfl) ⟨zwO, zwR hs.bl, zwR hs.ml, zwR hs.ol, trivial, trivial⟩ trivial (zEH.mono (zl_closed (d2 := d + 11) (by omega) hs.bk hs.bl hs.ol ((zt_X11_closed hGd hs.cO hR gn.v (zrg_x _) (zrg_x _)).mono fun _ _ h => zop_cop h) (lQ_cop hs) (nI_cop (by repeat' (first | exact lk2_0 | exact lk2_1 | refine lk2_if ?_ ?_)))) fun ro σ1 hh => ?_)
  obtain ⟨er, ev, ⟨s1, b1⟩, c1, m1⟩ := lq_cop hn J hh
  subst er
  refine ⟨_, rfl, ?_⟩
  show zF G _ _ _ _ [zI _] σ1 _
  refine zF_istore 1409 (ls' := (5, zI _) :: lLs i) dL_law_1407 rfl (by decide) rfl ?_
  have hN1 := m1.1.1.1
  refine zF_aload_n 1410 dL_law_1409 rfl rfl ?_
  refine zF_aload_n 1411 dL_law_1410 rfl rfl ?_
  refine zF_iload 1413 dL_law_1411 rfl rfl ?_
  refine zF_iconst 1414 dL_law_1413 rfl ?_
  refine zF_iadd 1415 dL_law_1414 rfl ?_
  refine zF_sload 1416 dL_law_1415 rfl hX (by omega) (by omega) ?_
  refine zF_aload_n 1417 dL_law_1416 rfl rfl ?_
  refine zF_iload 1419 dL_law_1417 rfl rfl ?_
  refine zF_iconst 1420 dL_law_1419 rfl ?_
  refine zF_iadd 1421 dL_law_1420 rfl ?_
  refine zF_sload 1422 dL_law_1421 rfl hX (by omega) (by omega) ?_
  refine zF_callV 1425 (d2 := d + 12) (as := [zI (lx xs i 1), zI (lx xs i 2)]) dL_law_1422 rfl kLX12_closed iX12_closed (ci := 12) rfl eX12_closed (by omega) s1.zMo.1 s1.zMo.2.1 rfl rfl (Nat.le_of_ble_eq_true rfl) (zE.mono (zt_X12_closed s1.zMo hN1 gn.v (zrg_x _) (zrg_x _)) fun r σ2 hh2 => ?_)
  obtain ⟨x, er2, en, e5, ex, eo, ⟨s2, b2⟩, c2, m2⟩ := lq_mop s1 b1 hv c1 m1 hh2
  subst er2
  rw [← eo] at ev
  refine ⟨en, ?_⟩
  show zF G _ _ _ _ [zI x] σ2 _
  refine zF_istore 1427 (ls' := (6, zI x) :: (5, zI _) :: lLs i) dL_law_1425 rfl (by decide) rfl ?_
  refine lw_tail 1427 dL_law_1427 dL_law_1428 dL_law_1431 dL_law_1433 dL_law_1438 dL_law_1440 dL_law_1443 dL_law_1444 dL_law_1445 dL_law_1446 dL_law_1448 dL_law_1449 dL_law_1450 dL_law_1455 (by decide) (by repeat' (first | exact lk3_0 | exact lk3_1 | exact lk3_2 | refine lk3_if ?_ ?_)) (lkc_1 (by repeat' (first | exact lk2_0 | exact lk2_1 | refine lk2_if ?_ ?_))) e5 ev ex s2 ?_
  exact K σ2 ⟨S, Sn, sf, cc, ep, t, l, vv, cap, ⟨s2, b2, hv⟩, ⟨hD.up (by push_cast; omega), hT, hL⟩, c2, m2⟩
end ZLW

/-! one act of the law's loop -/
section ZQN
variable {G : zG} {d L k b : Nat} {xs : Nat → Int32} {σ σ1 σ2 : zMem} {N N0 N1 : Int → Int} {H : Int → Int → Int} {T u vv v : Int} {S : zS} {E E1 : Nat → Nat} {a6 a7 : Nat}
/-- what holds between acts, without the room -/
def lT (N0 : Int → Int) (a6 a7 : Nat) (T : Int) (N : Int → Int) (H : Int → Int → Int) (u : Int) (E : Nat → Nat) (σ : zMem) : Prop := cL T (N, H, u) σ ∧ eO N σ E ∧ eU E 229 (zn σ) ∧ E 0 = 229 ∧ cE N0 N ∧ (∀ f, 0 ≤ f → f < N0 2 → prSum N f = prSum N0 f) ∧ lM N0 a6 a7 E σ ∧ lW H u a7 σ
/-- the room taken -/
def lb (b : Nat) (σ : zMem) : Prop := zn σ ≤ 400 + b ∧ zcs σ ≤ 500 + b ∧ zss σ ≤ 20000 + 100 * b
theorem lb.zb {m : Nat} (h : lb b σ) (z : zB σ σ1 m) : lb (b + m) σ1 := by unfold lb zB at *; omega
theorem lb.wk {m : Nat} (h : lb b σ) (z : b ≤ m) : lb m σ := by unfold lb at *; omega
theorem pL_undoCount (hG : zGd G) (h : cL T S σ) : zP1 G mX11_undoCount (d + 7) [zR (B0 0)] σ S.2.2 := zop_0 (zt_X11_undoCount (N := S.1) (H := S.2.1) (u := S.2.2) hG h.1.cO h.1.cHs h.2.1 h.2.2.1) rfl
/-- the class's scratch written -/
theorem lT.sc (h : lT N0 a6 a7 T N H u E σ) (hz : zn σ ≤ zbg) (f : zFr (cSc B0) σ σ1) : lT N0 a6 a7 T N H u E σ1 := by
  obtain ⟨hL, hO, hU, he, hC, hp, hM, hW⟩ := h
  have a : zAE E (zn σ) σ σ1 := zAE_fr (cSc_mu f)
  exact ⟨hL.sc f, hO.mu (cSc_mu f) hU (by decide) hz, by rw [f.1]; exact hU, he, hC, hp, hM.ae a (hU.ge228 (by decide)) (fun i => Or.inl rfl) hz, hW.ae hM a hz⟩
/-- an operation that was taken back -/
theorem lT.bk {H1 : Int → Int → Int} (h : lT N0 a6 a7 T N H u E σ) (hz : zn σ ≤ zbg) (m : zMu (zn σ) σ σ1) (c : cL T (N, H1, u) σ1) (e : ∀ k, 0 ≤ k → k < u → H1 k = H k) : lT N0 a6 a7 T N H1 u E σ1 := by
  obtain ⟨hL, hO, hU, he, hC, hp, hM, hW⟩ := h
  have a : zAE E (zn σ) σ σ1 := zMu_ae m
  exact ⟨c, hO.zmu (eB_of hL.2.2.1.1.v) hU (by decide) hz m, hU.wk m.1, he, hC, hp, hM.ae a (hU.ge228 (by decide)) (fun i => Or.inl rfl) hz, fun j j0 j1 => by rw [e j j0 j1]; exact hW.ae hM a hz j j0 j1⟩
theorem k_rem {k : Nat} {n : Int} (h : 1 ≤ n) : 0 ≤ (k : Int) % n ∧ (k : Int) % n < n := ⟨Int.emod_nonneg _ (by omega), Int.emod_lt_of_pos _ (by omega)⟩
set_option maxRecDepth 20000 in
theorem law_3f (hGd : zGd G) (hk : k < 32) (g : lG N0) (hS : lT N0 a6 a7 ((k : Int) + 1) N H u E σ) (hb0 : lb (20 * k + 11) σ) (Kn : ∀ N H u E σ, lT N0 a6 a7 ((k : Int) + 1) N H u E σ → lb (20 * k + 20) σ → zF G mL_law (d + 14) 246 [(9, zI ((k + 1 : Nat) : Int)), (8, zI u), (7, zR a7), (6, zR a6), (4, zL (aV N0)), (3, zR 229), (2, zR 228), (1, zR (B0 0)), (0, zR (zbg + 500))] [] σ lQ1) : zF G mL_law (d + 14) 406 [(9, zI ((k : Nat) : Int)), (8, zI u), (7, zR a7), (6, zR a6), (4, zL (aV N0)), (3, zR 229), (2, zR 228), (1, zR (B0 0)), (0, zR (zbg + 500))] [] σ lQ1 := by
  have e1 : zbg = 1000000 := rfl
  obtain ⟨hL, hO, hU, he, hC, hp, hM, hW⟩ := id hS
  have hb := hb0
  unfold lb at hb
  have hV := hL.2.2.1.1.v
  have hu := hL.2.2.1.2.1
  change 0 ≤ u ∧ u ≤ 10 at hu
  have hn := hV.n
  have m6 := hM.2.1
  obtain ⟨g0, gf, g1, g2, g3, g4⟩ := id g
  have n0 := hC.1.1
  have n2 := hC.1.2.2
  refine zF_iload 408 dL_law_406 rfl rfl ?_
  refine zF_iconst 409 dL_law_408 rfl ?_
  refine zF_irem 410 dL_law_409 rfl (by omega) (by omega) (by omega) (by omega) ?_
  refine zF_iconst 411 dL_law_410 rfl ?_
  refine zF_icmp_ne 437 414 dL_law_411 rfl rfl (by first | decide | assumption | (constructor <;> omega)) (by first | decide | assumption | (constructor <;> omega)) (fun c1 => ?_) (fun c1 => ?_)
  · refine zF_iinc 440 (ls' := [(9, zI (((k : Nat) : Int) + 1)), (8, zI u), (7, zR a7), (6, zR a6), (4, zL (aV N0)), (3, zR 229), (2, zR 228), (1, zR (B0 0)), (0, zR (zbg + 500))]) dL_law_437 rfl rfl rfl (by decide) rfl ?_
    refine zF_goto 246 dL_law_440 rfl ?_
    exact zF_locs (ls' := [(9, zI ((k + 1 : Nat) : Int)), (8, zI u), (7, zR a7), (6, zR a6), (4, zL (aV N0)), (3, zR 229), (2, zR 228), (1, zR (B0 0)), (0, zR (zbg + 500))]) ⟨zlI rfl (by first | rfl | omega | (push_cast; omega) | exact congrArg (_ + ·) (zbT (by assumption)) | exact congrArg (_ + ·) (zbF (by assumption)) | exact congrArg (_ + ·) (zbT (by omega)) | exact congrArg (_ + ·) (zbF (by omega)) | exact congrArg (_ + ·) (if_pos (by omega)).symm | exact congrArg (_ + ·) (if_neg (by omega)).symm | exact (if_pos (by omega)).symm | exact (if_neg (by omega)).symm | exact zsub_s (if_pos (by omega)).symm | exact zsub_s0 (if_neg (by omega)).symm | exact zadd0 (if_neg (by omega)).symm | exact zadd0 (zbF (by omega)) | exact (Int.sub_zero _).symm), rfl, rfl, rfl, rfl, rfl, rfl, rfl, rfl, trivial⟩ (Kn _ _ _ _ _ hS (lb.wk hb0 (by omega)))
  · refine zF_iload 416 dL_law_414 rfl rfl ?_
    refine zF_bipush 418 dL_law_416 rfl (by decide) ?_
    refine zF_icmp_ge 437 421 dL_law_418 rfl rfl (by first | decide | assumption | (constructor <;> omega)) (by first | decide | assumption | (constructor <;> omega)) (fun c2 => ?_) (fun c2 => ?_)
    · refine zF_iinc 440 (ls' := [(9, zI (((k : Nat) : Int) + 1)), (8, zI u), (7, zR a7), (6, zR a6), (4, zL (aV N0)), (3, zR 229), (2, zR 228), (1, zR (B0 0)), (0, zR (zbg + 500))]) dL_law_437 rfl rfl rfl (by decide) rfl ?_
      refine zF_goto 246 dL_law_440 rfl ?_
      exact zF_locs (ls' := [(9, zI ((k + 1 : Nat) : Int)), (8, zI u), (7, zR a7), (6, zR a6), (4, zL (aV N0)), (3, zR 229), (2, zR 228), (1, zR (B0 0)), (0, zR (zbg + 500))]) ⟨zlI rfl (by first | rfl | omega | (push_cast; omega) | exact congrArg (_ + ·) (zbT (by assumption)) | exact congrArg (_ + ·) (zbF (by assumption)) | exact congrArg (_ + ·) (zbT (by omega)) | exact congrArg (_ + ·) (zbF (by omega)) | exact congrArg (_ + ·) (if_pos (by omega)).symm | exact congrArg (_ + ·) (if_neg (by omega)).symm | exact (if_pos (by omega)).symm | exact (if_neg (by omega)).symm | exact zsub_s (if_pos (by omega)).symm | exact zsub_s0 (if_neg (by omega)).symm | exact zadd0 (if_neg (by omega)).symm | exact zadd0 (zbF (by omega)) | exact (Int.sub_zero _).symm), rfl, rfl, rfl, rfl, rfl, rfl, rfl, rfl, trivial⟩ (Kn _ _ _ _ _ hS (lb.wk hb0 (by omega)))
    · refine zF_aload_n 422 dL_law_421 rfl rfl ?_
      refine zF_iload 424 dL_law_422 rfl rfl ?_
      refine zF_aload_n 425 dL_law_424 rfl rfl ?_
      refine zF_getIN 428 dL_law_425 rfl gnL_31 (by decide) (by decide) (he ▸ hO.k0) (he ▸ hO.l0) (he ▸ hO.i0) ?_
      refine zF_irem 429 dL_law_428 rfl (by omega) (by omega) (by omega) (by omega) ?_
      refine zF_callS 432 (d2 := (d + 13)) (as := [zR (B0 0), zI (((k : Nat) : Int) % (N 0))]) dL_law_429 rfl kL_256 sL_isBest (Nat.le_refl _) rfl rfl (Nat.le_of_ble_eq_true rfl) (zE.mono (zt_L_isBest hGd hL (by omega) (k_rem (by omega)).1 (k_rem (by omega)).2) fun ro σb hh429 => ?_)
      obtain ⟨er429, fr429, H1, Lb, eH⟩ := hh429
      subst er429
      refine ⟨fr429.1, ?_⟩
      have Sb := hS.bk (by omega) (zMu_fr fr429) Lb eH
      show zF G mL_law (d + 14) 432 [(9, zI ((k : Nat) : Int)), (8, zI u), (7, zR a7), (6, zR a6), (4, zL (aV N0)), (3, zR 229), (2, zR 228), (1, zR (B0 0)), (0, zR (zbg + 500))] [zI 1] σb _
      refine zF_if_ne 437 435 dL_law_432 rfl rfl (by first | decide | assumption | (constructor <;> omega)) (fun c3 => ?_) (fun c3 => ?_)
      · refine zF_iinc 440 (ls' := [(9, zI (((k : Nat) : Int) + 1)), (8, zI u), (7, zR a7), (6, zR a6), (4, zL (aV N0)), (3, zR 229), (2, zR 228), (1, zR (B0 0)), (0, zR (zbg + 500))]) dL_law_437 rfl rfl rfl (by decide) rfl ?_
        refine zF_goto 246 dL_law_440 rfl ?_
        exact zF_locs (ls' := [(9, zI ((k + 1 : Nat) : Int)), (8, zI u), (7, zR a7), (6, zR a6), (4, zL (aV N0)), (3, zR 229), (2, zR 228), (1, zR (B0 0)), (0, zR (zbg + 500))]) ⟨zlI rfl (by first | rfl | omega | (push_cast; omega) | exact congrArg (_ + ·) (zbT (by assumption)) | exact congrArg (_ + ·) (zbF (by assumption)) | exact congrArg (_ + ·) (zbT (by omega)) | exact congrArg (_ + ·) (zbF (by omega)) | exact congrArg (_ + ·) (if_pos (by omega)).symm | exact congrArg (_ + ·) (if_neg (by omega)).symm | exact (if_pos (by omega)).symm | exact (if_neg (by omega)).symm | exact zsub_s (if_pos (by omega)).symm | exact zsub_s0 (if_neg (by omega)).symm | exact zadd0 (if_neg (by omega)).symm | exact zadd0 (zbF (by omega)) | exact (Int.sub_zero _).symm), rfl, rfl, rfl, rfl, rfl, rfl, rfl, rfl, trivial⟩ (Kn _ _ _ _ _ Sb (lb.wk (lb.zb (m := 0) hb0 (zB_fr fr429)) (by omega)))
      · exact absurd c3 (by first | decide | simp)
set_option maxRecDepth 20000 in
theorem law_3e (hGd : zGd G) (hk : k < 32) (g : lG N0) (hS : lT N0 a6 a7 ((k : Int) + 1) N H u E σ) (hb0 : lb (20 * k + 8) σ) (Kn : ∀ N H u E σ, lT N0 a6 a7 ((k : Int) + 1) N H u E σ → lb (20 * k + 20) σ → zF G mL_law (d + 14) 246 [(9, zI ((k + 1 : Nat) : Int)), (8, zI u), (7, zR a7), (6, zR a6), (4, zL (aV N0)), (3, zR 229), (2, zR 228), (1, zR (B0 0)), (0, zR (zbg + 500))] [] σ lQ1) : zF G mL_law (d + 14) 368 [(9, zI ((k : Nat) : Int)), (8, zI u), (7, zR a7), (6, zR a6), (4, zL (aV N0)), (3, zR 229), (2, zR 228), (1, zR (B0 0)), (0, zR (zbg + 500))] [] σ lQ1 := by
  have e1 : zbg = 1000000 := rfl
  obtain ⟨hL, hO, hU, he, hC, hp, hM, hW⟩ := id hS
  have hb := hb0
  unfold lb at hb
  have hV := hL.2.2.1.1.v
  have hu := hL.2.2.1.2.1
  change 0 ≤ u ∧ u ≤ 10 at hu
  have hn := hV.n
  have m6 := hM.2.1
  obtain ⟨g0, gf, g1, g2, g3, g4⟩ := id g
  have n0 := hC.1.1
  have n2 := hC.1.2.2
  refine zF_aload_n 369 dL_law_368 rfl rfl ?_
  refine zF_callV 372 (d2 := (d + 13)) (as := []) dL_law_369 rfl kL_250 iX11_undoCount (ci := 11) rfl eX11_undoCount (Nat.le_refl _) hL.1.bk hL.1.bl rfl rfl (Nat.le_of_ble_eq_true rfl) (zE.mono (pL_undoCount hGd hL) fun ro σx369 hh369 => ?_)
  obtain ⟨es369, er369⟩ := hh369
  replace es369 := es369.symm
  subst es369
  subst er369
  refine ⟨rfl, ?_⟩
  show zF G mL_law (d + 14) 372 [(9, zI ((k : Nat) : Int)), (8, zI u), (7, zR a7), (6, zR a6), (4, zL (aV N0)), (3, zR 229), (2, zR 228), (1, zR (B0 0)), (0, zR (zbg + 500))] [zI u] σ _
  refine zF_iload 374 dL_law_372 rfl rfl ?_
  refine zF_icmp_ne 435 377 dL_law_374 rfl rfl (by first | decide | assumption | (constructor <;> omega)) (by first | decide | assumption | (constructor <;> omega)) (fun c1 => ?_) (fun c1 => ?_)
  · refine zF_iconst 436 dL_law_435 rfl ?_
    exact zF_zreturn dL_law_436 rfl (by decide) (by exfalso; omega)
  · refine zF_aload_n 378 dL_law_377 rfl rfl ?_
    refine zF_callS 381 (d2 := (d + 13)) (as := [zR (B0 0)]) dL_law_378 rfl kL_229 sL_isSound (Nat.le_refl _) rfl rfl (Nat.le_of_ble_eq_true rfl) (zE.mono (zt_L_isSound hGd hL.K) fun ro σs hh378 => ?_)
    obtain ⟨er378, fr378⟩ := hh378
    subst er378
    refine ⟨fr378.1, ?_⟩
    have Ss := hS.sc (by omega) fr378
    have hbs : lb (20 * k + 8) σs := lb.zb (m := 0) hb0 (zB_fr fr378)
    have zs : zn σs = zn σ := fr378.1
    show zF G mL_law (d + 14) 381 [(9, zI ((k : Nat) : Int)), (8, zI u), (7, zR a7), (6, zR a6), (4, zL (aV N0)), (3, zR 229), (2, zR 228), (1, zR (B0 0)), (0, zR (zbg + 500))] [zI 1] σs _
    refine zF_if_eq 435 384 dL_law_381 rfl rfl (by first | decide | assumption | (constructor <;> omega)) (fun c2 => ?_) (fun c2 => ?_)
    · exact absurd c2 (by first | decide | simp)
    · refine zF_iload 386 dL_law_384 rfl rfl ?_
      refine zF_iconst 387 dL_law_386 rfl ?_
      refine zF_irem 388 dL_law_387 rfl (by omega) (by omega) (by omega) (by omega) ?_
      refine zF_iconst 389 dL_law_388 rfl ?_
      refine zF_icmp_ne 406 392 dL_law_389 rfl rfl (by first | decide | assumption | (constructor <;> omega)) (by first | decide | assumption | (constructor <;> omega)) (fun c3 => ?_) (fun c3 => ?_)
      · exact zF_locs (ls' := [(9, zI ((k : Nat) : Int)), (8, zI u), (7, zR a7), (6, zR a6), (4, zL (aV N0)), (3, zR 229), (2, zR 228), (1, zR (B0 0)), (0, zR (zbg + 500))]) ⟨rfl, rfl, rfl, rfl, rfl, rfl, rfl, rfl, rfl, trivial⟩ (law_3f hGd hk g Ss (hbs.wk (by omega)) Kn)
      · refine zF_iload 394 dL_law_392 rfl rfl ?_
        refine zF_bipush 396 dL_law_394 rfl (by decide) ?_
        refine zF_icmp_ge 406 399 dL_law_396 rfl rfl (by first | decide | assumption | (constructor <;> omega)) (by first | decide | assumption | (constructor <;> omega)) (fun c4 => ?_) (fun c4 => ?_)
        · exact zF_locs (ls' := [(9, zI ((k : Nat) : Int)), (8, zI u), (7, zR a7), (6, zR a6), (4, zL (aV N0)), (3, zR 229), (2, zR 228), (1, zR (B0 0)), (0, zR (zbg + 500))]) ⟨rfl, rfl, rfl, rfl, rfl, rfl, rfl, rfl, rfl, trivial⟩ (law_3f hGd hk g Ss (hbs.wk (by omega)) Kn)
        · refine zF_aload_n 400 dL_law_399 rfl rfl ?_
          refine zF_callSn 403 (d2 := (d + 13)) (as := [zR (B0 0)]) dL_law_400 rfl kL_253 sL_isClosed (Nat.le_refl _) rfl rfl (Nat.le_of_ble_eq_true rfl) (by exact (⟨trivial, trivial, zwR (show a7 < zn σs from Ss.2.2.2.2.2.2.1.2.1.2.2.2.1), zwR (show a6 < zn σs from Ss.2.2.2.2.2.2.1.2.1.2.1), trivial, zwR (show 229 < zn σs from (by omega)), zwR (show 228 < zn σs from (by omega)), zwR (show (B0 0) < zn σs from Ss.1.1.bl), zwO, trivial⟩ : _ ∧ _ ∧ _ ∧ _ ∧ _ ∧ _ ∧ _ ∧ _ ∧ _ ∧ True)) (by exact trivial) (zE.mono (zt_L_isClosed hGd Ss.1 (by omega) (by omega) (by omega)) fun ro σc hh400 => ?_)
          obtain ⟨er400, mu400, zb400, H1, Lc, eH⟩ := hh400
          subst er400
          have Sc := Ss.bk (by omega) mu400 Lc eH
          show zF G mL_law (d + 14) 403 [(9, zI ((k : Nat) : Int)), (8, zI u), (7, zR a7), (6, zR a6), (4, zL (aV N0)), (3, zR 229), (2, zR 228), (1, zR (B0 0)), (0, zR (zbg + 500))] [zI 1] σc _
          refine zF_if_eq 435 406 dL_law_403 rfl rfl (by first | decide | assumption | (constructor <;> omega)) (fun c5 => ?_) (fun c5 => ?_)
          · exact absurd c5 (by first | decide | simp)
          · exact zF_locs (ls' := [(9, zI ((k : Nat) : Int)), (8, zI u), (7, zR a7), (6, zR a6), (4, zL (aV N0)), (3, zR 229), (2, zR 228), (1, zR (B0 0)), (0, zR (zbg + 500))]) ⟨rfl, rfl, rfl, rfl, rfl, rfl, rfl, rfl, rfl, trivial⟩ (law_3f hGd hk g Sc ((hbs.zb zb400).wk (by omega)) Kn)
set_option maxRecDepth 20000 in
theorem law_3z (hGd : zGd G) (hk : k < 32) (g : lG N0) (hS : lT N0 a6 a7 ((k : Int) + 1) N H u E σ) (hb0 : lb (20 * k + 8) σ) (Kn : ∀ N H u E σ, lT N0 a6 a7 ((k : Int) + 1) N H u E σ → lb (20 * k + 20) σ → zF G mL_law (d + 14) 246 [(9, zI ((k + 1 : Nat) : Int)), (8, zI u), (7, zR a7), (6, zR a6), (4, zL (aV N0)), (3, zR 229), (2, zR 228), (1, zR (B0 0)), (0, zR (zbg + 500))] [] σ lQ1) : zF G mL_law (d + 14) 290 [(13, zI 0), (11, zL (aV N)), (10, zI vv), (9, zI ((k : Nat) : Int)), (8, zI u), (7, zR a7), (6, zR a6), (4, zL (aV N0)), (3, zR 229), (2, zR 228), (1, zR (B0 0)), (0, zR (zbg + 500))] [] σ lQ1 := by
  have e1 : zbg = 1000000 := rfl
  obtain ⟨hL, hO, hU, he, hC, hp, hM, hW⟩ := id hS
  have hb := hb0
  unfold lb at hb
  have hV := hL.2.2.1.1.v
  have hu := hL.2.2.1.2.1
  change 0 ≤ u ∧ u ≤ 10 at hu
  have hn := hV.n
  have m6 := hM.2.1
  obtain ⟨g0, gf, g1, g2, g3, g4⟩ := id g
  have n0 := hC.1.1
  have n2 := hC.1.2.2
  refine zF_iload 292 dL_law_290 rfl rfl ?_
  refine zF_if_lt 310 295 dL_law_292 rfl rfl (by first | decide | assumption | (constructor <;> omega)) (fun c1 => ?_) (fun c1 => ?_)
  · exact absurd c1 (by first | decide | simp)
  · refine zF_iload 297 dL_law_295 rfl rfl ?_
    refine zF_if_ne 312 300 dL_law_297 rfl rfl (by first | decide | assumption | (constructor <;> omega)) (fun c2 => ?_) (fun c2 => ?_)
    · exact absurd c2 (by first | decide | simp)
    · refine zF_aload_n 301 dL_law_300 rfl rfl ?_
      refine zF_callS 304 (d2 := (d + 13)) (as := [zR (B0 0)]) dL_law_301 rfl kL_210 sL_all (Nat.le_refl _) rfl rfl (Nat.le_of_ble_eq_true rfl) (zE.mono (zt_L_all hGd (show cK _ N σ from hL.K)) fun ro σx301 hh301 => ?_)
      obtain ⟨es301, er301⟩ := hh301
      replace es301 := es301.symm
      subst es301
      subst er301
      refine ⟨rfl, ?_⟩
      show zF G mL_law (d + 14) 304 [(13, zI 0), (11, zL (aV N)), (10, zI vv), (9, zI ((k : Nat) : Int)), (8, zI u), (7, zR a7), (6, zR a6), (4, zL (aV N0)), (3, zR 229), (2, zR 228), (1, zR (B0 0)), (0, zR (zbg + 500))] [zL (aV N)] σ _
      refine zF_lload 306 dL_law_304 rfl rfl ?_
      refine zF_Lw2 ?_
      refine zF_lcmp 307 dL_law_306 rfl (w64_rg _) (w64_rg _) ?_
      rw [zlcm_self]
      refine zF_if_eq 312 310 dL_law_307 rfl rfl (by first | decide | assumption | (constructor <;> omega)) (fun c3 => ?_) (fun c3 => ?_)
      · refine zF_iload 314 dL_law_312 rfl rfl ?_
        refine zF_if_ne 320 317 dL_law_314 rfl rfl (by first | decide | assumption | (constructor <;> omega)) (fun c4 => ?_) (fun c4 => ?_)
        · exact absurd c4 (by first | decide | simp)
        · refine zF_goto 437 dL_law_317 rfl ?_
          refine zF_iinc 440 (ls' := [(9, zI (((k : Nat) : Int) + 1)), (13, zI 0), (11, zL (aV N)), (10, zI vv), (8, zI u), (7, zR a7), (6, zR a6), (4, zL (aV N0)), (3, zR 229), (2, zR 228), (1, zR (B0 0)), (0, zR (zbg + 500))]) dL_law_437 rfl rfl rfl (by decide) rfl ?_
          refine zF_goto 246 dL_law_440 rfl ?_
          exact zF_locs (ls' := [(9, zI ((k + 1 : Nat) : Int)), (8, zI u), (7, zR a7), (6, zR a6), (4, zL (aV N0)), (3, zR 229), (2, zR 228), (1, zR (B0 0)), (0, zR (zbg + 500))]) ⟨zlI rfl (by first | rfl | omega | (push_cast; omega) | exact congrArg (_ + ·) (zbT (by assumption)) | exact congrArg (_ + ·) (zbF (by assumption)) | exact congrArg (_ + ·) (zbT (by omega)) | exact congrArg (_ + ·) (zbF (by omega)) | exact congrArg (_ + ·) (if_pos (by omega)).symm | exact congrArg (_ + ·) (if_neg (by omega)).symm | exact (if_pos (by omega)).symm | exact (if_neg (by omega)).symm | exact zsub_s (if_pos (by omega)).symm | exact zsub_s0 (if_neg (by omega)).symm | exact zadd0 (if_neg (by omega)).symm | exact zadd0 (zbF (by omega)) | exact (Int.sub_zero _).symm), rfl, rfl, rfl, rfl, rfl, rfl, rfl, rfl, trivial⟩ (Kn _ _ _ _ _ hS (lb.wk hb0 (by omega)))
      · exact absurd c3 (by first | decide | simp)
end ZQN

/-! the loop of the law's acts -/
section ZQO
variable {G : zG} {d L k b x : Nat} {xs : Nat → Int32} {σ σ1 σ2 : zMem} {N N0 N1 : Int → Int} {H : Int → Int → Int} {T u vv v : Int} {S : zS} {E E1 : Nat → Nat} {a6 a7 : Nat}
theorem s7 (hL : cL T (N, H, u) σ) (hO : eO N σ E) (hU : eU E 229 (zn σ)) (he : E 0 = 229) (hC : cE N0 N) (hp : ∀ f, 0 ≤ f → f < N0 2 → prSum N f = prSum N0 f) (hM : lM N0 a6 a7 E σ) (hz : zn σ ≤ zbg) (f : zFr (fun h _ => h = a7) σ σ1) (hW : lW H u a7 σ1) : lT N0 a6 a7 T N H u E σ1 := by
  obtain ⟨ne, ⟨p1, p2, p3, p4, p5⟩, k6, k7, v6, sn, s4⟩ := id hM
  refine ⟨hL.gx (n := 229) ⟨by rw [f.1]; exact Nat.le_refl _, fun x hx => ⟨by rw [f.2.1], fun j => ⟨by rw [f.2.2.1], f.2.2.2.2.2 x j (fun e => by have e2 : x = a7 := e; omega)⟩⟩⟩ (by decide), hO.fr f (fun i j e => (ne i).2 e), by rw [f.1]; exact hU, he, hC, hp, ⟨ne, ⟨p1, by rw [f.1]; exact p2, p3, by rw [f.1]; exact p4, p5⟩, by rw [f.2.1]; exact k6, by rw [f.2.1]; exact k7, fun i i0 i1 => (f.2.2.2.2.2 a6 i p5).trans (v6 i i0 i1), cRs_ib (fun m hm h2 j => f.2.2.2.2.2 _ j (fun e => ?_)) sn, (f.2.2.2.2.2 _ _ (fun e => ?_)).trans s4⟩, hW⟩
  · have b := B0_h5 m hm h2
    have e2 : B0 (2000 + m) = a7 := e
    omega
  · have b := B0_h3.2.2
    have e2 : B0 600 = a7 := e
    omega
theorem fr7 {j w : Int} (f : zFr (fun h _ => h = a7) σ σ1) : zFr (fun h _ => h = a7) σ (zsi σ1 a7 j w) := ⟨f.1, f.2.1, f.2.2.1, f.2.2.2.1, f.2.2.2.2.1, fun h i n => (zsi_N (fun e => n e) rfl).trans (f.2.2.2.2.2 h i n)⟩
theorem fr7_0 : zFr (fun h _ => h = a7) σ σ := ⟨rfl, rfl, rfl, rfl, rfl, fun _ _ _ => rfl⟩
theorem lW_1 (hW : lW H u a7 σ) (u0 : 0 ≤ u) (u1 : u < 10) {i : Int} (hi : i = u) : lW (hsR H u N) (min (u + 1) 10) a7 (zsi σ a7 i (aV N)) := fun j j0 j1 => by
  rw [zia_si]
  by_cases c : j = i
  · have e : hsR H u N j = N := by unfold hsR; rw [if_pos (by omega)]
    rw [if_pos ⟨rfl, c⟩, e]
  · have e : hsR H u N j = H j := by unfold hsR; rw [if_neg (by omega), if_neg (by omega), Int.add_zero]
    rw [if_neg (fun z => c z.2), e]
    exact hW j j0 (by omega)
/-- what was before the acts moves down -/
def sH (a7 : Nat) (σ : zMem) (x : Nat) (σ1 : zMem) : Prop := zFr (fun h _ => h = a7) σ σ1 ∧ (∀ i : Int, 0 ≤ i → i < (x : Int) → zia σ1 a7 i = zia σ a7 (i + 1)) ∧ ∀ i : Int, (x : Int) ≤ i → zia σ1 a7 i = zia σ a7 i
theorem sH_0 : sH a7 σ 0 σ := ⟨fr7_0, fun i i0 i1 => absurd i1 (by omega), fun i _ => rfl⟩
theorem sH_s {i j : Int} (h : sH a7 σ x σ1) (hi : i = (x : Int)) (hj : j = (x : Int) + 1) : sH a7 σ (x + 1) (zsi σ1 a7 i (zia σ1 a7 j)) := by
  obtain ⟨f, l, r⟩ := h
  refine ⟨fr7 f, fun q q0 q1 => ?_, fun q q0 => ?_⟩
  · rw [zia_si]
    by_cases c : q = i
    · rw [if_pos ⟨rfl, c⟩, r j (by omega), show j = q + 1 by omega]
    · rw [if_neg (fun z => c z.2)]
      exact l q q0 (by omega)
  · rw [zia_si, if_neg (fun z => by have := z.2; omega)]
    exact r q (by omega)
theorem lW_2 (hW : lW H u a7 σ) (h : sH a7 σ 9 σ1) (u1 : u = 10) {i : Int} (hi : i = 9) : lW (hsR H u N) (min (u + 1) 10) a7 (zsi σ1 a7 i (aV N)) := fun j j0 j1 => by
  rw [zia_si]
  by_cases c : j = i
  · have e : hsR H u N j = N := by unfold hsR; rw [if_pos (by omega)]
    rw [if_pos ⟨rfl, c⟩, e]
  · have e : hsR H u N j = H (j + 1) := by unfold hsR; rw [if_neg (by omega), if_pos u1]
    rw [if_neg (fun z => c z.2), e, h.2.1 j j0 (by omega)]
    exact hW (j + 1) (by omega) (by omega)
set_option maxRecDepth 20000 in
theorem law_3d (hGd : zGd G) (hk : k < 32) (g : lG N0) (hL : cL ((k : Int) + 1) (N1, hsR H u N, min (u + 1) 10) σ) (hO : eO N1 σ E) (hU : eU E 229 (zn σ)) (he : E 0 = 229) (hC : cE N0 N1) (hp : ∀ f, 0 ≤ f → f < N0 2 → prSum N1 f = prSum N0 f) (hM : lM N0 a6 a7 E σ) (hW : lW H u a7 σ) (hu : 0 ≤ u ∧ u ≤ 10) (hb0 : lb (20 * k + 8) σ) (Kn : ∀ N H u E σ, lT N0 a6 a7 ((k : Int) + 1) N H u E σ → lb (20 * k + 20) σ → zF G mL_law (d + 14) 246 [(9, zI ((k + 1 : Nat) : Int)), (8, zI u), (7, zR a7), (6, zR a6), (4, zL (aV N0)), (3, zR 229), (2, zR 228), (1, zR (B0 0)), (0, zR (zbg + 500))] [] σ lQ1) : zF G mL_law (d + 14) 290 [(13, zI 1), (11, zL (aV N)), (10, zI vv), (9, zI ((k : Nat) : Int)), (8, zI u), (7, zR a7), (6, zR a6), (4, zL (aV N0)), (3, zR 229), (2, zR 228), (1, zR (B0 0)), (0, zR (zbg + 500))] [] σ lQ1 := by
  have e1 : zbg = 1000000 := rfl
  have hb := hb0
  unfold lb at hb
  have m6 := hM.2.1
  refine zF_iload 292 dL_law_290 rfl rfl ?_
  refine zF_if_lt 310 295 dL_law_292 rfl rfl (by first | decide | assumption | (constructor <;> omega)) (fun c1 => ?_) (fun c1 => ?_)
  · exact absurd c1 (by first | decide | simp)
  · refine zF_iload 297 dL_law_295 rfl rfl ?_
    refine zF_if_ne 312 300 dL_law_297 rfl rfl (by first | decide | assumption | (constructor <;> omega)) (fun c2 => ?_) (fun c2 => ?_)
    · refine zF_iload 314 dL_law_312 rfl rfl ?_
      refine zF_if_ne 320 317 dL_law_314 rfl rfl (by first | decide | assumption | (constructor <;> omega)) (fun c3 => ?_) (fun c3 => ?_)
      · refine zF_iload 322 dL_law_320 rfl rfl ?_
        refine zF_bipush 324 dL_law_322 rfl (by decide) ?_
        refine zF_icmp_ne 358 327 dL_law_324 rfl rfl (by first | decide | assumption | (constructor <;> omega)) (by first | decide | assumption | (constructor <;> omega)) (fun c4 => ?_) (fun c4 => ?_)
        · refine zF_aload 360 dL_law_358 rfl rfl ?_
          refine zF_iload 362 dL_law_360 rfl rfl ?_
          refine zF_iinc 365 (ls' := [(8, zI (u + 1)), (13, zI 1), (11, zL (aV N)), (10, zI vv), (9, zI ((k : Nat) : Int)), (7, zR a7), (6, zR a6), (4, zL (aV N0)), (3, zR 229), (2, zR 228), (1, zR (B0 0)), (0, zR (zbg + 500))]) dL_law_362 rfl rfl rfl (by decide) rfl ?_
          refine zF_lload 367 dL_law_365 rfl rfl ?_
          refine zF_lastore 368 dL_law_367 rfl hM.2.2.2.1 hM.2.1.2.2.2.1 (by omega) (by omega) ?_
          exact zF_locs (ls' := [(9, zI ((k : Nat) : Int)), (8, zI (min (u + 1) 10)), (7, zR a7), (6, zR a6), (4, zL (aV N0)), (3, zR 229), (2, zR 228), (1, zR (B0 0)), (0, zR (zbg + 500))]) ⟨rfl, zlI rfl (by first | rfl | omega | (push_cast; omega) | exact congrArg (_ + ·) (zbT (by assumption)) | exact congrArg (_ + ·) (zbF (by assumption)) | exact congrArg (_ + ·) (zbT (by omega)) | exact congrArg (_ + ·) (zbF (by omega)) | exact congrArg (_ + ·) (if_pos (by omega)).symm | exact congrArg (_ + ·) (if_neg (by omega)).symm | exact (if_pos (by omega)).symm | exact (if_neg (by omega)).symm | exact zsub_s (if_pos (by omega)).symm | exact zsub_s0 (if_neg (by omega)).symm | exact zadd0 (if_neg (by omega)).symm | exact zadd0 (zbF (by omega)) | exact (Int.sub_zero _).symm), rfl, rfl, rfl, rfl, rfl, rfl, rfl, trivial⟩ (law_3e hGd hk g (s7 hL hO hU he hC hp hM (by omega) (fr7 fr7_0) (lW_1 hW hu.1 (by omega) rfl)) (lb.zb (m := 0) hb0 (zB_fr (fr7 (a7 := a7) (j := u) (w := aV N) fr7_0))) Kn)
        · refine zF_iconst 328 dL_law_327 rfl ?_
          refine zF_istore 330 (ls' := [(14, zI 1), (13, zI 1), (11, zL (aV N)), (10, zI vv), (9, zI ((k : Nat) : Int)), (8, zI u), (7, zR a7), (6, zR a6), (4, zL (aV N0)), (3, zR 229), (2, zR 228), (1, zR (B0 0)), (0, zR (zbg + 500))]) dL_law_328 rfl (by decide) rfl ?_
          refine zF_locs (ls' := [(14, zI (((0 : Nat) : Int) + 1)), (13, zI 1), (11, zL (aV N)), (10, zI vv), (9, zI ((k : Nat) : Int)), (8, zI u), (7, zR a7), (6, zR a6), (4, zL (aV N0)), (3, zR 229), (2, zR 228), (1, zR (B0 0)), (0, zR (zbg + 500))]) ⟨zlI rfl (by first | rfl | omega | (push_cast; omega) | exact congrArg (_ + ·) (zbT (by assumption)) | exact congrArg (_ + ·) (zbF (by assumption)) | exact congrArg (_ + ·) (zbT (by omega)) | exact congrArg (_ + ·) (zbF (by omega)) | exact congrArg (_ + ·) (if_pos (by omega)).symm | exact congrArg (_ + ·) (if_neg (by omega)).symm | exact (if_pos (by omega)).symm | exact (if_neg (by omega)).symm | exact zsub_s (if_pos (by omega)).symm | exact zsub_s0 (if_neg (by omega)).symm | exact zadd0 (if_neg (by omega)).symm | exact zadd0 (zbF (by omega)) | exact (Int.sub_zero _).symm), rfl, rfl, rfl, rfl, rfl, rfl, rfl, rfl, rfl, rfl, rfl, rfl, trivial⟩ ?_
          refine zF_while (X := Nat) (fun z => 9 - z) (fun z σ330 => z ≤ 9 ∧ sH a7 σ z σ330) (fun z => [(14, zI (((z : Nat) : Int) + 1)), (13, zI 1), (11, zL (aV N)), (10, zI vv), (9, zI ((k : Nat) : Int)), (8, zI u), (7, zR a7), (6, zR a6), (4, zL (aV N0)), (3, zR 229), (2, zR 228), (1, zR (B0 0)), (0, zR (zbg + 500))]) ?_ 0 σ (⟨by decide, sH_0⟩)
          intro x σ330 hI330 ih330
          show zF G mL_law (d + 14) 330 [(14, zI (((x : Nat) : Int) + 1)), (13, zI 1), (11, zL (aV N)), (10, zI vv), (9, zI ((k : Nat) : Int)), (8, zI u), (7, zR a7), (6, zR a6), (4, zL (aV N0)), (3, zR 229), (2, zR 228), (1, zR (B0 0)), (0, zR (zbg + 500))] [] σ330 _
          obtain ⟨hx, I330⟩ := hI330
          have f330 := I330.1
          have M7 : zkd σ330 a7 = (4, 10) ∧ a7 < zn σ330 := ⟨by rw [f330.2.1]; exact hM.2.2.2.1, by rw [f330.1]; exact m6.2.2.2.1⟩
          refine zF_iload 332 dL_law_330 rfl rfl ?_
          refine zF_bipush 334 dL_law_332 rfl (by decide) ?_
          refine zF_icmp_ge 355 337 dL_law_334 rfl rfl (by first | decide | assumption | (constructor <;> omega)) (by first | decide | assumption | (constructor <;> omega)) (fun c5 => ?_) (fun c5 => ?_)
          · refine zF_iinc 358 (ls' := [(8, zI (u + (-1))), (14, zI (((x : Nat) : Int) + 1)), (13, zI 1), (11, zL (aV N)), (10, zI vv), (9, zI ((k : Nat) : Int)), (7, zR a7), (6, zR a6), (4, zL (aV N0)), (3, zR 229), (2, zR 228), (1, zR (B0 0)), (0, zR (zbg + 500))]) dL_law_355 rfl rfl rfl (by decide) rfl ?_
            refine zF_aload 360 dL_law_358 rfl rfl ?_
            refine zF_iload 362 dL_law_360 rfl rfl ?_
            refine zF_iinc 365 (ls' := [(8, zI ((u + (-1)) + 1)), (14, zI (((x : Nat) : Int) + 1)), (13, zI 1), (11, zL (aV N)), (10, zI vv), (9, zI ((k : Nat) : Int)), (7, zR a7), (6, zR a6), (4, zL (aV N0)), (3, zR 229), (2, zR 228), (1, zR (B0 0)), (0, zR (zbg + 500))]) dL_law_362 rfl rfl rfl (by decide) rfl ?_
            refine zF_lload 367 dL_law_365 rfl rfl ?_
            refine zF_lastore 368 dL_law_367 rfl M7.1 M7.2 (by omega) (by omega) ?_
            exact zF_locs (ls' := [(9, zI ((k : Nat) : Int)), (8, zI (min (u + 1) 10)), (7, zR a7), (6, zR a6), (4, zL (aV N0)), (3, zR 229), (2, zR 228), (1, zR (B0 0)), (0, zR (zbg + 500))]) ⟨rfl, zlI rfl (by first | rfl | omega | (push_cast; omega) | exact congrArg (_ + ·) (zbT (by assumption)) | exact congrArg (_ + ·) (zbF (by assumption)) | exact congrArg (_ + ·) (zbT (by omega)) | exact congrArg (_ + ·) (zbF (by omega)) | exact congrArg (_ + ·) (if_pos (by omega)).symm | exact congrArg (_ + ·) (if_neg (by omega)).symm | exact (if_pos (by omega)).symm | exact (if_neg (by omega)).symm | exact zsub_s (if_pos (by omega)).symm | exact zsub_s0 (if_neg (by omega)).symm | exact zadd0 (if_neg (by omega)).symm | exact zadd0 (zbF (by omega)) | exact (Int.sub_zero _).symm), rfl, rfl, rfl, rfl, rfl, rfl, rfl, trivial⟩ (law_3e hGd hk g (s7 hL hO hU he hC hp hM (by omega) (fr7 f330) (lW_2 hW (by have q := I330; rw [show x = 9 by omega] at q; exact q) (by omega) (by omega))) (lb.zb (m := 0) hb0 (zB_fr (fr7 (j := u + -1) (w := aV N) f330))) Kn)
          · refine zF_aload 339 dL_law_337 rfl rfl ?_
            refine zF_iload 341 dL_law_339 rfl rfl ?_
            refine zF_iconst 342 dL_law_341 rfl ?_
            refine zF_isub 343 dL_law_342 rfl ?_
            refine zF_aload 345 dL_law_343 rfl rfl ?_
            refine zF_iload 347 dL_law_345 rfl rfl ?_
            refine zF_laload 348 dL_law_347 rfl M7.1 M7.2 (by omega) (by omega) rfl ?_
            refine zF_lastore 349 dL_law_348 rfl M7.1 M7.2 (by omega) (by omega) ?_
            refine zF_iinc 352 (ls' := [(14, zI ((((x : Nat) : Int) + 1) + 1)), (13, zI 1), (11, zL (aV N)), (10, zI vv), (9, zI ((k : Nat) : Int)), (8, zI u), (7, zR a7), (6, zR a6), (4, zL (aV N0)), (3, zR 229), (2, zR 228), (1, zR (B0 0)), (0, zR (zbg + 500))]) dL_law_349 rfl rfl rfl (by decide) rfl ?_
            refine zF_goto 330 dL_law_352 rfl ?_
            exact zF_locs (ls' := [(14, zI ((((x + 1) : Nat) : Int) + 1)), (13, zI 1), (11, zL (aV N)), (10, zI vv), (9, zI ((k : Nat) : Int)), (8, zI u), (7, zR a7), (6, zR a6), (4, zL (aV N0)), (3, zR 229), (2, zR 228), (1, zR (B0 0)), (0, zR (zbg + 500))]) ⟨zlI rfl (by first | rfl | omega | (push_cast; omega) | exact congrArg (_ + ·) (zbT (by assumption)) | exact congrArg (_ + ·) (zbF (by assumption)) | exact congrArg (_ + ·) (zbT (by omega)) | exact congrArg (_ + ·) (zbF (by omega)) | exact congrArg (_ + ·) (if_pos (by omega)).symm | exact congrArg (_ + ·) (if_neg (by omega)).symm | exact (if_pos (by omega)).symm | exact (if_neg (by omega)).symm | exact zsub_s (if_pos (by omega)).symm | exact zsub_s0 (if_neg (by omega)).symm | exact zadd0 (if_neg (by omega)).symm | exact zadd0 (zbF (by omega)) | exact (Int.sub_zero _).symm), rfl, rfl, rfl, rfl, rfl, rfl, rfl, rfl, rfl, rfl, rfl, rfl, trivial⟩ (ih330 (x + 1) _ (by show 9 - (x + 1) < 9 - x; omega) (⟨by omega, sH_s I330 (by omega) rfl⟩))
      · exact absurd c3 (by first | decide | simp)
    · exact absurd c2 (by first | decide | simp)
theorem law_3p (hGd : zGd G) (hk : k < 32) (g : lG N0) (hS : lT N0 a6 a7 (k : Int) N H u E σ) (hb0 : lb (20 * k) σ) (ae : zAE E (zn σ) σ σ1) (b8 : zB σ σ1 8) (hE1 : ∀ i, E1 i = E i ∨ zn σ ≤ E1 i) (e0 : E1 0 = E 0) (U1 : eU E1 229 (zn σ1)) (O1 : eO N1 σ1 E1) (hor : (v = 0 ∧ N1 = N ∧ cL (k : Int) (N, H, u) σ1) ∨ (v = 1 ∧ cL ((k : Int) + 1) (sRec (N, H, u) N1) σ1 ∧ aTo N N1)) (Kn : ∀ N H u E σ, lT N0 a6 a7 ((k : Int) + 1) N H u E σ → lb (20 * k + 20) σ → zF G mL_law (d + 14) 246 [(9, zI ((k + 1 : Nat) : Int)), (8, zI u), (7, zR a7), (6, zR a6), (4, zL (aV N0)), (3, zR 229), (2, zR 228), (1, zR (B0 0)), (0, zR (zbg + 500))] [] σ lQ1) : zF G mL_law (d + 14) 290 [(13, zI v), (11, zL (aV N)), (10, zI vv), (9, zI ((k : Nat) : Int)), (8, zI u), (7, zR a7), (6, zR a6), (4, zL (aV N0)), (3, zR 229), (2, zR 228), (1, zR (B0 0)), (0, zR (zbg + 500))] [] σ1 lQ1 := by
  obtain ⟨hL, hO, hU, he, hC, hp, hM, hW⟩ := id hS
  have e1 : zbg = 1000000 := rfl
  have hb := hb0
  unfold lb at hb
  have hz : zn σ ≤ zbg := by omega
  have hM1 := hM.ae ae (hU.ge228 (by decide)) hE1 hz
  have hW1 := hW.ae hM ae hz
  have hb1 := hb0.zb b8
  have hu := hL.2.2.1.2.1
  change 0 ≤ u ∧ u ≤ 10 at hu
  rcases hor with ⟨v0, eN, c⟩ | ⟨v1, c, t⟩
  · subst v0 eN
    exact law_3z hGd hk g ⟨c.ups (by omega), O1, U1, e0.trans he, hC, hp, hM1, hW1⟩ hb1 Kn
  · subst v1
    have q := (c.2.2.1.2.2 (min (u + 1) 10 - 1) (by omega) (show min (u + 1) 10 - 1 < min (u + 1) 10 by omega)).2
    have eq : (sRec (N, H, u) N1).2.1 (min (u + 1) 10 - 1) = N := if_pos rfl
    rw [eq] at q
    have q' : cE N N1 := q.sy
    exact law_3d hGd hk g c O1 U1 (e0.trans he) (hC.tr q') (fun f f0 f1 => (t.2 f f0 (by rw [hC.1.2.2]; exact f1)).trans (hp f f0 f1)) hM1 hW1 hu hb1 Kn
set_option maxRecDepth 20000 in
theorem law_3a (hGd : zGd G) (hk : k < 32) (g : lG N0) (hX : zSx G L xs) (hAO : zAO G) (hS : lT N0 a6 a7 (k : Int) N H u E σ) (hb0 : lb (20 * k) σ) (Kn : ∀ N H u E σ, lT N0 a6 a7 ((k : Int) + 1) N H u E σ → lb (20 * k + 20) σ → zF G mL_law (d + 14) 246 [(9, zI ((k + 1 : Nat) : Int)), (8, zI u), (7, zR a7), (6, zR a6), (4, zL (aV N0)), (3, zR 229), (2, zR 228), (1, zR (B0 0)), (0, zR (zbg + 500))] [] σ lQ1) : zF G mL_law (d + 14) 246 [(9, zI ((k : Nat) : Int)), (8, zI u), (7, zR a7), (6, zR a6), (4, zL (aV N0)), (3, zR 229), (2, zR 228), (1, zR (B0 0)), (0, zR (zbg + 500))] [] σ lQ1 := by
  have e1 : zbg = 1000000 := rfl
  obtain ⟨hL, hO, hU, he, hC, hp, hM, hW⟩ := id hS
  have hb := hb0
  unfold lb at hb
  have hV := hL.2.2.1.1.v
  have hu := hL.2.2.1.2.1
  change 0 ≤ u ∧ u ≤ 10 at hu
  have hn := hV.n
  have m6 := hM.2.1
  obtain ⟨g0, gf, g1, g2, g3, g4⟩ := id g
  have n0 := hC.1.1
  have n2 := hC.1.2.2
  refine zF_iload 248 dL_law_246 rfl rfl ?_
  refine zF_bipush 250 dL_law_248 rfl (by decide) ?_
  refine zF_icmp_ge 443 253 dL_law_250 rfl rfl (by first | decide | assumption | (constructor <;> omega)) (by first | decide | assumption | (constructor <;> omega)) (fun c1 => ?_) (fun c1 => ?_)
  · exact absurd c1 (by omega)
  · refine zF_aload_n 254 dL_law_253 rfl rfl ?_
    refine zF_bipush 256 dL_law_254 rfl (by decide) ?_
    refine zF_iload 258 dL_law_256 rfl rfl ?_
    refine zF_bipush 260 dL_law_258 rfl (by decide) ?_
    refine zF_irem 261 dL_law_260 rfl (by omega) (by omega) (by omega) (by omega) ?_
    refine zF_iadd 262 dL_law_261 rfl ?_
    refine zF_callS 265 (d2 := (d + 13)) (as := [zR (zbg + 500), zI (8 + (((k : Nat) : Int) % 24))]) dL_law_262 rfl kL_23 sL_cell (Nat.le_refl _) rfl rfl (Nat.le_of_ble_eq_true rfl) (zE.mono (zt_L_cellI hX (by omega) (by omega)) fun ro σx262 hh262 => ?_)
    obtain ⟨es262, z262, er262, -⟩ := hh262
    replace es262 := es262.symm
    subst es262
    subst er262
    refine ⟨rfl, ?_⟩
    show zF G mL_law (d + 14) 265 [(9, zI ((k : Nat) : Int)), (8, zI u), (7, zR a7), (6, zR a6), (4, zL (aV N0)), (3, zR 229), (2, zR 228), (1, zR (B0 0)), (0, zR (zbg + 500))] [zI z262] σ _
    refine zF_iload 267 dL_law_265 rfl rfl ?_
    refine zF_bipush 269 dL_law_267 rfl (by decide) ?_
    refine zF_idiv 270 dL_law_269 rfl (by omega) (by omega) (by omega) (by omega) ?_
    refine zF_iconst 271 dL_law_270 rfl ?_
    refine zF_imul 272 dL_law_271 rfl ?_
    refine zF_ishr 273 dL_law_272 rfl ?_
    refine zF_istore 275 (ls' := [(10, zI ((Int32.ofInt z262 >>> (Int32.ofInt ((((k : Nat) : Int) / 24) * 3) &&& 31)).toInt)), (9, zI ((k : Nat) : Int)), (8, zI u), (7, zR a7), (6, zR a6), (4, zL (aV N0)), (3, zR 229), (2, zR 228), (1, zR (B0 0)), (0, zR (zbg + 500))]) dL_law_273 rfl (by decide) rfl ?_
    refine zF_aload_n 276 dL_law_275 rfl rfl ?_
    refine zF_callS 279 (d2 := (d + 13)) (as := [zR (B0 0)]) dL_law_276 rfl kL_210 sL_all (Nat.le_refl _) rfl rfl (Nat.le_of_ble_eq_true rfl) (zE.mono (zt_L_all hGd (show cK _ N σ from hL.K)) fun ro σx276 hh276 => ?_)
    obtain ⟨es276, er276⟩ := hh276
    replace es276 := es276.symm
    subst es276
    subst er276
    refine ⟨rfl, ?_⟩
    show zF G mL_law (d + 14) 279 [(10, zI ((Int32.ofInt z262 >>> (Int32.ofInt ((((k : Nat) : Int) / 24) * 3) &&& 31)).toInt)), (9, zI ((k : Nat) : Int)), (8, zI u), (7, zR a7), (6, zR a6), (4, zL (aV N0)), (3, zR 229), (2, zR 228), (1, zR (B0 0)), (0, zR (zbg + 500))] [zL (aV N)] σ _
    refine zF_lstore 281 (ls' := [(11, zL (aV N)), (10, zI ((Int32.ofInt z262 >>> (Int32.ofInt ((((k : Nat) : Int) / 24) * 3) &&& 31)).toInt)), (9, zI ((k : Nat) : Int)), (8, zI u), (7, zR a7), (6, zR a6), (4, zL (aV N0)), (3, zR 229), (2, zR 228), (1, zR (B0 0)), (0, zR (zbg + 500))]) dL_law_279 rfl (by decide) rfl ?_
    refine zF_aload_n 282 dL_law_281 rfl rfl ?_
    refine zF_aload_n 283 dL_law_282 rfl rfl ?_
    refine zF_iload 285 dL_law_283 rfl rfl ?_
    have hact := zt_L_act (d := d + 3) (vv := ((Int32.ofInt z262 >>> (Int32.ofInt ((((k : Nat) : Int) / 24) * 3) &&& 31)).toInt)) hGd hAO hL (by omega) hO hU (by decide) (by omega) (by omega) (by omega) (by omega)
    rw [he] at hact
    refine zF_callSn 288 (d2 := (d + 13)) (as := [zR (B0 0), zR 229, zI ((Int32.ofInt z262 >>> (Int32.ofInt ((((k : Nat) : Int) / 24) * 3) &&& 31)).toInt)]) dL_law_285 rfl kL_246 sL_act (Nat.le_refl _) rfl rfl (Nat.le_of_ble_eq_true rfl) (by exact (⟨trivial, trivial, trivial, trivial, zwR (show a7 < zn σ from hM.2.1.2.2.2.1), zwR (show a6 < zn σ from hM.2.1.2.1), trivial, zwR (show 229 < zn σ from (by omega)), zwR (show 228 < zn σ from (by omega)), zwR (show (B0 0) < zn σ from hL.1.bl), zwO, trivial⟩ : _ ∧ _ ∧ _ ∧ _ ∧ _ ∧ _ ∧ _ ∧ _ ∧ _ ∧ _ ∧ _ ∧ True)) (by exact trivial) (zE.mono hact fun ro σa hh285 => ?_)
    obtain ⟨v285, N1, E1, er285, ae285, b285, hE285, e285, U285, O285, or285⟩ := hh285
    subst er285
    show zF G mL_law (d + 14) 288 [(11, zL (aV N)), (10, zI ((Int32.ofInt z262 >>> (Int32.ofInt ((((k : Nat) : Int) / 24) * 3) &&& 31)).toInt)), (9, zI ((k : Nat) : Int)), (8, zI u), (7, zR a7), (6, zR a6), (4, zL (aV N0)), (3, zR 229), (2, zR 228), (1, zR (B0 0)), (0, zR (zbg + 500))] [zI v285] σa _
    refine zF_istore 290 (ls' := [(13, zI v285), (11, zL (aV N)), (10, zI ((Int32.ofInt z262 >>> (Int32.ofInt ((((k : Nat) : Int) / 24) * 3) &&& 31)).toInt)), (9, zI ((k : Nat) : Int)), (8, zI u), (7, zR a7), (6, zR a6), (4, zL (aV N0)), (3, zR 229), (2, zR 228), (1, zR (B0 0)), (0, zR (zbg + 500))]) dL_law_288 rfl (by decide) rfl ?_
    exact law_3p hGd hk g hS hb0 ae285 b285 hE285 e285 U285 O285 or285 Kn
theorem law_3 (hGd : zGd G) (g : lG N0) (hX : zSx G L xs) (hAO : zAO G) (K : ∀ N H u E σ, lT N0 a6 a7 32 N H u E σ → lb 640 σ → zF G mL_law (d + 14) 443 [(9, zI 32), (8, zI u), (7, zR a7), (6, zR a6), (4, zL (aV N0)), (3, zR 229), (2, zR 228), (1, zR (B0 0)), (0, zR (zbg + 500))] [] σ lQ1) : ∀ m k : Nat, k + m = 32 → ∀ N H u E σ, lT N0 a6 a7 (k : Int) N H u E σ → lb (20 * k) σ → zF G mL_law (d + 14) 246 [(9, zI ((k : Nat) : Int)), (8, zI u), (7, zR a7), (6, zR a6), (4, zL (aV N0)), (3, zR 229), (2, zR 228), (1, zR (B0 0)), (0, zR (zbg + 500))] [] σ lQ1 := fun m => by
  induction m with
  | zero =>
    intro k hk N H u E σ hS hb
    have e : k = 32 := by omega
    subst e
    refine zF_iload 248 dL_law_246 rfl rfl ?_
    refine zF_bipush 250 dL_law_248 rfl (by decide) ?_
    refine zF_icmp_ge 443 253 dL_law_250 rfl rfl (by constructor <;> omega) (by decide) (fun c1 => ?_) (fun c1 => ?_)
    · exact K _ _ _ _ _ hS hb
    · exact absurd c1 (by decide)
  | succ m ih =>
    intro k hk N H u E σ hS hb
    exact law_3a hGd (by omega) g hX hAO hS hb fun N H u E σ s q => ih (k + 1) (by omega) N H u E σ s (by have e : 20 * (k + 1) = 20 * k + 20 := by omega
                                                                                                          rw [e]; exact q)
end ZQO

/-! behind the loop: the prints again, all taken back, the snapshot -/
section ZQP
variable {G : zG} {d L k b x y : Nat} {xs : Nat → Int32} {σ σ1 σ2 : zMem} {N N0 N1 : Int → Int} {H : Int → Int → Int} {T u vv v : Int} {S : zS} {E E1 : Nat → Nat} {a6 a7 : Nat}
/-- what is still asked behind the loop -/
def lY (N0 : Int → Int) (a7 : Nat) (σ : zMem) : Prop := zkd σ a7 = (4, 10) ∧ (229 ≤ a7 ∧ a7 < zn σ) ∧ cRs N0 σ B0 2000 ∧ zia σ (B0 600) ((4 : Nat) : Int) = 1
theorem lY.mu (h : lY N0 a7 σ) (m : zMu (zn σ) σ σ1) (hz : zn σ ≤ zbg) : lY N0 a7 σ1 := by
  obtain ⟨k7, ⟨p1, p2⟩, sn, s4⟩ := h
  have gr := m.1
  refine ⟨(m.2 a7 (Or.inl p2)).1.trans k7, ⟨p1, by omega⟩, cRs_ib (fun q hm h2 j => ?_) sn, (((m.2 (B0 600) (Or.inl (by have := B0_h3.2.2; omega))).2 _).2 (fun z => ?_)).trans s4⟩
  · have b := B0_h5 q hm h2
    exact ((m.2 (B0 (2000 + q)) (Or.inl (by omega))).2 j).2 (fun z => by
      obtain ⟨i, _, q, e⟩ := cMu_i z
      have := B0_inj _ _ e
      omega)
  · rcases z with ⟨⟨i, _, q, e⟩, _⟩ | z | ⟨i, q, _, e⟩
    · have := B0_inj _ _ e; omega
    · have := z.2; omega
    · have := B0_inj _ _ e; omega
theorem lW.mu (w : lW H u a7 σ) (h : lY N0 a7 σ) (m : zMu (zn σ) σ σ1) (hz : zn σ ≤ zbg) : lW H u a7 σ1 := fun j j0 j1 => (((m.2 a7 (Or.inl h.2.1.2)).2 j).2 (B_not (by have := h.2.1.1; omega) (by have := h.2.1.2; omega) j)).trans (w j j0 j1)
def lZ (N0 : Int → Int) (a7 : Nat) (N : Int → Int) (H : Int → Int → Int) (u : Int) (σ : zMem) : Prop := cL 32 (N, H, u) σ ∧ cE N0 N ∧ lW H u a7 σ ∧ lY N0 a7 σ
/-- the sums of prints, taken down -/
def sJ (N0 N : Int → Int) (a6 : Nat) (σ : zMem) (x y : Nat) (σ1 : zMem) : Prop := zFr (fun h _ => h = a6) σ σ1 ∧ zia σ1 a6 (x : Int) = (if (x : Int) < N0 2 then prSum N0 x - zsum (fun p => mP N x (p + -1)) y else zia σ a6 (x : Int)) ∧ ∀ f : Nat, x < f → zia σ1 a6 (f : Int) = zia σ a6 (f : Int)
theorem sJ_0 (hM : lM N0 a6 a7 E σ) (h : 1 ≤ N0 2) : sJ N0 N a6 σ 0 0 σ := ⟨⟨rfl, rfl, rfl, rfl, rfl, fun _ _ _ => rfl⟩, by rw [if_pos (by omega), hM.2.2.2.2.1 _ (by omega) (by omega)]; exact (Int.sub_zero _).symm, fun f _ => rfl⟩
theorem sJ_y (h : sJ N0 N a6 σ x y σ1) (hx : (x : Int) < N0 2) : sJ N0 N a6 σ x (y + 1) (zsi σ1 a6 (x : Int) (zia σ1 a6 (x : Int) - mP N x ((y : Int) + -1))) := by
  obtain ⟨f, v, r⟩ := h
  refine ⟨⟨f.1, f.2.1, f.2.2.1, f.2.2.2.1, f.2.2.2.2.1, fun h i n => (zsi_N (fun e => n e) rfl).trans (f.2.2.2.2.2 h i n)⟩, ?_, fun q hq => ?_⟩
  · rw [zsi_same, v, if_pos hx, if_pos hx]
    show _ = prSum N0 x - (zsum (fun p => mP N x (p + -1)) y + mP N x ((y : Int) + -1))
    omega
  · rw [zia_si, if_neg (by omega)]; exact r q hq
theorem sJ_x (hM : lM N0 a6 a7 E σ) (h : sJ N0 N a6 σ x y σ1) : sJ N0 N a6 σ (x + 1) 0 σ1 := by
  obtain ⟨f, v, r⟩ := h
  refine ⟨f, ?_, fun q hq => r q (by omega)⟩
  rw [r (x + 1) (by omega)]
  split
  · rename_i c
    rw [hM.2.2.2.2.1 _ (by omega) c]
    exact (Int.sub_zero _).symm
  · rfl
theorem s6 (hL : cL T (N, H, u) σ) (hO : eO N σ E) (hM : lM N0 a6 a7 E σ) (hz : zn σ ≤ zbg) (f : zFr (fun h _ => h = a6) σ σ1) : cL T (N, H, u) σ1 ∧ eO N σ1 E ∧ lY N0 a7 σ1 ∧ (lW H u a7 σ → lW H u a7 σ1) ∧ (zkd σ1 a6 = (1, (N0 2).toNat) ∧ a6 < zn σ1) := by
  obtain ⟨ne, ⟨p1, p2, p3, p4, p5⟩, k6, k7, v6, sn, s4⟩ := id hM
  refine ⟨hL.gx (n := 229) ⟨by rw [f.1]; exact Nat.le_refl _, fun x hx => ⟨by rw [f.2.1], fun j => ⟨by rw [f.2.2.1], f.2.2.2.2.2 x j (fun e => by have e2 : x = a6 := e; omega)⟩⟩⟩ (by decide), hO.fr f (fun i j e => (ne i).1 e), ⟨by rw [f.2.1]; exact k7, ⟨p3, by rw [f.1]; exact p4⟩, cRs_ib (fun m hm h2 j => f.2.2.2.2.2 _ j (fun e => ?_)) sn, (f.2.2.2.2.2 _ _ (fun e => ?_)).trans s4⟩, fun w j j0 j1 => (f.2.2.2.2.2 a7 j (fun e => p5 e.symm)).trans (w j j0 j1), by rw [f.2.1]; exact k6, by rw [f.1]; exact p2⟩
  · have b := B0_h5 m hm h2
    have e2 : B0 (2000 + m) = a6 := e
    omega
  · have b := B0_h3.2.2
    have e2 : B0 600 = a6 := e
    omega
theorem un_1 (hL : cL T (N, H, u) σ) (u0 : 0 < u) : oUnV (N, H, u) = u - 1 ∧ oUnS (N, H, u) = (H (u - 1), H, u - 1) ∧ cE N (H (u - 1)) := ⟨if_neg (by show ¬ u = 0; omega), if_neg (by show ¬ u = 0; omega), (hL.2.2.1.2.2 (u - 1) (by omega) (show u - 1 < u by omega)).2⟩
theorem gN_32 (g : gN 0 N0) : gN 32 N0 := ⟨g.1, g.2.1, g.2.2.1, g.2.2.2.1, g.2.2.2.2.1, by have := g.2.2.2.2.2; omega⟩
set_option maxRecDepth 20000 in
theorem law_5 (hGd : zGd G) (g : lG N0) (hZ : lZ N0 a7 N H 0 σ) (hb0 : lb 640 σ) (ha6 : a6 < zn σ) : zF G mL_law (d + 14) 546 [(9, zI v), (8, zI u), (7, zR a7), (6, zR a6), (4, zL (aV N0)), (3, zR 229), (2, zR 228), (1, zR (B0 0)), (0, zR (zbg + 500))] [] σ lQ1 := by
  have e1 : zbg = 1000000 := rfl
  obtain ⟨hL, hC, hW, hY⟩ := hZ
  have hb := hb0
  unfold lb at hb
  have hn := hL.2.2.1.1.v.n
  have n0 := hC.1.1
  have n2 := hC.1.2.2
  obtain ⟨g0, gf, g1, g2, g3, g4⟩ := id g
  have y1 := hY.2.1
  refine zF_aload_n 547 dL_law_546 rfl rfl ?_
  refine zF_callV 550 (d2 := (d + 13)) (as := []) dL_law_547 rfl kL_220 iX11_undo (ci := 11) rfl eX11_undo (Nat.le_refl _) hL.1.bk hL.1.bl rfl rfl (Nat.le_of_ble_eq_true rfl) (zE.mono (pL_undo hGd hL) fun ro σu hh547 => ?_)
  obtain ⟨er547, fr547, Lu⟩ := hh547
  rw [show oUnV (N, H, 0) = -1 from rfl] at er547
  subst er547
  refine ⟨fr547.1, ?_⟩
  rw [show oUnS (N, H, 0) = (N, H, 0) from rfl] at Lu
  have Yu := hY.mu (zMu_fr fr547) (by omega)
  have zu : zn σu = zn σ := fr547.1
  have hbu : lb 640 σu := lb.zb (m := 0) hb0 (zB_fr fr547)
  show zF G mL_law (d + 14) 550 [(9, zI v), (8, zI u), (7, zR a7), (6, zR a6), (4, zL (aV N0)), (3, zR 229), (2, zR 228), (1, zR (B0 0)), (0, zR (zbg + 500))] [zI (-1)] σu _
  refine zF_iconst 551 dL_law_550 rfl ?_
  refine zF_icmp_ne 569 554 dL_law_551 rfl rfl (by first | decide | assumption | (constructor <;> omega)) (by first | decide | assumption | (constructor <;> omega)) (fun c1 => ?_) (fun c1 => ?_)
  · exact absurd c1 (by first | decide | simp)
  · refine zF_aload_n 555 dL_law_554 rfl rfl ?_
    refine zF_callSn 558 (d2 := (d + 13)) (as := [zR (B0 0)]) dL_law_555 rfl kL_253 sL_isClosed (Nat.le_refl _) rfl rfl (Nat.le_of_ble_eq_true rfl) (by exact (⟨trivial, trivial, zwR (show a7 < zn σu from Yu.2.1.2), zwR (show a6 < zn σu from (by omega)), trivial, zwR (show 229 < zn σu from (by omega)), zwR (show 228 < zn σu from (by omega)), zwR (show (B0 0) < zn σu from Lu.1.bl), zwO, trivial⟩ : _ ∧ _ ∧ _ ∧ _ ∧ _ ∧ _ ∧ _ ∧ _ ∧ _ ∧ True)) (by exact trivial) (zE.mono (zt_L_isClosed hGd Lu (by decide) (by decide) (by omega)) fun ro σc hh555 => ?_)
    obtain ⟨er555, mu555, zb555, H1, Lc, -⟩ := hh555
    subst er555
    have Yc := Yu.mu mu555 (by omega)
    have hbc : lb 643 σc := hbu.zb zb555
    have zc : zn σc ≤ 1043 := hbc.1
    show zF G mL_law (d + 14) 558 [(9, zI v), (8, zI u), (7, zR a7), (6, zR a6), (4, zL (aV N0)), (3, zR 229), (2, zR 228), (1, zR (B0 0)), (0, zR (zbg + 500))] [zI 1] σc _
    refine zF_if_eq 569 561 dL_law_558 rfl rfl (by first | decide | assumption | (constructor <;> omega)) (fun c2 => ?_) (fun c2 => ?_)
    · exact absurd c2 (by first | decide | simp)
    · refine zF_aload_n 562 dL_law_561 rfl rfl ?_
      refine zF_iconst 563 dL_law_562 rfl ?_
      refine zF_callS 566 (d2 := (d + 13)) (as := [zR (B0 0), zI 0]) dL_law_563 rfl kL_256 sL_isBest (Nat.le_refl _) rfl rfl (Nat.le_of_ble_eq_true rfl) (zE.mono (zt_L_isBest (h := 0) hGd Lc (by decide) (by decide) (by omega)) fun ro σb hh563 => ?_)
      obtain ⟨er563, fr563, H2, Lb, -⟩ := hh563
      subst er563
      refine ⟨fr563.1, ?_⟩
      have Yb := Yc.mu (zMu_fr fr563) (by omega)
      have zb : zn σb = zn σc := fr563.1
      show zF G mL_law (d + 14) 566 [(9, zI v), (8, zI u), (7, zR a7), (6, zR a6), (4, zL (aV N0)), (3, zR 229), (2, zR 228), (1, zR (B0 0)), (0, zR (zbg + 500))] [zI 1] σb _
      refine zF_if_ne 571 569 dL_law_566 rfl rfl (by first | decide | assumption | (constructor <;> omega)) (fun c3 => ?_) (fun c3 => ?_)
      · refine zF_aload_n 572 dL_law_571 rfl rfl ?_
        refine zF_callS 575 (d2 := (d + 13)) (as := [zR (B0 0)]) dL_law_572 rfl kL_229 sL_isSound (Nat.le_refl _) rfl rfl (Nat.le_of_ble_eq_true rfl) (zE.mono (zt_L_isSound hGd Lb.K) fun ro σs hh572 => ?_)
        obtain ⟨er572, fr572⟩ := hh572
        subst er572
        refine ⟨fr572.1, ?_⟩
        have Ls := Lb.sc fr572
        have Ys := Yb.mu (zMu_fr (cSc_mu fr572)) (by omega)
        show zF G mL_law (d + 14) 575 [(9, zI v), (8, zI u), (7, zR a7), (6, zR a6), (4, zL (aV N0)), (3, zR 229), (2, zR 228), (1, zR (B0 0)), (0, zR (zbg + 500))] [zI 1] σs _
        refine zF_if_eq 606 578 dL_law_575 rfl rfl (by first | decide | assumption | (constructor <;> omega)) (fun c4 => ?_) (fun c4 => ?_)
        · exact absurd c4 (by first | decide | simp)
        · refine zF_aload_n 579 dL_law_578 rfl rfl ?_
          refine zF_callV 582 (d2 := (d + 13)) (as := []) dL_law_579 rfl kL_260 iX11_restoreSnapshot (ci := 11) rfl eX11_restoreSnapshot (Nat.le_refl _) Ls.1.bk Ls.1.bl rfl rfl (Nat.le_of_ble_eq_true rfl) (zE.mono (copM_0 (zt_X11_restoreSnapshot (b := 1) (Sn := N0) hGd Ls.1.cO Ls.1.cHs Ls.2.1 Ls.2.2.1 Ys.2.2.2 (Or.inr rfl) (fun _ => Ys.2.2.1) ⟨gN_32 g0, hC.sy⟩) rfl) fun ro σr hh579 => ?_)
          obtain ⟨er579, fr579, cr⟩ := hh579
          subst er579
          refine ⟨fr579.1, ?_⟩
          have cr2 : cST (N0, H2, 0) σr B0 := cr
          have Lr : cL 32 (N0, H2, 0) σr := Ls.op fr579 cr2 ⟨gN_32 g0, (show (0 : Int) ≤ 0 ∧ (0 : Int) ≤ 10 from by decide), fun k k0 k1 => absurd (show k < (0 : Int) from k1) (by omega)⟩ ⟨gf, fun k k0 k1 => absurd (show k < (0 : Int) from k1) (by omega)⟩
          show zF G mL_law (d + 14) 582 [(9, zI v), (8, zI u), (7, zR a7), (6, zR a6), (4, zL (aV N0)), (3, zR 229), (2, zR 228), (1, zR (B0 0)), (0, zR (zbg + 500))] [zI 1] σr _
          refine zF_if_eq 606 585 dL_law_582 rfl rfl (by first | decide | assumption | (constructor <;> omega)) (fun c5 => ?_) (fun c5 => ?_)
          · exact absurd c5 (by first | decide | simp)
          · refine zF_aload_n 586 dL_law_585 rfl rfl ?_
            refine zF_callS 589 (d2 := (d + 13)) (as := [zR (B0 0)]) dL_law_586 rfl kL_210 sL_all (Nat.le_refl _) rfl rfl (Nat.le_of_ble_eq_true rfl) (zE.mono (zt_L_all hGd (show cK _ N0 σr from Lr.K)) fun ro σx586 hh586 => ?_)
            obtain ⟨es586, er586⟩ := hh586
            replace es586 := es586.symm
            subst es586
            subst er586
            refine ⟨rfl, ?_⟩
            show zF G mL_law (d + 14) 589 [(9, zI v), (8, zI u), (7, zR a7), (6, zR a6), (4, zL (aV N0)), (3, zR 229), (2, zR 228), (1, zR (B0 0)), (0, zR (zbg + 500))] [zL (aV N0)] σr _
            refine zF_lload 591 dL_law_589 rfl rfl ?_
            refine zF_Lw2 ?_
            refine zF_lcmp 592 dL_law_591 rfl (w64_rg _) (w64_rg _) ?_
            rw [zlcm_self]
            refine zF_if_ne 606 595 dL_law_592 rfl rfl (by first | decide | assumption | (constructor <;> omega)) (fun c6 => ?_) (fun c6 => ?_)
            · exact absurd c6 (by first | decide | simp)
            · refine zF_aload_n 596 dL_law_595 rfl rfl ?_
              refine zF_callV 599 (d2 := (d + 13)) (as := []) dL_law_596 rfl kL_250 iX11_undoCount (ci := 11) rfl eX11_undoCount (Nat.le_refl _) Lr.1.bk Lr.1.bl rfl rfl (Nat.le_of_ble_eq_true rfl) (zE.mono (pL_undoCount hGd Lr) fun ro σx596 hh596 => ?_)
              obtain ⟨es596, er596⟩ := hh596
              replace es596 := es596.symm
              subst es596
              subst er596
              refine ⟨rfl, ?_⟩
              show zF G mL_law (d + 14) 599 [(9, zI v), (8, zI u), (7, zR a7), (6, zR a6), (4, zL (aV N0)), (3, zR 229), (2, zR 228), (1, zR (B0 0)), (0, zR (zbg + 500))] [zI 0] σr _
              refine zF_if_ne 606 602 dL_law_599 rfl rfl (by first | decide | assumption | (constructor <;> omega)) (fun c7 => ?_) (fun c7 => ?_)
              · exact absurd c7 (by first | decide | simp)
              · refine zF_iconst 603 dL_law_602 rfl ?_
                refine zF_goto 607 dL_law_603 rfl ?_
                exact zF_zreturn dL_law_607 rfl (by decide) (⟨rfl, (by have a := fr563.2.2.2.1; have b := fr572.2.2.2.1; have c := fr579.2.2.2.1; have q : zcs σc ≤ 500 + 643 := hbc.2.1; omega), (by have a := fr563.2.2.2.2.1; have b := fr572.2.2.2.2.1; have c := fr579.2.2.2.2.1; have q : zss σc ≤ 20000 + 100 * 643 := hbc.2.2; omega)⟩)
      · exact absurd c3 (by first | decide | simp)
end ZQP

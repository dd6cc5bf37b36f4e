/-! the law: the chain drawn, told, saved, its prints summed -/
section ZQM
variable {G : zG} {d L : Nat} {xs : Nat → Int32} {σ σ1 : zMem} {N : Int → Int} {H : Int → Int → Int} {T : Int} {S : zS} {E : Nat → Nat}
theorem eU_D {n : Nat} (h : eU E 229 n) (hz : n ≤ zbg) : eD E 228 := fun i => by
  have q := h i
  have e1 : zbg = 1000000 := rfl
  refine ⟨by omega, fun k => ?_⟩
  have := B0_lt k
  omega
/-- what the chain that was told has -/
theorem tl_G {D : Int → Int} (hN : dN N) (v : ldV D) (iv : iV N (N 0).toNat (N 1).toNat (N 2).toNat D) : (ldN D 0 = N 0 ∧ ldN D 1 = N 1 ∧ ldN D 2 = N 2) ∧ lG (ldN D) := by
  have n := hN.1
  obtain ⟨⟨d0, d1, d2⟩, -⟩ := iv
  have e0 : ldN D 0 = N 0 := (show ldN D 0 = D 0 from if_pos (by omega)).trans (by omega)
  have e1 : ldN D 1 = N 1 := (show ldN D 1 = D 1 from if_pos (by omega)).trans (by omega)
  have e2 : ldN D 2 = N 2 := (show ldN D 2 = D 2 from if_pos (by omega)).trans (by omega)
  exact ⟨⟨e0, e1, e2⟩, (ldV_gN v).1, (ldV_gN v).2.1, by omega, by omega, by omega, by omega⟩
theorem PBw_n {wh : Nat} (f : zFr (PBw wh) σ σ1) (h1 : 228 ≤ wh) (h2 : wh < zbg) : zia σ1 (B0 600) ((1 : Nat) : Int) = zia σ (B0 600) ((1 : Nat) : Int) ∧ zia σ1 (B0 408) 0 = zia σ (B0 408) 0 := ⟨f.2.2.2.2.2 _ _ (fun z => z.elim (B0_w h1 h2 600) (fun z => z.2.1 ⟨rfl, rfl⟩)), f.2.2.2.2.2 _ _ (fun z => z.elim (B0_w h1 h2 408) (fun z => z.2.2 rfl))⟩
theorem tI_gw (h : tI [] 228 σ) (g : zGw 229 σ σ1) : tI [] 228 σ1 := by
  obtain ⟨k, l, x, a, b, c, e⟩ := h
  have i : ∀ x, x < 229 → ∀ j, zia σ1 x j = zia σ x j := fun x hx j => ((g.2 x hx).2 j).2
  have b0 : B0 0 < 229 := by decide +kernel
  exact ⟨(g.2 228 (by decide)).1.trans k, ⟨l.1, Nat.lt_of_lt_of_le l.2 g.1⟩, x, (i 228 (by decide) 5).trans a, (i _ b0 _).trans b, fun j hj => absurd hj (by show ¬ j < 0; omega), fun j hj => (i 228 (by decide) _).trans (e j hj)⟩
/-- saved: nothing else is changed -/
theorem cL_sv (c : cL T S σ) (f : zFr (fun h j => (h = B0 600 ∧ j = 4) ∨ zRg 2000 2016 B0 h j) σ σ1) (q : cST S σ1 B0) : cL T S σ1 := ⟨c.1.fr f, q, c.2.2.1, (f.2.2.2.2.2 _ _ (fun z => by
  rcases z with z | ⟨i, a, _, e⟩
  · have := B0_inj _ _ z.1; omega
  · have := B0_inj _ _ e; omega)).trans c.2.2.2.1, c.2.2.2.2⟩
theorem sv_E {n0 n : Nat} (h : eU E n0 n) (hn : 228 ≤ n0) (hz : n ≤ zbg) (i : Nat) (j : Int) : ¬ ((E i = B0 600 ∧ j = 4) ∨ zRg 2000 2016 B0 (E i) j) := fun z => by
  have q := h i
  have e1 : zbg = 1000000 := rfl
  rcases z with z | ⟨k, _, _, e⟩
  · have := B0_lt 600; omega
  · have := B0_lt k; omega
set_option maxHeartbeats 4000000 in
set_option maxRecDepth 20000 in
theorem law_2 (hGd : zGd G) (hG1 : zOS G) (hAO : zAO G) (hX : zSx G L xs) (hL : cL 0 S σ) (hT : tI [] 228 σ) (hn : zn σ = 229) (hc : zcs σ ≤ 300 ∧ zss σ ≤ 9300) (K : ∀ N0 E a6 a7 σ, lG N0 → lS N0 a6 a7 0 N0 (fun _ _ => 0) 0 E σ → zF G mL_law (d + 14) 246 [(9, zI 0), (8, zI 0), (7, zR a7), (6, zR a6), (4, zL (aV N0)), (3, zR (E 0)), (2, zR 228), (1, zR (B0 0)), (0, zR (zbg + 500))] [] σ lQ1) : zF G mL_law (d + 14) 136 [(2, zR 228), (1, zR (B0 0)), (0, zR (zbg + 500))] [] σ lQ1 := by
  have e1 : zbg = 1000000 := rfl
  refine zF_aload_n 137 dL_law_136 rfl rfl ?_
  refine zF_iconst 138 dL_law_137 rfl ?_
  refine zF_callSn 141 (d2 := (d + 13)) (as := [zR (zbg + 500), zI 0]) dL_law_138 rfl kL_235 sL_drawn (Nat.le_refl _) rfl rfl (Nat.le_of_ble_eq_true rfl) (by exact (⟨zwR (show 228 < zn σ from hT.2.1.2), zwR (show B0 0 < zn σ from hL.1.bl), zwO, trivial⟩ : _ ∧ _ ∧ _ ∧ True)) (by exact trivial) (zE.mono (zt_L_drawn hX hAO (by omega)) fun ro σd hh138 => ?_)
  obtain ⟨er138, N, E, hN, hV, e0, hE, hU, gd, bd⟩ := hh138
  subst er138
  have zg0 := gd.1
  rw [hn] at gd hU
  obtain ⟨bd1, bd2, bd3⟩ := bd
  have n := hN.1
  have E228 := hU.ge228 (by decide)
  have Ld : cL 0 S σd := hL.ge (zGE.gw (E := E) gd) (by decide) E228
  have Td := tI_gw hT gd
  have hD := eU_D hU (by omega)
  rw [← e0]
  show zF G mL_law (d + 14) 141 [(2, zR 228), (1, zR (B0 0)), (0, zR (zbg + 500))] [zR (E 0)] σd _
  refine zF_astore_n 142 (ls' := [(3, zR (E 0)), (2, zR 228), (1, zR (B0 0)), (0, zR (zbg + 500))]) dL_law_141 rfl (by decide) rfl ?_
  refine zF_aload_n 143 dL_law_142 rfl rfl ?_
  refine zF_aload_n 144 dL_law_143 rfl rfl ?_
  refine zF_aload_n 145 dL_law_144 rfl rfl ?_
  refine zF_callS 148 (d2 := (d + 13)) (as := [zR (B0 0), zR 228, zR (E 0)]) dL_law_145 rfl kL_239 sL_tell (Nat.le_refl _) rfl rfl (Nat.le_of_ble_eq_true rfl) (zE.mono (zt_L_tell hGd hG1 Ld.1 Td hE hN hD (by decide)) fun ro σt hh145 => ?_)
  obtain ⟨er145, fr145, Tt, Ot, u0, s0, D, vD, cD, iv, ip, d4⟩ := hh145
  subst er145
  refine ⟨fr145.1, ?_⟩
  have hO := eO_ld hN vD iv ip d4 Ot
  obtain ⟨⟨q0, q1, q2⟩, g⟩ := tl_G hN vD iv
  have pn := PBw_n fr145 (by decide) (by decide)
  obtain ⟨-, nx, h1, -, ⟨b0, b1, -⟩, -⟩ := Ld.2.1
  have gt : zGw 0 σt σt := zGw.rf
  have Lt : cL 0 (ldN D, (fun _ _ => 0), 0) σt := cL_mk (Ld.1.fr fr145) cD (by rw [pn.1, h1]; exact ⟨b0, b1⟩) u0 g.1 g.2.1 (pn.2.trans Ld.2.2.2.1)
  have hEU : eU E 229 (zn σt) := by rw [fr145.1]; exact hU
  clear u0 s0 cD iv ip d4 vD
  generalize ldN D = N0 at *
  have g0 := g.1.v
  have hn0 := g0.n
  have hf0 := nF_eq g0
  have hh0 := nH_eq g0
  show zF G mL_law (d + 14) 148 [(3, zR (E 0)), (2, zR 228), (1, zR (B0 0)), (0, zR (zbg + 500))] [zI (N 1)] σt _
  refine zF_aload_n 149 dL_law_148 rfl rfl ?_
  refine zF_getIN 152 dL_law_149 rfl gnL_55 (by decide) (by decide) hO.k0 hO.l0 hO.i1 ?_
  refine zF_icmp_ne 162 155 dL_law_152 rfl rfl (by first | decide | assumption | (constructor <;> omega)) (by first | decide | assumption | (constructor <;> omega)) (fun c1 => ?_) (fun c1 => ?_)
  · refine zF_iconst 163 dL_law_162 rfl ?_
    exact zF_zreturn dL_law_163 rfl (by decide) (by exfalso; omega)
  · refine zF_aload_n 156 dL_law_155 rfl rfl ?_
    refine zF_callS 159 (d2 := (d + 13)) (as := [zR (B0 0)]) dL_law_156 rfl kL_229 sL_isSound (Nat.le_refl _) rfl rfl (Nat.le_of_ble_eq_true rfl) (zE.mono (zt_L_isSound hGd Lt.K) fun ro σs hh156 => ?_)
    obtain ⟨er156, fr156⟩ := hh156
    subst er156
    refine ⟨fr156.1, ?_⟩
    have Ls := Lt.sc fr156
    have Os := hO.mu (cSc_mu fr156) hEU (by decide) (by have := fr145.1; omega)
    show zF G mL_law (d + 14) 159 [(3, zR (E 0)), (2, zR 228), (1, zR (B0 0)), (0, zR (zbg + 500))] [zI 1] σs _
    refine zF_if_ne 164 162 dL_law_159 rfl rfl (by first | decide | assumption | (constructor <;> omega)) (fun c2 => ?_) (fun c2 => ?_)
    · refine zF_aload_n 165 dL_law_164 rfl rfl ?_
      refine zF_callV 168 (d2 := (d + 13)) (as := []) dL_law_165 rfl kL_243 iX11_saveSnapshot (ci := 11) rfl eX11_saveSnapshot (Nat.le_refl _) Ls.1.bk Ls.1.bl rfl rfl (Nat.le_of_ble_eq_true rfl) (zE.mono (zt_X11_saveSnapshot hGd Ls.1.cO Ls.1.cHs Ls.2.1 Ls.2.2.1) fun ro σv hh165 => ?_)
      obtain ⟨er165, fr165, cv, sn, s4⟩ := hh165
      subst er165
      refine ⟨fr165.1, ?_⟩
      have Lv := cL_sv Ls fr165 cv
      have zv : zn σv = zn σd := by rw [fr165.1, fr156.1, fr145.1]
      have hUv : eU E 229 (zn σv) := by rw [zv]; exact hU
      have Ov : eO N0 σv E := Os.fr fr165 (sv_E hUv (by decide) (by omega))
      have zc : zcs σv = zcs σd := by rw [fr165.2.2.2.1, fr156.2.2.2.1, fr145.2.2.2.1]
      have zs : zss σv = zss σd := by rw [fr165.2.2.2.2.1, fr156.2.2.2.2.1, fr145.2.2.2.2.1]
      have zg := gd.1
      show zF G mL_law (d + 14) 168 [(3, zR (E 0)), (2, zR 228), (1, zR (B0 0)), (0, zR (zbg + 500))] [] σv _
      refine zF_aload_n 169 dL_law_168 rfl rfl ?_
      refine zF_callS 172 (d2 := (d + 13)) (as := [zR (B0 0)]) dL_law_169 rfl kL_210 sL_all (Nat.le_refl _) rfl rfl (Nat.le_of_ble_eq_true rfl) (zE.mono (zt_L_all hGd Lv.K) fun ro σx169 hh169 => ?_)
      obtain ⟨es169, er169⟩ := hh169
      replace es169 := es169.symm
      subst es169
      subst er169
      refine ⟨rfl, ?_⟩
      show zF G mL_law (d + 14) 172 [(3, zR (E 0)), (2, zR 228), (1, zR (B0 0)), (0, zR (zbg + 500))] [zL (aV N0)] σv _
      refine zF_lstore 174 (ls' := [(4, zL (aV N0)), (3, zR (E 0)), (2, zR 228), (1, zR (B0 0)), (0, zR (zbg + 500))]) dL_law_172 rfl (by decide) rfl ?_
      refine zF_aload_n 175 dL_law_174 rfl rfl ?_
      refine zF_getIN 178 dL_law_175 rfl gnL_39 (by decide) (by decide) Ov.k0 Ov.l0 Ov.i2 ?_
      refine zF_newarray 180 dL_law_178 rfl (Or.inl ⟨rfl, rfl⟩) (zi1 152 rfl rfl) (by omega) (by omega) (by omega) (zwl_q (by exact (⟨trivial, zwR (show E 0 < zn σv from Ov.l0), zwR (show 228 < zn σv from (by omega)), zwR (show B0 0 < zn σv from Lv.1.bl), zwO, trivial⟩ : _ ∧ _ ∧ _ ∧ _ ∧ _ ∧ True))) (zwl_m (by exact trivial)) ?_
      show zF G mL_law (d + 14) 180 [(4, zL (aV N0)), (3, zR (E 0)), (2, zR 228), (1, zR (B0 0)), (0, zR (zbg + 500))] [zR (zn σv)] (znw σv 1 (N0 2).toNat (N0 2).toNat) _
      refine zF_astore 182 (ls' := [(6, zR (zn σv)), (4, zL (aV N0)), (3, zR (E 0)), (2, zR 228), (1, zR (B0 0)), (0, zR (zbg + 500))]) dL_law_180 rfl (by decide) rfl ?_
      refine zF_iconst 183 dL_law_182 rfl ?_
      refine zF_istore 185 (ls' := [(7, zI 0), (6, zR (zn σv)), (4, zL (aV N0)), (3, zR (E 0)), (2, zR 228), (1, zR (B0 0)), (0, zR (zbg + 500))]) dL_law_183 rfl (by decide) rfl ?_
      refine zF_locs (ls' := [(7, zI ((0 : Nat) : Int)), (6, zR (zn σv)), (4, zL (aV N0)), (3, zR (E 0)), (2, zR 228), (1, zR (B0 0)), (0, zR (zbg + 500))]) ⟨zlI rfl (by first | rfl | omega | (push_cast; omega) | exact congrArg (_ + ·) (zbT (by assumption)) | exact congrArg (_ + ·) (zbF (by assumption)) | exact congrArg (_ + ·) (zbT (by omega)) | exact congrArg (_ + ·) (zbF (by omega)) | exact congrArg (_ + ·) (if_pos (by omega)).symm | exact congrArg (_ + ·) (if_neg (by omega)).symm | exact (if_pos (by omega)).symm | exact (if_neg (by omega)).symm | exact zsub_s (if_pos (by omega)).symm | exact zsub_s0 (if_neg (by omega)).symm | exact zadd0 (if_neg (by omega)).symm | exact zadd0 (zbF (by omega)) | exact (Int.sub_zero _).symm), rfl, rfl, rfl, rfl, rfl, rfl, trivial⟩ ?_
      refine zF_while (X := Nat) (fun z => (N0 2).toNat - z) (fun z σ185 => ((z : Nat) : Int) ≤ N0 2 ∧ sI N0 σv z 0 σ185) (fun z => [(7, zI ((z : Nat) : Int)), (6, zR (zn σv)), (4, zL (aV N0)), (3, zR (E 0)), (2, zR 228), (1, zR (B0 0)), (0, zR (zbg + 500))]) ?_ 0 (znw σv 1 (N0 2).toNat (N0 2).toNat) (⟨by show ((0 : Nat) : Int) ≤ N0 2; omega, sI_0⟩)
      intro x σ185 hI185 ih185
      show zF G mL_law (d + 14) 185 [(7, zI ((x : Nat) : Int)), (6, zR (zn σv)), (4, zL (aV N0)), (3, zR (E 0)), (2, zR 228), (1, zR (B0 0)), (0, zR (zbg + 500))] [] σ185 _
      obtain ⟨hx, I185⟩ := hI185
      change ((x : Nat) : Int) ≤ N0 2 at hx
      have i185 := I185
      obtain ⟨g185, ⟨n185, m185, s185⟩, k185, -⟩ := id i185
      have L185 : cL 0 (N0, (fun _ _ => 0), 0) σ185 := Lv.ge (zGE.gw (E := E) g185) (by omega) E228
      have O185 : eO N0 σ185 E := Ov.gw g0 g185
      have l6185 : zn σv < zn σ185 := by omega
      refine zF_iload 187 dL_law_185 rfl rfl ?_
      refine zF_aload_n 188 dL_law_187 rfl rfl ?_
      refine zF_getIN 191 dL_law_188 rfl gnL_39 (by decide) (by decide) O185.k0 O185.l0 O185.i2 ?_
      refine zF_icmp_ge 234 194 dL_law_191 rfl rfl (by first | decide | assumption | (constructor <;> omega)) (by first | decide | assumption | (constructor <;> omega)) (fun c3 => ?_) (fun c3 => ?_)
      · refine zF_bipush 236 dL_law_234 rfl (by decide) ?_
        refine zF_newarray 238 dL_law_236 rfl (Or.inr (Or.inr (Or.inr ⟨rfl, rfl⟩))) (zi6 160 rfl rfl) (by omega) (by omega) (by omega) (zwl_q (by exact (⟨trivial, zwR (show (zn σv) < zn σ185 from l6185), trivial, zwR (show E 0 < zn σ185 from O185.l0), zwR (show 228 < zn σ185 from (by omega)), zwR (show B0 0 < zn σ185 from L185.1.bl), zwO, trivial⟩ : _ ∧ _ ∧ _ ∧ _ ∧ _ ∧ _ ∧ _ ∧ True))) (zwl_m (by exact trivial)) ?_
        show zF G mL_law (d + 14) 238 [(7, zI ((x : Nat) : Int)), (6, zR (zn σv)), (4, zL (aV N0)), (3, zR (E 0)), (2, zR 228), (1, zR (B0 0)), (0, zR (zbg + 500))] [zR (zn σ185)] (znw σ185 4 10 10) _
        refine zF_astore 240 (ls' := [(7, zR (zn σ185)), (6, zR (zn σv)), (4, zL (aV N0)), (3, zR (E 0)), (2, zR 228), (1, zR (B0 0)), (0, zR (zbg + 500))]) dL_law_238 rfl (by decide) rfl ?_
        have gz : zGw (zn σv) σv (znw σ185 4 10 10) := zGw_nw g185 (by omega)
        have ne : zn σv ≠ zn σ185 := by omega
        have hlM : lM N0 (zn σv) (zn σ185) E (znw σ185 4 10 10) := ⟨fun i => by have q := hUv i; have e1 : zbg = 1000000 := rfl; omega, ⟨by omega, by rw [zn_nw]; omega, by omega, by rw [zn_nw]; omega, ne⟩, by rw [zkd_nw, if_neg ne]; exact k185, by rw [zkd_nw, if_pos rfl], fun f f0 f1 => by rw [zia_nw, if_neg ne]; exact sI_all I185 (by omega) f f0 f1, cRs_ib (fun m hm h2 j => ((gz.2 _ (by have := B0_h5 m hm h2; omega)).2 j).2) sn, (((gz.2 _ (by have := B0_h3.2.2; omega)).2 _).2).trans s4⟩
        have hlS : lS N0 (zn σv) (zn σ185) 0 N0 (fun _ _ => 0) 0 E (znw σ185 4 10 10) := ⟨Lv.ge (zGE.gw (E := E) gz) (by omega) E228, Ov.gw g0 gz, hUv.wk (by rw [zn_nw]; omega), e0.trans hn, cE.rf, fun f _ _ => rfl, hlM, fun j j0 j1 => absurd j1 (by omega), by rw [zn_nw]; omega, by show zcs σ185 + 1 ≤ _; omega, by show zss σ185 + 10 ≤ _; omega⟩
        refine zF_iconst 241 dL_law_240 rfl ?_
        refine zF_istore 243 (ls' := [(8, zI 0), (7, zR (zn σ185)), (6, zR (zn σv)), (4, zL (aV N0)), (3, zR (E 0)), (2, zR 228), (1, zR (B0 0)), (0, zR (zbg + 500))]) dL_law_241 rfl (by decide) rfl ?_
        refine zF_iconst 244 dL_law_243 rfl ?_
        refine zF_istore 246 (ls' := [(9, zI 0), (8, zI 0), (7, zR (zn σ185)), (6, zR (zn σv)), (4, zL (aV N0)), (3, zR (E 0)), (2, zR 228), (1, zR (B0 0)), (0, zR (zbg + 500))]) dL_law_244 rfl (by decide) rfl ?_
        exact zF_locs (ls' := [(9, zI 0), (8, zI 0), (7, zR (zn σ185)), (6, zR (zn σv)), (4, zL (aV N0)), (3, zR (E 0)), (2, zR 228), (1, zR (B0 0)), (0, zR (zbg + 500))]) ⟨rfl, rfl, rfl, rfl, rfl, rfl, rfl, rfl, rfl, trivial⟩ (K N0 E (zn σv) (zn σ185) _ g hlS)
      · refine zF_iconst 195 dL_law_194 rfl ?_
        refine zF_istore 197 (ls' := [(8, zI (-1)), (7, zI ((x : Nat) : Int)), (6, zR (zn σv)), (4, zL (aV N0)), (3, zR (E 0)), (2, zR 228), (1, zR (B0 0)), (0, zR (zbg + 500))]) dL_law_195 rfl (by decide) rfl ?_
        refine zF_locs (ls' := [(8, zI (((0 : Nat) : Int) + -1)), (7, zI ((x : Nat) : Int)), (6, zR (zn σv)), (4, zL (aV N0)), (3, zR (E 0)), (2, zR 228), (1, zR (B0 0)), (0, zR (zbg + 500))]) ⟨zlI rfl (by first | rfl | omega | (push_cast; omega) | exact congrArg (_ + ·) (zbT (by assumption)) | exact congrArg (_ + ·) (zbF (by assumption)) | exact congrArg (_ + ·) (zbT (by omega)) | exact congrArg (_ + ·) (zbF (by omega)) | exact congrArg (_ + ·) (if_pos (by omega)).symm | exact congrArg (_ + ·) (if_neg (by omega)).symm | exact (if_pos (by omega)).symm | exact (if_neg (by omega)).symm | exact zsub_s (if_pos (by omega)).symm | exact zsub_s0 (if_neg (by omega)).symm | exact zadd0 (if_neg (by omega)).symm | exact zadd0 (zbF (by omega)) | exact (Int.sub_zero _).symm), rfl, rfl, rfl, rfl, rfl, rfl, rfl, trivial⟩ ?_
        refine zF_while (X := Nat) (fun z => (N0 0).toNat + 1 - z) (fun z σ197 => z ≤ (N0 0).toNat + 1 ∧ sI N0 σv x z σ197) (fun z => [(8, zI (((z : Nat) : Int) + -1)), (7, zI ((x : Nat) : Int)), (6, zR (zn σv)), (4, zL (aV N0)), (3, zR (E 0)), (2, zR 228), (1, zR (B0 0)), (0, zR (zbg + 500))]) ?_ 0 σ185 (⟨by omega, I185⟩)
        intro y σ197 hI197 ih197
        show zF G mL_law (d + 14) 197 [(8, zI (((y : Nat) : Int) + -1)), (7, zI ((x : Nat) : Int)), (6, zR (zn σv)), (4, zL (aV N0)), (3, zR (E 0)), (2, zR 228), (1, zR (B0 0)), (0, zR (zbg + 500))] [] σ197 _
        obtain ⟨hy, I197⟩ := hI197
        have i197 := I197
        obtain ⟨g197, ⟨n197, m197, s197⟩, k197, -⟩ := id i197
        have L197 : cL 0 (N0, (fun _ _ => 0), 0) σ197 := Lv.ge (zGE.gw (E := E) g197) (by omega) E228
        have O197 : eO N0 σ197 E := Ov.gw g0 g197
        have l6197 : zn σv < zn σ197 := by omega
        refine zF_iload 199 dL_law_197 rfl rfl ?_
        refine zF_aload_n 200 dL_law_199 rfl rfl ?_
        refine zF_getIN 203 dL_law_200 rfl gnL_31 (by decide) (by decide) O197.k0 O197.l0 O197.i0 ?_
        refine zF_icmp_ge 228 206 dL_law_203 rfl rfl (by first | decide | assumption | (constructor <;> omega)) (by first | decide | assumption | (constructor <;> omega)) (fun c4 => ?_) (fun c4 => ?_)
        · refine zF_iinc 231 (ls' := [(7, zI (((x : Nat) : Int) + 1)), (8, zI (((y : Nat) : Int) + -1)), (6, zR (zn σv)), (4, zL (aV N0)), (3, zR (E 0)), (2, zR 228), (1, zR (B0 0)), (0, zR (zbg + 500))]) dL_law_228 rfl rfl rfl (by decide) rfl ?_
          refine zF_goto 185 dL_law_231 rfl ?_
          exact zF_locs (ls' := [(7, zI (((x + 1) : Nat) : Int)), (6, zR (zn σv)), (4, zL (aV N0)), (3, zR (E 0)), (2, zR 228), (1, zR (B0 0)), (0, zR (zbg + 500))]) ⟨zlI rfl (by first | rfl | omega | (push_cast; omega) | exact congrArg (_ + ·) (zbT (by assumption)) | exact congrArg (_ + ·) (zbF (by assumption)) | exact congrArg (_ + ·) (zbT (by omega)) | exact congrArg (_ + ·) (zbF (by omega)) | exact congrArg (_ + ·) (if_pos (by omega)).symm | exact congrArg (_ + ·) (if_neg (by omega)).symm | exact (if_pos (by omega)).symm | exact (if_neg (by omega)).symm | exact zsub_s (if_pos (by omega)).symm | exact zsub_s0 (if_neg (by omega)).symm | exact zadd0 (if_neg (by omega)).symm | exact zadd0 (zbF (by omega)) | exact (Int.sub_zero _).symm), rfl, rfl, rfl, rfl, rfl, rfl, trivial⟩ (ih185 (x + 1) _ (by show (N0 2).toNat - (x + 1) < (N0 2).toNat - x; omega) (⟨by show ((x + 1 : Nat) : Int) ≤ N0 2; omega, sI_x (by have q := I197; rw [show y = (N0 0).toNat + 1 by omega] at q; exact q)⟩))
        · refine zF_aload 208 dL_law_206 rfl rfl ?_
          refine zF_iload 210 dL_law_208 rfl rfl ?_
          refine zF_dup2 211 dL_law_210 rfl rfl rfl ?_
          refine zF_iaload 212 dL_law_211 rfl k197 l6197 (by omega) (by omega) rfl ?_
          refine zF_aload_n 213 dL_law_212 rfl rfl ?_
          refine zF_iload 215 dL_law_213 rfl rfl ?_
          refine zF_iload 217 dL_law_215 rfl rfl ?_
          refine zF_callV 220 (d2 := (d + 13)) (as := [zI ((x : Nat) : Int), zI (((y : Nat) : Int) + -1)]) dL_law_217 rfl kL_125 iX11_prints (ci := 11) rfl eX11_prints (Nat.le_refl _) L197.1.bk L197.1.bl rfl rfl (Nat.le_of_ble_eq_true rfl) (zE.mono (qL_prints hGd (show cK 0 N0 σ197 from L197.K) (by omega) (by omega) (by omega) (by omega)) fun ro σx217 hh217 => ?_)
          obtain ⟨es217, er217⟩ := hh217
          replace es217 := es217.symm
          subst es217
          subst er217
          refine ⟨rfl, ?_⟩
          show zF G mL_law (d + 14) 220 [(8, zI (((y : Nat) : Int) + -1)), (7, zI ((x : Nat) : Int)), (6, zR (zn σv)), (4, zL (aV N0)), (3, zR (E 0)), (2, zR 228), (1, zR (B0 0)), (0, zR (zbg + 500))] [zI (mP N0 (x : Int) ((y : Int) + -1)), zI (zia σ197 (zn σv) ((x : Nat) : Int)), zI ((x : Nat) : Int), zR (zn σv)] σ197 _
          refine zF_iadd 221 dL_law_220 rfl ?_
          refine zF_iastore 222 dL_law_221 rfl k197 l6197 (by omega) (by omega) ?_
          refine zF_iinc 225 (ls' := [(8, zI ((((y : Nat) : Int) + -1) + 1)), (7, zI ((x : Nat) : Int)), (6, zR (zn σv)), (4, zL (aV N0)), (3, zR (E 0)), (2, zR 228), (1, zR (B0 0)), (0, zR (zbg + 500))]) dL_law_222 rfl rfl rfl (by decide) rfl ?_
          refine zF_goto 197 dL_law_225 rfl ?_
          exact zF_locs (ls' := [(8, zI ((((y + 1) : Nat) : Int) + -1)), (7, zI ((x : Nat) : Int)), (6, zR (zn σv)), (4, zL (aV N0)), (3, zR (E 0)), (2, zR 228), (1, zR (B0 0)), (0, zR (zbg + 500))]) ⟨zlI rfl (by first | rfl | omega | (push_cast; omega) | exact congrArg (_ + ·) (zbT (by assumption)) | exact congrArg (_ + ·) (zbF (by assumption)) | exact congrArg (_ + ·) (zbT (by omega)) | exact congrArg (_ + ·) (zbF (by omega)) | exact congrArg (_ + ·) (if_pos (by omega)).symm | exact congrArg (_ + ·) (if_neg (by omega)).symm | exact (if_pos (by omega)).symm | exact (if_neg (by omega)).symm | exact zsub_s (if_pos (by omega)).symm | exact zsub_s0 (if_neg (by omega)).symm | exact zadd0 (if_neg (by omega)).symm | exact zadd0 (zbF (by omega)) | exact (Int.sub_zero _).symm), rfl, rfl, rfl, rfl, rfl, rfl, rfl, trivial⟩ (ih197 (y + 1) _ (by show (N0 0).toNat + 1 - (y + 1) < (N0 0).toNat + 1 - y; omega) (⟨by omega, sI_y I197⟩))
    · exact absurd c2 (by first | decide | simp)
end ZQM

/-! the law's start: the class made, its first text, booked, closed, taken back -/
section ZQK
variable {G : zG} {d : Nat} {σ σ1 : zMem} {N : Int → Int} {H : Int → Int → Int} {T : Int} {wh : Nat}
abbrev mL_law : zMeth := (yL_law, cL_law, 15, ret)
def lQ1 (ro : zRes) (σ : zMem) : Prop := ro = .inl (some (zI 1)) ∧ zcs σ ≤ 600086 ∧ zss σ ≤ 7301442
theorem cL_mk (s : pSh σ) (c : cR N σ B0) (nx : 0 ≤ zia σ (B0 600) ((1 : Nat) : Int) ∧ zia σ (B0 600) ((1 : Nat) : Int) < 10) (u0 : zia σ (B0 600) ((2 : Nat) : Int) = 0) (g : gN T N) (f : fe N) (b : zia σ (B0 408) 0 = 0) : cL T (N, H, 0) σ :=
  ⟨s, ⟨c, _, rfl, u0, ⟨nx.1, nx.2, (show (0 : Int) ≤ 0 from by decide), (show (0 : Int) ≤ 10 from by decide)⟩, fun k k0 k1 => absurd (show k < (0 : Int) from k1) (by omega)⟩, ⟨g, (show (0 : Int) ≤ 0 ∧ (0 : Int) ≤ 10 from by decide), fun k k0 k1 => absurd (show k < (0 : Int) from k1) (by omega)⟩, b, f, fun k k0 k1 => absurd (show k < (0 : Int) from k1) (by omega)⟩
theorem cMu_i {x : Nat} {j : Int} (h : cMu B0 x j) : ∃ i, 200 ≤ i ∧ i < 2000 ∧ x = B0 i := by
  rcases h with ⟨⟨i, a, b, e⟩, _⟩ | q
  · exact ⟨i, a, by omega, e⟩
  · rcases q with q | ⟨i, a, b, e⟩
    · exact ⟨600, by omega, by omega, q.1⟩
    · exact ⟨i, by omega, by omega, e⟩
theorem tI_mu (h : tI [] wh σ) (f : zFr (cMu B0) σ σ1) (hz : wh < zbg) : tI [] wh σ1 := by
  obtain ⟨k, l, x, a, b, c, e⟩ := h
  have w : ∀ j, zia σ1 wh j = zia σ wh j := fun j => f.2.2.2.2.2 wh j fun z => by
    obtain ⟨i, _, _, q⟩ := cMu_i z
    exact B0_w l.1 hz i q.symm
  refine ⟨by rw [f.2.1]; exact k, ⟨l.1, by rw [f.1]; exact l.2⟩, x, (w 5).trans a, (f.2.2.2.2.2 (B0 0) _ fun z => ?_).trans b, fun j hj => absurd hj (by show ¬ j < 0; omega), fun j hj => (w j).trans (e j hj)⟩
  obtain ⟨i, _, _, q⟩ := cMu_i z
  have := B0_inj _ _ q
  omega
theorem zkC_f : (zn zkC = 228 ∧ zcs zkC ≤ 228 ∧ zss zkC ≤ 9000) ∧ zia zkC (B0 0) ((1 : Nat) : Int) = 0 ∧ zia zkC (B0 600) ((1 : Nat) : Int) = 0 ∧ zia zkC (B0 408) 0 = 0 := by decide +kernel
theorem zk1_n : zn zk1 = 1 := by decide +kernel
theorem nL_9 : zNC RL 9 11 := ⟨_, _, _, _, zCX11, zi1 27 rfl rfl, zi1 28 rfl rfl, zi1 1 rfl rfl, by decide, by decide⟩
theorem law_0 (hG1 : zOS G) (hAO : zAO G) (K : ∀ σ, pSh σ → tI [] 228 σ → zn σ = 229 → (zcs σ ≤ 300 ∧ zss σ ≤ 9300) → (zia σ (B0 600) ((1 : Nat) : Int) = 0 ∧ zia σ (B0 408) 0 = 0) → zF G mL_law (d + 14) 13 [(2, zR 228), (1, zR (B0 0)), (0, zR (zbg + 500))] [] σ lQ1) : zF G mL_law (d + 14) 0 [(0, zR (zbg + 500))] [] zE0 lQ1 := by
  refine zF_new 3 (ci := 11) (N := 13) dL_law_0 rfl nL_9 rfl (by decide +kernel) (zwl_q (by exact (⟨zwO, trivial⟩ : _ ∧ True))) (zwl_m (by exact trivial)) ?_
  rw [show zn zE0 = 0 from rfl]
  show zF G mL_law (d + 14) 3 [(0, zR (zbg + 500))] [zR 0] zk1 _
  refine zF_dup 4 dL_law_3 rfl rfl ?_
  refine zF_callIn 7 (d2 := d + 3) (as := []) (rest := [zR 0]) dL_law_4 rfl kL_232 rfl iX11_init (by omega) rfl rfl (Nat.le_of_ble_eq_true rfl) ⟨zwO, trivial⟩ ⟨zwR (show 0 < zn zk1 from by rw [zk1_n]; decide), trivial⟩ (zE.mono (zt_X11_init hG1 hAO) fun r σ1 hh => ⟨hh.1, ?_⟩)
  obtain ⟨-, h1, -⟩ := hh
  obtain ⟨⟨c1, c2, c3⟩, c4, c5, c6⟩ := zkC_f
  have n1 : zn σ1 = 228 := h1.1.trans c1
  have hk : ∀ i, (i < 200 ∨ 216 ≤ i) → ∀ j, zia σ1 (B0 i) j = zia zkC (B0 i) j := fun i hi j => h1.2.2.2.2.2 _ j fun ⟨k, a, b, e⟩ => by have := B0_inj _ _ e; omega
  refine zF_astore_n 8 (ls' := [(1, zR 0), (0, zR (zbg + 500))]) dL_law_7 rfl (by decide) rfl ?_
  refine zF_bipush 10 dL_law_8 rfl (by decide) ?_
  refine zF_newarray 12 dL_law_10 rfl (Or.inl ⟨rfl, rfl⟩) (zi1 152 rfl rfl) (by decide) (by decide) (by rw [n1]; decide) (zwl_q (by exact (⟨zwR (show 0 < zn σ1 from by rw [n1]; decide), zwO, trivial⟩ : _ ∧ _ ∧ True))) (zwl_m (by exact trivial)) ?_
  rw [n1]
  show zF G mL_law (d + 14) 12 [(1, zR 0), (0, zR (zbg + 500))] [zR 228] (znw σ1 1 6 6) _
  refine zF_astore_n 13 (ls' := [(2, zR 228), (1, zR 0), (0, zR (zbg + 500))]) dL_law_12 rfl (by decide) rfl ?_
  have b0 : B0 0 = 0 := by decide +kernel
  have ne : ∀ k, B0 k ≠ zn σ1 := fun k => by
    have q := B0_lt k
    omega
  have kd : zkd (znw σ1 1 6 6) 228 = (1, 6) := by rw [zkd_nw, if_pos n1.symm]
  have i0 : ∀ j, zia (znw σ1 1 6 6) 228 j = 0 := fun j => by rw [zia_nw, if_pos n1.symm]
  have ib : ∀ k j, zia (znw σ1 1 6 6) (B0 k) j = zia σ1 (B0 k) j := fun k j => by rw [zia_nw, if_neg (ne k)]
  have S : pSh (znw σ1 1 6 6) := ⟨by rw [zn_nw, n1]; decide, fun h hh => by rw [zkd_nw, if_neg (by omega), h1.2.1], fun h j hh => by rw [zra_nw, if_neg (by omega), h1.2.2.1]⟩
  refine zF_locs (ls' := [(2, zR 228), (1, zR (B0 0)), (0, zR (zbg + 500))]) ⟨rfl, by rw [b0]; rfl, rfl, trivial⟩ (K _ S ⟨kd, ⟨Nat.le_refl _, by rw [zn_nw, n1]; decide⟩, ⟨fun x hx => absurd hx List.not_mem_nil, Nat.zero_le _⟩, i0 5, (ib 0 _).trans ((hk 0 (by omega) _).trans c4), fun j hj => absurd hj (by show ¬ j < 0; omega), fun k hk => ?_⟩ (by rw [zn_nw, n1]) ⟨by have : zcs (znw σ1 1 6 6) = zcs σ1 + 1 := rfl; have := h1.2.2.2.1; omega, by have : zss (znw σ1 1 6 6) = zss σ1 + 6 := rfl; have := h1.2.2.2.2.1; omega⟩ ⟨(ib 600 _).trans ((hk 600 (by omega) _).trans c5), (ib 408 _).trans ((hk 408 (by omega) _).trans c6)⟩)
  rw [i0, pkB_congr (g := fun _ => 0) (fun i hi => tg_out (Nat.zero_le _))]
  rfl
set_option maxHeartbeats 4000000 in
set_option maxRecDepth 20000 in
theorem law_1 (hGd : zGd G) (hG1 : zOS G) (hS : pSh σ) (hT : tI [] 228 σ) (hn : zn σ = 229) (hc : zcs σ ≤ 300 ∧ zss σ ≤ 9300) (hx : zia σ (B0 600) ((1 : Nat) : Int) = 0 ∧ zia σ (B0 408) 0 = 0) (K : ∀ σ S, cL 0 S σ → tI [] 228 σ → zn σ = 229 → (zcs σ ≤ 300 ∧ zss σ ≤ 9300) → zF G mL_law (d + 14) 136 [(2, zR 228), (1, zR (B0 0)), (0, zR (zbg + 500))] [] σ lQ1) : zF G mL_law (d + 14) 13 [(2, zR 228), (1, zR (B0 0)), (0, zR (zbg + 500))] [] σ lQ1 := by
  refine zF_aload_n 14 dL_law_13 rfl rfl ?_
  refine zF_aload_n 15 dL_law_14 rfl rfl ?_
  refine zF_ldcS 17 (i := 37) dL_law_15 rfl rfl ?_
  refine zF_callS 20 (d2 := (d + 13)) (as := [zR (B0 0), zR 228, zR (zbg + 37)]) dL_law_17 rfl kL_71 sL_word (Nat.le_refl _) rfl rfl (Nat.le_of_ble_eq_true rfl) (zE.mono (zt_L_word (i := 37) hG1 (by decide) hS hT (by decide +kernel) (by decide)) fun ro σs17 hh17 => ?_)
  obtain ⟨er17, fr17, T17⟩ := hh17
  subst er17
  refine ⟨fr17.1, ?_⟩
  have S17 := pSh.fr hS fr17
  have F17 := tFr_w fr17
  replace T17 : tI (sN 37) 228 σs17 := T17
  show zF G mL_law (d + 14) 20 [(2, zR 228), (1, zR (B0 0)), (0, zR (zbg + 500))] [] σs17 _
  refine zF_aload_n 21 dL_law_20 rfl rfl ?_
  refine zF_aload_n 22 dL_law_21 rfl rfl ?_
  refine zF_aload_n 23 dL_law_22 rfl rfl ?_
  refine zF_callS 26 (d2 := (d + 13)) (as := [zR (B0 0), zR 228]) dL_law_23 rfl kL_94 sL_end (Nat.le_refl _) rfl rfl (Nat.le_of_ble_eq_true rfl) (zE.mono (zt_L_end S17 T17 (by decide)) fun ro σe hh23 => ?_)
  obtain ⟨er23, fr23, Ie⟩ := hh23
  subst er23
  refine ⟨fr23.1, ?_⟩
  have S23 := pSh.fr S17 fr23
  have F23 := F17.tr (tFr_w fr23)
  have Tx := T17.2.2.1
  show zF G mL_law (d + 14) 26 [(2, zR 228), (1, zR (B0 0)), (0, zR (zbg + 500))] [zI (((sN 37).length : Nat) : Int), zR (B0 0)] σe _
  obtain ⟨cb, eb1, eb2, eb3, eb4⟩ := Ie.2.2.2
  refine zF_callV 29 (d2 := (d + 13)) (as := [zI (((sN 37).length : Nat) : Int)]) dL_law_26 rfl kL_98 iX11_load (ci := 11) rfl eX11_load (Nat.le_refl _) S23.bk S23.bl rfl rfl (Nat.le_of_ble_eq_true rfl) (zE.mono (zt_X11_load (t := (fun j => (((sN 37).getD j.toNat 0 : Nat) : Int))) (L := (sN 37).length) (f := fun _ => 0) hGd hG1 S23.cO S23.cCt (S23.tk (by omega) (fun j j0 j1 => ?_)) S23.cHs eb1 (by omega) (by omega) (fun _ => by decide)) fun ro σl hl => ?_)
  · obtain ⟨jn, ej⟩ := Int.eq_ofNat_of_zero_le j0
    subst ej
    have := tg_lt Tx.1 jn
    refine ⟨(eb4 jn (by omega)).trans ?_, ?_, ?_⟩
    · show _ = (((sN 37).getD ((jn : Int)).toNat 0 : Nat) : Int)
      rw [Int.toNat_natCast]
    · show -128 ≤ (((sN 37).getD ((jn : Int)).toNat 0 : Nat) : Int)
      omega
    · show (((sN 37).getD ((jn : Int)).toNat 0 : Nat) : Int) < 128
      rw [Int.toNat_natCast]
      omega
  obtain ⟨kk, hk, fl, c1, c2, hor⟩ := hl
  have rdf := rd_37 (t := (fun j => (((sN 37).getD j.toNat 0 : Nat) : Int))) (L := (sN 37).length) sfx_self
  have ef := rdC_ld rdf ((tKd_0 rfl).trans tbg_L) hk
  rw [ef] at hor c2
  obtain ⟨_, er, vD, cD, h2, h4⟩ := hor.resolve_right (fun z => z.1 rfl)
  rw [show (((sN 37).length, 0), D37).2 1 = 1 from v37_1] at er
  subst er
  refine ⟨fl.1, ?_⟩
  have hw0 : ∀ k, B0 k ≠ 228 := fun k => B0_w (Nat.le_refl _) (by decide) k
  have S26 := pSh.fr S23 fl
  have F26 := F23.tr (fl.wk fun _ _ q => PLc_w q)
  have T26 := tI_end Ie fl c1 hw0
  have n6 : ∀ j : Int, j = 1 → zia σl (B0 600) j = zia σ (B0 600) j := fun j hj => F26.2.2.2.2.2 _ _ (fun z => z.elim (hw0 600) (fun z => z.2.1 ⟨rfl, hj⟩))
  have n4 : zia σl (B0 408) 0 = zia σ (B0 408) 0 := F26.2.2.2.2.2 _ _ (fun z => z.elim (hw0 408) (fun z => z.2.2 rfl))
  have nx := (n6 ((1 : Nat) : Int) rfl).trans hx.1
  have L26 : cL 0 (N37, (fun _ _ => 0), 0) σl := cL_mk S26 cD (by rw [nx]; decide) h2 (ldV_gN vD).1 (ldV_gN vD).2.1 (n4.trans hx.2)
  obtain ⟨⟨u0, u1, u2⟩, u7⟩ := v37_2
  show zF G mL_law (d + 14) 29 [(2, zR 228), (1, zR (B0 0)), (0, zR (zbg + 500))] [zI 1] σl _
  refine zF_iconst 30 dL_law_29 rfl ?_
  refine zF_icmp_ne 134 33 dL_law_30 rfl rfl (by first | decide | assumption | (constructor <;> omega)) (by first | decide | assumption | (constructor <;> omega)) (fun c1 => ?_) (fun c1 => ?_)
  · exact absurd c1 (by first | decide | simp)
  · refine zF_aload_n 34 dL_law_33 rfl rfl ?_
    refine zF_iconst 35 dL_law_34 rfl ?_
    refine zF_iconst 36 dL_law_35 rfl ?_
    refine zF_callV 39 (d2 := (d + 13)) (as := [zI 0, zI 0]) dL_law_36 rfl kL_187 iX11_book (ci := 11) rfl eX11_book (Nat.le_refl _) L26.1.bk L26.1.bl rfl rfl (Nat.le_of_ble_eq_true rfl) (zE.mono (pL_book hGd L26 (s := 0) (f := 0) (by decide) (by omega) (by decide) (by omega)) fun ro σs36 hh36 => ?_)
    have hq36 : pOp N37 (fun _ _ => 0) 0 0 B37 (cTake B37 0) σl ro σs36 := by rcases hh36 with ⟨q1, q⟩ | ⟨q1, q2, q⟩ | ⟨q1, q2, q⟩ <;> first | exact q | exact absurd u7 q1 | exact absurd v37_3 q2
    obtain ⟨er36, fr36, L36⟩ := hq36
    rw [v37_4] at er36
    subst er36
    refine ⟨fr36.1, ?_⟩
    have T36 := tI_mu T26 fr36 (by decide)
    replace L36 : cL 0 (B37, hsR (fun _ _ => 0) 0 N37, min (0 + 1) 10) σs36 := L36
    have K36 : cK 0 B37 σs36 := L36.K
    have p1 : B37 0 = 1 ∧ B37 1 = 1 ∧ B37 2 = 1 := by decide +kernel
    show zF G mL_law (d + 14) 39 [(2, zR 228), (1, zR (B0 0)), (0, zR (zbg + 500))] [zI 112] σs36 _
    refine zF_bipush 41 dL_law_39 rfl (by decide) ?_
    refine zF_icmp_ne 134 44 dL_law_41 rfl rfl (by first | decide | assumption | (constructor <;> omega)) (by first | decide | assumption | (constructor <;> omega)) (fun c2 => ?_) (fun c2 => ?_)
    · exact absurd c2 (by first | decide | simp)
    · refine zF_aload_n 45 dL_law_44 rfl rfl ?_
      refine zF_iconst 46 dL_law_45 rfl ?_
      refine zF_iconst 47 dL_law_46 rfl ?_
      refine zF_callV 50 (d2 := (d + 13)) (as := [zI 0, zI 0]) dL_law_47 rfl kL_200 iX11_share (ci := 11) rfl eX11_share (Nat.le_refl _) L36.1.bk L36.1.bl rfl rfl (Nat.le_of_ble_eq_true rfl) (zE.mono (qL_share (s := 0) (w := 0) hGd K36 (by decide) (by omega) (by decide) (by omega)) fun ro σx47 hh47 => ?_)
      obtain ⟨es47, er47⟩ := hh47
      replace es47 := es47.symm
      subst es47
      rw [v37_5] at er47
      subst er47
      refine ⟨rfl, ?_⟩
      show zF G mL_law (d + 14) 50 [(2, zR 228), (1, zR (B0 0)), (0, zR (zbg + 500))] [zI 28] σs36 _
      refine zF_bipush 52 dL_law_50 rfl (by decide) ?_
      refine zF_icmp_ne 134 55 dL_law_52 rfl rfl (by first | decide | assumption | (constructor <;> omega)) (by first | decide | assumption | (constructor <;> omega)) (fun c3 => ?_) (fun c3 => ?_)
      · exact absurd c3 (by first | decide | simp)
      · refine zF_aload_n 56 dL_law_55 rfl rfl ?_
        refine zF_iconst 57 dL_law_56 rfl ?_
        refine zF_iconst 58 dL_law_57 rfl ?_
        refine zF_callV 61 (d2 := (d + 13)) (as := [zI 0, zI 5]) dL_law_58 rfl kL_113 iX11_house (ci := 11) rfl eX11_house (Nat.le_refl _) L36.1.bk L36.1.bl rfl rfl (Nat.le_of_ble_eq_true rfl) (zE.mono (qL_house (s := 0) (w := 5) hGd K36 (by decide) (by omega) (by decide) (by decide)) fun ro σx58 hh58 => ?_)
        obtain ⟨es58, er58⟩ := hh58
        replace es58 := es58.symm
        subst es58
        rw [v37_6] at er58
        subst er58
        refine ⟨rfl, ?_⟩
        show zF G mL_law (d + 14) 61 [(2, zR 228), (1, zR (B0 0)), (0, zR (zbg + 500))] [zI 79] σs36 _
        refine zF_bipush 63 dL_law_61 rfl (by decide) ?_
        refine zF_icmp_ne 134 66 dL_law_63 rfl rfl (by first | decide | assumption | (constructor <;> omega)) (by first | decide | assumption | (constructor <;> omega)) (fun c4 => ?_) (fun c4 => ?_)
        · exact absurd c4 (by first | decide | simp)
        · refine zF_aload_n 67 dL_law_66 rfl rfl ?_
          refine zF_iconst 68 dL_law_67 rfl ?_
          refine zF_callV 71 (d2 := (d + 13)) (as := [zI 0]) dL_law_68 rfl kL_223 iX11_wouldHold (ci := 11) rfl eX11_wouldHold (Nat.le_refl _) L36.1.bk L36.1.bl rfl rfl (Nat.le_of_ble_eq_true rfl) (zE.mono (qL_wouldHold (s := 0) hGd K36 (by decide) (by omega)) fun ro σx68 hh68 => ?_)
          obtain ⟨es68, er68⟩ := hh68
          replace es68 := es68.symm
          subst es68
          rw [v37_7] at er68
          subst er68
          refine ⟨rfl, ?_⟩
          show zF G mL_law (d + 14) 71 [(2, zR 228), (1, zR (B0 0)), (0, zR (zbg + 500))] [zI 1] σs36 _
          refine zF_if_eq 134 74 dL_law_71 rfl rfl (by first | decide | assumption | (constructor <;> omega)) (fun c5 => ?_) (fun c5 => ?_)
          · exact absurd c5 (by first | decide | simp)
          · refine zF_aload_n 75 dL_law_74 rfl rfl ?_
            refine zF_callV 78 (d2 := (d + 13)) (as := []) dL_law_75 rfl kL_140 iX11_close (ci := 11) rfl eX11_close (Nat.le_refl _) L36.1.bk L36.1.bl rfl rfl (Nat.le_of_ble_eq_true rfl) (zE.mono (pL_close hGd L36 (by decide) v37_8.2) fun ro σs75 hh75 => ?_)
            obtain ⟨er75, fr75, L75⟩ := hh75
            rw [v37_8.1] at er75
            subst er75
            refine ⟨fr75.1, ?_⟩
            have T75 := tI_mu T36 fr75 (by decide)
            replace L75 : cL 0 (C37, hsR (hsR (fun _ _ => 0) 0 N37) (min (0 + 1) 10) B37, min (min (0 + 1) 10 + 1) 10) σs75 := L75
            have K75 : cK 0 C37 σs75 := L75.K
            obtain ⟨v1, v2, v3⟩ := v37_9
            have p2 : C37 0 = 1 ∧ C37 1 = 1 ∧ C37 2 = 1 := by decide +kernel
            show zF G mL_law (d + 14) 78 [(2, zR 228), (1, zR (B0 0)), (0, zR (zbg + 500))] [zI 112] σs75 _
            refine zF_bipush 80 dL_law_78 rfl (by decide) ?_
            refine zF_icmp_ne 134 83 dL_law_80 rfl rfl (by first | decide | assumption | (constructor <;> omega)) (by first | decide | assumption | (constructor <;> omega)) (fun c6 => ?_) (fun c6 => ?_)
            · exact absurd c6 (by first | decide | simp)
            · refine zF_aload_n 84 dL_law_83 rfl rfl ?_
              refine zF_bipush 86 dL_law_84 rfl (by decide) ?_
              refine zF_callV 89 (d2 := (d + 13)) (as := [zI 7]) dL_law_86 rfl kL_110 iX11_size (ci := 11) rfl eX11_size (Nat.le_refl _) L75.1.bk L75.1.bl rfl rfl (Nat.le_of_ble_eq_true rfl) (zE.mono (qL_size (w := 7) hGd K75 (by decide) (by decide)) fun ro σx86 hh86 => ?_)
              obtain ⟨es86, er86⟩ := hh86
              replace es86 := es86.symm
              subst es86
              rw [v1] at er86
              subst er86
              refine ⟨rfl, ?_⟩
              show zF G mL_law (d + 14) 89 [(2, zR 228), (1, zR (B0 0)), (0, zR (zbg + 500))] [zI 1] σs75 _
              refine zF_iconst 90 dL_law_89 rfl ?_
              refine zF_icmp_ne 134 93 dL_law_90 rfl rfl (by first | decide | assumption | (constructor <;> omega)) (by first | decide | assumption | (constructor <;> omega)) (fun c7 => ?_) (fun c7 => ?_)
              · exact absurd c7 (by first | decide | simp)
              · refine zF_aload_n 94 dL_law_93 rfl rfl ?_
                refine zF_iconst 95 dL_law_94 rfl ?_
                refine zF_iconst 96 dL_law_95 rfl ?_
                refine zF_callV 99 (d2 := (d + 13)) (as := [zI 0, zI 5]) dL_law_96 rfl kL_120 iX11_film (ci := 11) rfl eX11_film (Nat.le_refl _) L75.1.bk L75.1.bl rfl rfl (Nat.le_of_ble_eq_true rfl) (zE.mono (qL_film (s := 0) (w := 5) hGd K75 (by decide) (by omega) (by decide) (by decide)) fun ro σx96 hh96 => ?_)
                obtain ⟨es96, er96⟩ := hh96
                replace es96 := es96.symm
                subst es96
                rw [v2] at er96
                subst er96
                refine ⟨rfl, ?_⟩
                show zF G mL_law (d + 14) 99 [(2, zR 228), (1, zR (B0 0)), (0, zR (zbg + 500))] [zI 4] σs75 _
                refine zF_iconst 100 dL_law_99 rfl ?_
                refine zF_icmp_ne 134 103 dL_law_100 rfl rfl (by first | decide | assumption | (constructor <;> omega)) (by first | decide | assumption | (constructor <;> omega)) (fun c8 => ?_) (fun c8 => ?_)
                · exact absurd c8 (by first | decide | simp)
                · refine zF_aload_n 104 dL_law_103 rfl rfl ?_
                  refine zF_iconst 105 dL_law_104 rfl ?_
                  refine zF_bipush 107 dL_law_105 rfl (by decide) ?_
                  refine zF_callV 110 (d2 := (d + 13)) (as := [zI 0, zI 8]) dL_law_107 rfl kL_108 iX11_screen (ci := 11) rfl eX11_screen (Nat.le_refl _) L75.1.bk L75.1.bl rfl rfl (Nat.le_of_ble_eq_true rfl) (zE.mono (qL_screen (s := 0) (w := 8) hGd K75 (by decide) (by omega) (by decide) (by decide)) fun ro σx107 hh107 => ?_)
                  obtain ⟨es107, er107⟩ := hh107
                  replace es107 := es107.symm
                  subst es107
                  rw [v3] at er107
                  subst er107
                  refine ⟨rfl, ?_⟩
                  show zF G mL_law (d + 14) 110 [(2, zR 228), (1, zR (B0 0)), (0, zR (zbg + 500))] [zI 56] σs75 _
                  refine zF_bipush 112 dL_law_110 rfl (by decide) ?_
                  refine zF_icmp_ne 134 115 dL_law_112 rfl rfl (by first | decide | assumption | (constructor <;> omega)) (by first | decide | assumption | (constructor <;> omega)) (fun c9 => ?_) (fun c9 => ?_)
                  · exact absurd c9 (by first | decide | simp)
                  · refine zF_aload_n 116 dL_law_115 rfl rfl ?_
                    refine zF_iconst 117 dL_law_116 rfl ?_
                    refine zF_iconst 118 dL_law_117 rfl ?_
                    refine zF_callV 121 (d2 := (d + 13)) (as := [zI 0, zI 0]) dL_law_118 rfl kL_187 iX11_book (ci := 11) rfl eX11_book (Nat.le_refl _) L75.1.bk L75.1.bl rfl rfl (Nat.le_of_ble_eq_true rfl) (zE.mono (pL_book hGd L75 (s := 0) (f := 0) (by decide) (by omega) (by decide) (by omega)) fun ro σs118 hh118 => ?_)
                    have hq118 : pNo C37 (hsR (hsR (fun _ _ => 0) 0 N37) (min (0 + 1) 10) B37) (min (min (0 + 1) 10 + 1) 10) 0 (-2) σs75 ro σs118 := by rcases hh118 with ⟨q1, q⟩ | ⟨q1, q2, q⟩ | ⟨q1, q2, q⟩ <;> first | exact q | exact absurd q1 v37_a
                    obtain ⟨er118, fr118, L118⟩ := hq118
                    subst er118
                    refine ⟨fr118.1, ?_⟩
                    have T118 := tI_mu T75 fr118 (by decide)
                    show zF G mL_law (d + 14) 121 [(2, zR 228), (1, zR (B0 0)), (0, zR (zbg + 500))] [zI (-2)] σs118 _
                    refine zF_bipush 123 dL_law_121 rfl (by decide) ?_
                    refine zF_icmp_ne 134 126 dL_law_123 rfl rfl (by first | decide | assumption | (constructor <;> omega)) (by first | decide | assumption | (constructor <;> omega)) (fun c10 => ?_) (fun c10 => ?_)
                    · exact absurd c10 (by first | decide | simp)
                    · refine zF_aload_n 127 dL_law_126 rfl rfl ?_
                      refine zF_callV 130 (d2 := (d + 13)) (as := []) dL_law_127 rfl kL_220 iX11_undo (ci := 11) rfl eX11_undo (Nat.le_refl _) L118.1.bk L118.1.bl rfl rfl (Nat.le_of_ble_eq_true rfl) (zE.mono (pL_undo hGd L118) fun ro σs127 hh127 => ?_)
                      obtain ⟨er127, fr127, L127⟩ := hh127
                      rw [show oUnV (C37, hsR (hsR (fun _ _ => 0) 0 N37) (min (0 + 1) 10) B37, min (min (0 + 1) 10 + 1) 10) = 1 from by rfl] at er127
                      subst er127
                      refine ⟨fr127.1, ?_⟩
                      have T127 := tI_mu T118 fr127 (by decide)
                      show zF G mL_law (d + 14) 130 [(2, zR 228), (1, zR (B0 0)), (0, zR (zbg + 500))] [zI 1] σs127 _
                      refine zF_iconst 131 dL_law_130 rfl ?_
                      refine zF_icmp_eq 136 134 dL_law_131 rfl rfl (by first | decide | assumption | (constructor <;> omega)) (by first | decide | assumption | (constructor <;> omega)) (fun c11 => ?_) (fun c11 => ?_)
                      · exact K σs127 _ L127 T127 (by have a17 := fr17.1; have a23 := fr23.1; have a26 := fl.1; have a36 := fr36.1; have a75 := fr75.1; have a118 := fr118.1; have a127 := fr127.1; omega) ⟨by have a17 := fr17.2.2.2.1; have a23 := fr23.2.2.2.1; have a26 := fl.2.2.2.1; have a36 := fr36.2.2.2.1; have a75 := fr75.2.2.2.1; have a118 := fr118.2.2.2.1; have a127 := fr127.2.2.2.1; omega, by have a17 := fr17.2.2.2.2.1; have a23 := fr23.2.2.2.2.1; have a26 := fl.2.2.2.2.1; have a36 := fr36.2.2.2.2.1; have a75 := fr75.2.2.2.2.1; have a118 := fr118.2.2.2.2.1; have a127 := fr127.2.2.2.2.1; omega⟩
                      · exact absurd c11 (by first | decide | simp)
end ZQK

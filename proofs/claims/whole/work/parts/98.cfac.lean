/-! the class: a query's factors and tests -/
section ZCF
variable {G : zG} {d : Nat} {σ σ0 σ1 : zMem} {B : Nat → Nat} {N : Int → Int} {t : Int → Int} {L : Nat} {s : tS} {F : tS → qS} {k : Int} {K : Nat}
theorem zq_readTest (hG : zOS G) (hV : mV N) (hI : qI t L F) (hL2 : L ≤ 200) (hK : 6 ≤ K) (hF : qMS G mX7_readFactor K B N t L [zI k] F) : qMS G mX7_readTest (K + 1) B N t L [zI k] (qTest t L F) := by
  intro e σ s he hq hB hR hT hs
  obtain ⟨d, rfl⟩ : ∃ d, e = d + 7 := ⟨e - 7, by omega⟩
  refine zE_of rfl (by simp [zcat]) (Nat.le_of_ble_eq_true rfl) ?_
  show zF G mX7_readTest (d + 7) 0 [(0, zR (B 40)), (1, zI k)] [] σ _
  have eb := hs.2.2.2.2.2.2.2.2
  have hi := hB.inj
  have hn := hV.n
  have hnS := nS_eq hV
  refine zF_iconst 1 dX7_readTest_0 rfl ?_
  refine zF_istore_n 2 (ls' := [(2, zI 0), (0, zR (B 40)), (1, zI k)]) dX7_readTest_1 rfl (by decide) rfl ?_
  refine zF_aload_n 3 dX7_readTest_2 rfl rfl ?_
  refine zF_iload_n 4 dX7_readTest_3 rfl rfl ?_
  refine zF_callV 7 (d2 := (d + 6)) (as := [zI k]) dX7_readTest_4 rfl kX7_65 iX7_readFactor (ci := 7) rfl eX7_readFactor (Nat.le_refl _) hq.1 hq.2.1 rfl rfl (Nat.le_of_ble_eq_true rfl) (zE.mono (hF _ σ s (by omega) hq hB hR hT hs) fun ro σg1 hh1 => ?_)
  obtain ⟨m1, er1, fr1, p1, q1⟩ := hh1
  subst er1
  refine ⟨fr1.1, ?_⟩
  show zF G mX7_readTest (d + 7) 7 [(2, zI 0), (0, zR (B 40)), (1, zI k)] [zI ((m1 : Nat) : Int)] σg1 _
  have hB1a := cM_fr hB fr1
  have hR1a := PTk_cR hi fr1 hR
  have hT1a := cTk_ad hT fr1
  have hq1a := cQt_fr hq fr1
  have hs1a : cTs σg1 B t L (F s).2 := p1
  have eb1 := hs1a.2.2.2.2.2.2.2.2
  replace q1 : m1 < 2 ^ nS N ∧ ((F s).2.2 = 0 → mOK N (F s).1 m1) := q1
  refine zF_istore_n 8 (ls' := [(3, zI ((m1 : Nat) : Int)), (2, zI 0), (0, zR (B 40)), (1, zI k)]) dX7_readTest_7 rfl (by decide) rfl ?_
  refine zF_iconst 9 dX7_readTest_8 rfl ?_
  refine zF_istore 11 (ls' := [(4, zI 0), (3, zI ((m1 : Nat) : Int)), (2, zI 0), (0, zR (B 40)), (1, zI k)]) dX7_readTest_9 rfl (by decide) rfl ?_
  refine zF_locs (ls' := [(4, zI ((0 : Nat) : Int)), (3, zI ((m1 : Nat) : Int)), (2, zI ((0 : Nat) : Int)), (0, zR (B 40)), (1, zI k)]) ⟨zlI rfl (by first | rfl | omega | (push_cast; omega)), rfl, zlI rfl (by first | rfl | omega | (push_cast; omega)), rfl, rfl, trivial⟩ ?_
  refine zF_while (X := Nat × Nat × Nat × tS) (fun y9 => 200 - y9.1) (fun y9 σ2 => y9.1 ≤ 200 ∧ zFr (PTk B) σ σ2 ∧ cTs σ2 B t L y9.2.2.2 ∧ y9.1 ≤ y9.2.2.2.1 ∧ y9.2.1 < 2 ^ nS N ∧ y9.2.2.1 < 2 ^ nS N ∧ qTr N t L F s y9.2.1 y9.2.2.1 y9.2.2.2) (fun y9 => [(4, zI ((y9.1 : Nat) : Int)), (3, zI ((y9.2.2.1 : Nat) : Int)), (2, zI ((y9.2.1 : Nat) : Int)), (0, zR (B 40)), (1, zI k)]) ?_ (0, 0, m1, (F s).2) σg1 (⟨Nat.zero_le _, fr1, hs1a, Nat.zero_le _, Nat.one_le_two_pow, q1.1, qTr_0 hI hs.1 q1.2⟩)
  intro ⟨mo, mf, mc, u⟩ σ2 hI11 ih11
  show zF G mX7_readTest (d + 7) 11 [(4, zI ((mo : Nat) : Int)), (3, zI ((mc : Nat) : Int)), (2, zI ((mf : Nat) : Int)), (0, zR (B 40)), (1, zI k)] [] σ2 _
  obtain ⟨hmo, f2, hs2, hmu, hm1, hm2, T⟩ := hI11
  replace hmo : mo ≤ 200 := hmo
  replace hs2 : cTs σ2 B t L u := hs2
  replace hmu : mo ≤ u.1 := hmu
  replace hm1 : mf < 2 ^ nS N := hm1
  replace hm2 : mc < 2 ^ nS N := hm2
  replace T : qTr N t L F s mf mc u := T
  have hB2 := cM_fr hB f2
  have hR2 := PTk_cR hi f2 hR
  have hT2 := cTk_ad hT f2
  have hq2 := cQt_fr hq f2
  have hu := hs2.1
  refine zF_iload 13 dX7_readTest_11 rfl rfl ?_
  refine zF_sipush 16 dX7_readTest_13 rfl (by decide) ?_
  refine zF_icmp_ge 77 19 dX7_readTest_16 rfl rfl (by first | decide | assumption | (constructor <;> omega)) (by first | decide | assumption | (constructor <;> omega)) (fun c1 => ?_) (fun c1 => ?_)
  · refine zF_iload_n 78 dX7_readTest_77 rfl rfl ?_
    refine zF_iload_n 79 dX7_readTest_78 rfl rfl ?_
    refine zF_ior 80 dX7_readTest_79 rfl ?_
    refine zF_I (b := ((mf ||| mc : Nat) : Int)) (m10_or (m1024 hm1 (by omega)) (m1024 hm2 (by omega))) ?_
    exact zF_ireturn dX7_readTest_80 rfl ((by
      have q9 := qTr_end T (tWd_end (by omega) hu) (tWd_end (by omega) hu)
      refine ⟨_, rfl, f2, ?_, Nat.or_lt_two_pow hm1 hm2, q9.2⟩
      rw [q9.1]
      exact hs2))
  · refine zF_aload_n 20 dX7_readTest_19 rfl rfl ?_
    refine zF_getR 23 dX7_readTest_20 rfl gX7_9 hq2.1 hq2.2.1 hq2.2.2.1 ?_
    refine zF_ldcS 25 (i := 28) dX7_readTest_23 rfl rfl ?_
    refine zF_callV 28 (d2 := (d + 6)) (as := [zR (zbg + 28)]) dX7_readTest_25 rfl kX7_35 iX9_takeWord (ci := 9) rfl eX9_takeWord (Nat.le_refl _) hT2.1 hT2.2.1 rfl rfl (Nat.le_of_ble_eq_true rfl) (zE.mono (zt_X9_takeWord (σ := σ2) hT2 hs2 hG (by decide)) fun ro σa2 hh2 => ?_)
    obtain ⟨er2, fr2, p2⟩ := hh2
    subst er2
    refine ⟨fr2.1, ?_⟩
    show zF G mX7_readTest (d + 7) 28 [(4, zI ((mo : Nat) : Int)), (3, zI ((mc : Nat) : Int)), (2, zI ((mf : Nat) : Int)), (0, zR (B 40)), (1, zI k)] [zI (zb (tWd t L (zsbi 28) u))] σa2 _
    have hB2a := cM_fr hB2 fr2
    have hR2a := PTk_cR hB.inj fr2 hR2
    have hT2a := cTk_ad hT2 fr2
    have hq2a := cQt_fr hq2 fr2
    have hs2a : cTs σa2 B t L (if tWd t L (zsbi 28) u then tAdv t L u else u) := p2
    have eb2 := hs2a.2.2.2.2.2.2.2.2
    refine zF_ifb_eq 42 31 dX7_readTest_28 rfl rfl (fun c2 => ?_) (fun c2 => ?_)
    · have hfx1 : cTs σa2 B t L u := (show (if _ then tAdv t L u else u) = u from if_neg (by assumption)) ▸ hs2a
      refine zF_aload_n 43 dX7_readTest_42 rfl rfl ?_
      refine zF_getR 46 dX7_readTest_43 rfl gX7_9 hq2a.1 hq2a.2.1 hq2a.2.2.1 ?_
      refine zF_ldcS 48 (i := 29) dX7_readTest_46 rfl rfl ?_
      refine zF_callV 51 (d2 := (d + 6)) (as := [zR (zbg + 29)]) dX7_readTest_48 rfl kX7_35 iX9_takeWord (ci := 9) rfl eX9_takeWord (Nat.le_refl _) hT2a.1 hT2a.2.1 rfl rfl (Nat.le_of_ble_eq_true rfl) (zE.mono (zt_X9_takeWord (σ := σa2) hT2a hfx1 hG (by decide)) fun ro σa3 hh3 => ?_)
      obtain ⟨er3, fr3, p3⟩ := hh3
      subst er3
      refine ⟨fr3.1, ?_⟩
      show zF G mX7_readTest (d + 7) 51 [(4, zI ((mo : Nat) : Int)), (3, zI ((mc : Nat) : Int)), (2, zI ((mf : Nat) : Int)), (0, zR (B 40)), (1, zI k)] [zI (zb (tWd t L (zsbi 29) u))] σa3 _
      have hB3a := cM_fr hB2a fr3
      have hR3a := PTk_cR hB.inj fr3 hR2a
      have hT3a := cTk_ad hT2a fr3
      have hq3a := cQt_fr hq2a fr3
      have hs3a : cTs σa3 B t L (if tWd t L (zsbi 29) u then tAdv t L u else u) := p3
      have eb3 := hs3a.2.2.2.2.2.2.2.2
      refine zF_ifb_eq 67 54 dX7_readTest_51 rfl rfl (fun c3 => ?_) (fun c3 => ?_)
      · have hfx2 : cTs σa3 B t L u := (show (if _ then tAdv t L u else u) = u from if_neg (by assumption)) ▸ hs3a
        refine zF_iload_n 68 dX7_readTest_67 rfl rfl ?_
        refine zF_iload_n 69 dX7_readTest_68 rfl rfl ?_
        refine zF_ior 70 dX7_readTest_69 rfl ?_
        refine zF_I (b := ((mf ||| mc : Nat) : Int)) (m10_or (m1024 hm1 (by omega)) (m1024 hm2 (by omega))) ?_
        exact zF_ireturn dX7_readTest_70 rfl ((by
          have q9 := qTr_end T (by assumption) (by assumption)
          refine ⟨_, rfl, ((f2.tr fr2).tr fr3), ?_, Nat.or_lt_two_pow hm1 hm2, q9.2⟩
          rw [q9.1]
          exact hfx2))
      · have hfx3 : cTs σa3 B t L (tAdv t L u) := (show (if _ then tAdv t L u else u) = (tAdv t L u) from if_pos (by assumption)) ▸ hs3a
        have hw : tWd t L (zsbi 29) u := by assumption
        have h0 : u.2 = 0 := tWd_0 hw
        have ap := tAdv_p (t := t) hu h0 (tWd_k hw)
        refine zF_iload_n 55 dX7_readTest_54 rfl rfl ?_
        refine zF_iload_n 56 dX7_readTest_55 rfl rfl ?_
        refine zF_ior 57 dX7_readTest_56 rfl ?_
        refine zF_I (b := ((mf ||| mc : Nat) : Int)) (m10_or (m1024 hm1 (by omega)) (m1024 hm2 (by omega))) ?_
        refine zF_istore_n 58 (ls' := [(2, zI ((mf ||| mc : Nat) : Int)), (4, zI ((mo : Nat) : Int)), (3, zI ((mc : Nat) : Int)), (0, zR (B 40)), (1, zI k)]) dX7_readTest_57 rfl (by decide) rfl ?_
        refine zF_aload_n 59 dX7_readTest_58 rfl rfl ?_
        refine zF_iload_n 60 dX7_readTest_59 rfl rfl ?_
        refine zF_callV 63 (d2 := (d + 6)) (as := [zI k]) dX7_readTest_60 rfl kX7_65 iX7_readFactor (ci := 7) rfl eX7_readFactor (Nat.le_refl _) hq3a.1 hq3a.2.1 rfl rfl (Nat.le_of_ble_eq_true rfl) (zE.mono (hF _ σa3 (tAdv t L u) (by omega) hq3a hB3a hR3a hT3a hfx3) fun ro σg4 hh4 => ?_)
        obtain ⟨m4, er4, fr4, p4, q4⟩ := hh4
        subst er4
        refine ⟨fr4.1, ?_⟩
        show zF G mX7_readTest (d + 7) 63 [(2, zI ((mf ||| mc : Nat) : Int)), (4, zI ((mo : Nat) : Int)), (3, zI ((mc : Nat) : Int)), (0, zR (B 40)), (1, zI k)] [zI ((m4 : Nat) : Int)] σg4 _
        have hB4a := cM_fr hB3a fr4
        have hR4a := PTk_cR hi fr4 hR3a
        have hT4a := cTk_ad hT3a fr4
        have hq4a := cQt_fr hq3a fr4
        have hs4a : cTs σg4 B t L (F (tAdv t L u)).2 := p4
        have eb4 := hs4a.2.2.2.2.2.2.2.2
        replace q4 : m4 < 2 ^ nS N ∧ ((F (tAdv t L u)).2.2 = 0 → mOK N (F (tAdv t L u)).1 m4) := q4
        refine zF_istore_n 64 (ls' := [(3, zI ((m4 : Nat) : Int)), (2, zI ((mf ||| mc : Nat) : Int)), (4, zI ((mo : Nat) : Int)), (0, zR (B 40)), (1, zI k)]) dX7_readTest_63 rfl (by decide) rfl ?_
        refine zF_goto 71 dX7_readTest_64 rfl ?_
        refine zF_iinc 74 (ls' := [(4, zI (((mo : Nat) : Int) + 1)), (3, zI ((m4 : Nat) : Int)), (2, zI ((mf ||| mc : Nat) : Int)), (0, zR (B 40)), (1, zI k)]) dX7_readTest_71 rfl rfl rfl (by decide) rfl ?_
        refine zF_goto 11 dX7_readTest_74 rfl ?_
        exact zF_locs (ls' := [(4, zI (((mo + 1) : Nat) : Int)), (3, zI ((m4 : Nat) : Int)), (2, zI (((mf ||| mc) : Nat) : Int)), (0, zR (B 40)), (1, zI k)]) ⟨zlI rfl (by first | rfl | omega | (push_cast; omega)), rfl, zlI rfl (by first | rfl | omega | (push_cast; omega)), rfl, rfl, trivial⟩ (ih11 ((mo + 1), (mf ||| mc), m4, (F (tAdv t L u)).2) _ (by show 200 - (mo + 1) < 200 - mo; omega) (⟨by show mo + 1 ≤ 200; omega, (((f2.tr fr2).tr fr3).tr fr4), hs4a, by show mo + 1 ≤ (F (tAdv t L u)).2.1; have bF := (hI (tAdv t L u) ap.2).1; omega, Nat.or_lt_two_pow hm1 hm2, q4.1, qTr_or hL2 hI hu T (by assumption) hw q4.2⟩))
    · have hfx4 : cTs σa2 B t L (tAdv t L u) := (show (if _ then tAdv t L u else u) = (tAdv t L u) from if_pos (by assumption)) ▸ hs2a
      have hw : tWd t L (zsbi 28) u := by assumption
      have h0 : u.2 = 0 := tWd_0 hw
      have ap := tAdv_p (t := t) hu h0 (tWd_k hw)
      refine zF_iload_n 32 dX7_readTest_31 rfl rfl ?_
      refine zF_aload_n 33 dX7_readTest_32 rfl rfl ?_
      refine zF_iload_n 34 dX7_readTest_33 rfl rfl ?_
      refine zF_callV 37 (d2 := (d + 6)) (as := [zI k]) dX7_readTest_34 rfl kX7_65 iX7_readFactor (ci := 7) rfl eX7_readFactor (Nat.le_refl _) hq2a.1 hq2a.2.1 rfl rfl (Nat.le_of_ble_eq_true rfl) (zE.mono (hF _ σa2 (tAdv t L u) (by omega) hq2a hB2a hR2a hT2a hfx4) fun ro σg5 hh5 => ?_)
      obtain ⟨m5, er5, fr5, p5, q5⟩ := hh5
      subst er5
      refine ⟨fr5.1, ?_⟩
      show zF G mX7_readTest (d + 7) 37 [(4, zI ((mo : Nat) : Int)), (3, zI ((mc : Nat) : Int)), (2, zI ((mf : Nat) : Int)), (0, zR (B 40)), (1, zI k)] [zI ((m5 : Nat) : Int), zI ((mc : Nat) : Int)] σg5 _
      have hB5a := cM_fr hB2a fr5
      have hR5a := PTk_cR hi fr5 hR2a
      have hT5a := cTk_ad hT2a fr5
      have hq5a := cQt_fr hq2a fr5
      have hs5a : cTs σg5 B t L (F (tAdv t L u)).2 := p5
      have eb5 := hs5a.2.2.2.2.2.2.2.2
      replace q5 : m5 < 2 ^ nS N ∧ ((F (tAdv t L u)).2.2 = 0 → mOK N (F (tAdv t L u)).1 m5) := q5
      refine zF_iand 38 dX7_readTest_37 rfl ?_
      refine zF_I (b := ((mc &&& m5 : Nat) : Int)) (m10_and (m1024 hm2 (by omega))) ?_
      refine zF_istore_n 39 (ls' := [(3, zI ((mc &&& m5 : Nat) : Int)), (4, zI ((mo : Nat) : Int)), (2, zI ((mf : Nat) : Int)), (0, zR (B 40)), (1, zI k)]) dX7_readTest_38 rfl (by decide) rfl ?_
      refine zF_goto 71 dX7_readTest_39 rfl ?_
      refine zF_iinc 74 (ls' := [(4, zI (((mo : Nat) : Int) + 1)), (3, zI ((mc &&& m5 : Nat) : Int)), (2, zI ((mf : Nat) : Int)), (0, zR (B 40)), (1, zI k)]) dX7_readTest_71 rfl rfl rfl (by decide) rfl ?_
      refine zF_goto 11 dX7_readTest_74 rfl ?_
      exact zF_locs (ls' := [(4, zI (((mo + 1) : Nat) : Int)), (3, zI (((mc &&& m5) : Nat) : Int)), (2, zI ((mf : Nat) : Int)), (0, zR (B 40)), (1, zI k)]) ⟨zlI rfl (by first | rfl | omega | (push_cast; omega)), zlI rfl (by first | rfl | omega | (push_cast; omega)), rfl, rfl, rfl, trivial⟩ (ih11 ((mo + 1), mf, (mc &&& m5), (F (tAdv t L u)).2) _ (by show 200 - (mo + 1) < 200 - mo; omega) (⟨by show mo + 1 ≤ 200; omega, ((f2.tr fr2).tr fr5), hs5a, by show mo + 1 ≤ (F (tAdv t L u)).2.1; have bF := (hI (tAdv t L u) ap.2).1; omega, hm1, Nat.lt_of_le_of_lt Nat.and_le_left hm2, qTr_and hL2 hI hu T hw q5.2⟩))
theorem zq_fac7_0 (hG : zOS G) (hO : zOPr G) (hV : mV N) (hW : mW N) (hX : mX N) : qMS G mX7_readFactor 8 B N t L [zI 6] (qFac t L 0) := by
  intro e σ s he hq hB hR hT hs
  obtain ⟨d, rfl⟩ : ∃ d, e = d + 8 := ⟨e - 8, by omega⟩
  have hC9 := zq_readComparison (G := G) (B := B) (t := t) (L := L) hG hO hV hW hX
  refine zE_of rfl (by simp [zcat]) (Nat.le_of_ble_eq_true rfl) ?_
  show zF G mX7_readFactor (d + 8) 0 [(0, zR (B 40)), (1, zI 6)] [] σ _
  have eb := hs.2.2.2.2.2.2.2.2
  have hi := hB.inj
  have hn := hV.n
  have hnS := nS_eq hV
  refine zF_aload_n 1 dX7_readFactor_0 rfl rfl ?_
  refine zF_getR 4 dX7_readFactor_1 rfl gX7_9 hq.1 hq.2.1 hq.2.2.1 ?_
  refine zF_ldcS 6 (i := 27) dX7_readFactor_4 rfl rfl ?_
  refine zF_callVi 9 (d2 := (d + 7)) (as := [zR (zbg + 27)]) dX7_readFactor_6 rfl kX7_74 iX9_isWord (ci := 9) rfl eX9_isWord (Nat.le_refl _) hT.1 hT.2.1 rfl rfl (Nat.le_of_ble_eq_true rfl) (zt_X9_isWord (σ := σ) (i := 27) hT hs hG (by omega)) ?_
  refine zF_istore_n 10 (ls' := [(2, zI (zb (tWd t L (zsbi 27) s))), (0, zR (B 40)), (1, zI 6)]) dX7_readFactor_9 rfl (by decide) rfl ?_
  refine zF_iload_n 11 dX7_readFactor_10 rfl rfl ?_
  refine zF_ifb_ne 31 14 dX7_readFactor_11 rfl rfl (fun c1 => ?_) (fun c1 => ?_)
  · refine zF_iload_n 32 dX7_readFactor_31 rfl rfl ?_
    refine zF_bipush 34 dX7_readFactor_32 rfl (by decide) ?_
    refine zF_icmp_lt 47 37 dX7_readFactor_34 rfl rfl (by first | decide | assumption | (constructor <;> omega)) (by first | decide | assumption | (constructor <;> omega)) (fun c2 => ?_) (fun c2 => ?_)
    · exact absurd c2 (by decide)
    · refine zF_aload_n 38 dX7_readFactor_37 rfl rfl ?_
      refine zF_getR 41 dX7_readFactor_38 rfl gX7_9 hq.1 hq.2.1 hq.2.2.1 ?_
      refine zF_iconst 42 dX7_readFactor_41 rfl ?_
      refine zF_callV 45 (d2 := (d + 7)) (as := [zI 3]) dX7_readFactor_42 rfl kX7_41 iX9_fail (ci := 9) rfl eX9_fail (Nat.le_refl _) hT.1 hT.2.1 rfl rfl (Nat.le_of_ble_eq_true rfl) (zE.mono (zt_X9_fail (σ := σ) (c := 3) hT hs (by decide) (by decide)) fun ro σa1 hh1 => ?_)
      obtain ⟨er1, fr1, p1⟩ := hh1
      subst er1
      refine ⟨fr1.1, ?_⟩
      show zF G mX7_readFactor (d + 8) 45 [(2, zI (zb (tWd t L (zsbi 27) s))), (0, zR (B 40)), (1, zI 6)] [] σa1 _
      have hB1a := cM_fr hB fr1
      have hR1a := PTk_cR hB.inj fr1 hR
      have hT1a := cTk_ad hT fr1
      have hq1a := cQt_fr hq fr1
      have hs1a : cTs σa1 B t L (tFail 3 s) := p1
      have eb1 := hs1a.2.2.2.2.2.2.2.2
      refine zF_iconst 46 dX7_readFactor_45 rfl ?_
      exact zF_ireturn dX7_readFactor_46 rfl ((by
        have e : qFac t L 0 s = ([], tFail 3 s) := if_pos (Or.inl (by assumption))
        rw [e]
        exact ⟨0, rfl, fr1, hs1a, Nat.two_pow_pos _, fun z => absurd z (tFail_2 (by decide))⟩))
  · refine zF_aload_n 15 dX7_readFactor_14 rfl rfl ?_
    refine zF_getR 18 dX7_readFactor_15 rfl gX7_9 hq.1 hq.2.1 hq.2.2.1 ?_
    refine zF_bipush 20 dX7_readFactor_18 rfl (by decide) ?_
    refine zF_callVi 23 (d2 := (d + 7)) (as := [zI 40]) dX7_readFactor_20 rfl kX7_77 iX9_isSign (ci := 9) rfl eX9_isSign (Nat.le_refl _) hT.1 hT.2.1 rfl rfl (Nat.le_of_ble_eq_true rfl) (zt_X9_isSign (σ := σ) hT hs (by decide)) ?_
    refine zF_ifb_ne 31 26 dX7_readFactor_23 rfl rfl (fun c3 => ?_) (fun c3 => ?_)
    · refine zF_iload_n 32 dX7_readFactor_31 rfl rfl ?_
      refine zF_bipush 34 dX7_readFactor_32 rfl (by decide) ?_
      refine zF_icmp_lt 47 37 dX7_readFactor_34 rfl rfl (by first | decide | assumption | (constructor <;> omega)) (by first | decide | assumption | (constructor <;> omega)) (fun c4 => ?_) (fun c4 => ?_)
      · exact absurd c4 (by decide)
      · refine zF_aload_n 38 dX7_readFactor_37 rfl rfl ?_
        refine zF_getR 41 dX7_readFactor_38 rfl gX7_9 hq.1 hq.2.1 hq.2.2.1 ?_
        refine zF_iconst 42 dX7_readFactor_41 rfl ?_
        refine zF_callV 45 (d2 := (d + 7)) (as := [zI 3]) dX7_readFactor_42 rfl kX7_41 iX9_fail (ci := 9) rfl eX9_fail (Nat.le_refl _) hT.1 hT.2.1 rfl rfl (Nat.le_of_ble_eq_true rfl) (zE.mono (zt_X9_fail (σ := σ) (c := 3) hT hs (by decide) (by decide)) fun ro σa2 hh2 => ?_)
        obtain ⟨er2, fr2, p2⟩ := hh2
        subst er2
        refine ⟨fr2.1, ?_⟩
        show zF G mX7_readFactor (d + 8) 45 [(2, zI (zb (tWd t L (zsbi 27) s))), (0, zR (B 40)), (1, zI 6)] [] σa2 _
        have hB2a := cM_fr hB fr2
        have hR2a := PTk_cR hB.inj fr2 hR
        have hT2a := cTk_ad hT fr2
        have hq2a := cQt_fr hq fr2
        have hs2a : cTs σa2 B t L (tFail 3 s) := p2
        have eb2 := hs2a.2.2.2.2.2.2.2.2
        refine zF_iconst 46 dX7_readFactor_45 rfl ?_
        exact zF_ireturn dX7_readFactor_46 rfl ((by
          have e : qFac t L 0 s = ([], tFail 3 s) := if_pos (Or.inr (by assumption))
          rw [e]
          exact ⟨0, rfl, fr2, hs2a, Nat.two_pow_pos _, fun z => absurd z (tFail_2 (by decide))⟩))
    · refine zF_aload_n 27 dX7_readFactor_26 rfl rfl ?_
      refine zF_callV 30 (d2 := (d + 7)) (as := []) dX7_readFactor_27 rfl kX7_81 iX7_readComparison (ci := 7) rfl eX7_readComparison (Nat.le_refl _) hq.1 hq.2.1 rfl rfl (Nat.le_of_ble_eq_true rfl) (zE.mono (hC9 _ σ s (by omega) hq hB hR hT hs) fun ro σg3 hh3 => ?_)
      obtain ⟨m3, er3, fr3, p3, q3⟩ := hh3
      subst er3
      refine ⟨fr3.1, ?_⟩
      show zF G mX7_readFactor (d + 8) 30 [(2, zI (zb (tWd t L (zsbi 27) s))), (0, zR (B 40)), (1, zI 6)] [zI ((m3 : Nat) : Int)] σg3 _
      have hB3a := cM_fr hB fr3
      have hR3a := PTk_cR hi fr3 hR
      have hT3a := cTk_ad hT fr3
      have hq3a := cQt_fr hq fr3
      have hs3a : cTs σg3 B t L (qCmp t L s).2 := p3
      have eb3 := hs3a.2.2.2.2.2.2.2.2
      replace q3 : m3 < 2 ^ nS N ∧ ((qCmp t L s).2.2 = 0 → mOK N (qCmp t L s).1 m3) := q3
      exact zF_ireturn dX7_readFactor_30 rfl ((by
        have ec : qFac t L 0 s = qCmp t L s := if_neg (fun z => by rcases z with z | z <;> contradiction)
        rw [ec]
        exact ⟨_, rfl, fr3, hs3a, q3.1, q3.2⟩))
theorem zq_fac7_S (hG : zOS G) (hO : zOPr G) (hV : mV N) (hW : mW N) (hX : mX N) (hI : qI t L F) (hL2 : L ≤ 200) (hK : 7 ≤ K) (k0 : 0 ≤ k) (k6 : k < 6) (hF : qMS G mX7_readFactor K B N t L [zI (k + 1)] F) : qMS G mX7_readFactor (K + 2) B N t L [zI k] (qFa t L F) := by
  intro e σ s he hq hB hR hT hs
  obtain ⟨d, rfl⟩ : ∃ d, e = d + 9 := ⟨e - 9, by omega⟩
  have hC9 := zq_readComparison (G := G) (B := B) (t := t) (L := L) hG hO hV hW hX
  have hT9 := zq_readTest hG hV hI hL2 (by omega) hF
  refine zE_of rfl (by simp [zcat]) (Nat.le_of_ble_eq_true rfl) ?_
  show zF G mX7_readFactor (d + 9) 0 [(0, zR (B 40)), (1, zI k)] [] σ _
  have eb := hs.2.2.2.2.2.2.2.2
  have hi := hB.inj
  have hn := hV.n
  have hnS := nS_eq hV
  refine zF_aload_n 1 dX7_readFactor_0 rfl rfl ?_
  refine zF_getR 4 dX7_readFactor_1 rfl gX7_9 hq.1 hq.2.1 hq.2.2.1 ?_
  refine zF_ldcS 6 (i := 27) dX7_readFactor_4 rfl rfl ?_
  refine zF_callVi 9 (d2 := (d + 8)) (as := [zR (zbg + 27)]) dX7_readFactor_6 rfl kX7_74 iX9_isWord (ci := 9) rfl eX9_isWord (Nat.le_refl _) hT.1 hT.2.1 rfl rfl (Nat.le_of_ble_eq_true rfl) (zt_X9_isWord (σ := σ) (i := 27) hT hs hG (by omega)) ?_
  refine zF_istore_n 10 (ls' := [(2, zI (zb (tWd t L (zsbi 27) s))), (0, zR (B 40)), (1, zI k)]) dX7_readFactor_9 rfl (by decide) rfl ?_
  refine zF_iload_n 11 dX7_readFactor_10 rfl rfl ?_
  refine zF_ifb_ne 31 14 dX7_readFactor_11 rfl rfl (fun c1 => ?_) (fun c1 => ?_)
  · refine zF_iload_n 32 dX7_readFactor_31 rfl rfl ?_
    refine zF_bipush 34 dX7_readFactor_32 rfl (by decide) ?_
    refine zF_icmp_lt 47 37 dX7_readFactor_34 rfl rfl (by first | decide | assumption | (constructor <;> omega)) (by first | decide | assumption | (constructor <;> omega)) (fun c2 => ?_) (fun c2 => ?_)
    · have h0 : s.2 = 0 := tWd_0 (by assumption : tWd t L (zsbi 27) s)
      have htk := tWd_k (by assumption : tWd t L (zsbi 27) s)
      have ap := tAdv_p (t := t) hs.1 h0 htk
      refine zF_aload_n 48 dX7_readFactor_47 rfl rfl ?_
      refine zF_getR 51 dX7_readFactor_48 rfl gX7_9 hq.1 hq.2.1 hq.2.2.1 ?_
      refine zF_callV 54 (d2 := (d + 8)) (as := []) dX7_readFactor_51 rfl kX7_85 iX9_advance (ci := 9) rfl eX9_advance (Nat.le_refl _) hT.1 hT.2.1 rfl rfl (Nat.le_of_ble_eq_true rfl) (zE.mono (zt_X9_adv (σ := σ) hT hs h0) fun ro σa1 hh1 => ?_)
      obtain ⟨er1, fr1, p1⟩ := hh1
      subst er1
      refine ⟨fr1.1, ?_⟩
      show zF G mX7_readFactor (d + 9) 54 [(2, zI (zb (tWd t L (zsbi 27) s))), (0, zR (B 40)), (1, zI k)] [] σa1 _
      have hB1a := cM_fr hB fr1
      have hR1a := PTk_cR hB.inj fr1 hR
      have hT1a := cTk_ad hT fr1
      have hq1a := cQt_fr hq fr1
      have hs1a : cTs σa1 B t L (tAdv t L s) := p1
      have eb1 := hs1a.2.2.2.2.2.2.2.2
      refine zF_iload_n 55 dX7_readFactor_54 rfl rfl ?_
      refine zF_ifb_eq 71 58 dX7_readFactor_55 rfl rfl (fun c3 => ?_) (fun c3 => ?_)
      · exact absurd c3 (by first | assumption | omega | exact fun q9 => q9 (by assumption))
      · refine zF_aload_n 59 dX7_readFactor_58 rfl rfl ?_
        refine zF_iload_n 60 dX7_readFactor_59 rfl rfl ?_
        refine zF_iconst 61 dX7_readFactor_60 rfl ?_
        refine zF_iadd 62 dX7_readFactor_61 rfl ?_
        refine zF_callV 65 (d2 := (d + 8)) (as := [zI (k + 1)]) dX7_readFactor_62 rfl kX7_65 iX7_readFactor (ci := 7) rfl eX7_readFactor (Nat.le_refl _) hq1a.1 hq1a.2.1 rfl rfl (Nat.le_of_ble_eq_true rfl) (zE.mono (hF _ σa1 (tAdv t L s) (by omega) hq1a hB1a hR1a hT1a hs1a) fun ro σg2 hh2 => ?_)
        obtain ⟨m2, er2, fr2, p2, q2⟩ := hh2
        subst er2
        refine ⟨fr2.1, ?_⟩
        show zF G mX7_readFactor (d + 9) 65 [(2, zI (zb (tWd t L (zsbi 27) s))), (0, zR (B 40)), (1, zI k)] [zI ((m2 : Nat) : Int)] σg2 _
        have hB2a := cM_fr hB1a fr2
        have hR2a := PTk_cR hi fr2 hR1a
        have hT2a := cTk_ad hT1a fr2
        have hq2a := cQt_fr hq1a fr2
        have hs2a : cTs σg2 B t L (F (tAdv t L s)).2 := p2
        have eb2 := hs2a.2.2.2.2.2.2.2.2
        replace q2 : m2 < 2 ^ nS N ∧ ((F (tAdv t L s)).2.2 = 0 → mOK N (F (tAdv t L s)).1 m2) := q2
        refine zF_aload_n 66 dX7_readFactor_65 rfl rfl ?_
        refine zF_callVi 69 (d2 := (d + 8)) (as := []) dX7_readFactor_66 rfl kX7_88 iX7_allScreens (ci := 7) rfl eX7_allScreens (Nat.le_refl _) hq2a.1 hq2a.2.1 rfl rfl (Nat.le_of_ble_eq_true rfl) (zt_X7_allScreens hq2a hB2a hR2a hV) ?_
        refine zF_ixor 70 dX7_readFactor_69 rfl ?_
        refine zF_I (b := ((m2 ^^^ (2 ^ nS N - 1) : Nat) : Int)) (m10_xor (m1024 q2.1 (by omega)) (m1024 (n := nS N) (by have := Nat.one_le_two_pow (n := nS N); omega) (by omega))) ?_
        exact zF_ireturn dX7_readFactor_70 rfl ((by
          have e : qFa t L F s = ((F (tAdv t L s)).1 ++ [-23], (F (tAdv t L s)).2) := if_pos (by assumption)
          rw [e]
          exact ⟨_, rfl, (fr1.tr fr2), hs2a, Nat.xor_lt_two_pow q2.1 (by have := Nat.one_le_two_pow (n := nS N); omega), fun z => mOK_not ((hI (tAdv t L s) ap.2).2 z).2.2.2 (q2.2 z)⟩))
    · exact absurd c2 (by omega)
  · refine zF_aload_n 15 dX7_readFactor_14 rfl rfl ?_
    refine zF_getR 18 dX7_readFactor_15 rfl gX7_9 hq.1 hq.2.1 hq.2.2.1 ?_
    refine zF_bipush 20 dX7_readFactor_18 rfl (by decide) ?_
    refine zF_callVi 23 (d2 := (d + 8)) (as := [zI 40]) dX7_readFactor_20 rfl kX7_77 iX9_isSign (ci := 9) rfl eX9_isSign (Nat.le_refl _) hT.1 hT.2.1 rfl rfl (Nat.le_of_ble_eq_true rfl) (zt_X9_isSign (σ := σ) hT hs (by decide)) ?_
    refine zF_ifb_ne 31 26 dX7_readFactor_23 rfl rfl (fun c4 => ?_) (fun c4 => ?_)
    · refine zF_iload_n 32 dX7_readFactor_31 rfl rfl ?_
      refine zF_bipush 34 dX7_readFactor_32 rfl (by decide) ?_
      refine zF_icmp_lt 47 37 dX7_readFactor_34 rfl rfl (by first | decide | assumption | (constructor <;> omega)) (by first | decide | assumption | (constructor <;> omega)) (fun c5 => ?_) (fun c5 => ?_)
      · have h0 : s.2 = 0 := tSg_0 (by assumption : tSg t L 40 s)
        have htk := tSg_k (by assumption : tSg t L 40 s)
        have ap := tAdv_p (t := t) hs.1 h0 htk
        refine zF_aload_n 48 dX7_readFactor_47 rfl rfl ?_
        refine zF_getR 51 dX7_readFactor_48 rfl gX7_9 hq.1 hq.2.1 hq.2.2.1 ?_
        refine zF_callV 54 (d2 := (d + 8)) (as := []) dX7_readFactor_51 rfl kX7_85 iX9_advance (ci := 9) rfl eX9_advance (Nat.le_refl _) hT.1 hT.2.1 rfl rfl (Nat.le_of_ble_eq_true rfl) (zE.mono (zt_X9_adv (σ := σ) hT hs h0) fun ro σa3 hh3 => ?_)
        obtain ⟨er3, fr3, p3⟩ := hh3
        subst er3
        refine ⟨fr3.1, ?_⟩
        show zF G mX7_readFactor (d + 9) 54 [(2, zI (zb (tWd t L (zsbi 27) s))), (0, zR (B 40)), (1, zI k)] [] σa3 _
        have hB3a := cM_fr hB fr3
        have hR3a := PTk_cR hB.inj fr3 hR
        have hT3a := cTk_ad hT fr3
        have hq3a := cQt_fr hq fr3
        have hs3a : cTs σa3 B t L (tAdv t L s) := p3
        have eb3 := hs3a.2.2.2.2.2.2.2.2
        refine zF_iload_n 55 dX7_readFactor_54 rfl rfl ?_
        refine zF_ifb_eq 71 58 dX7_readFactor_55 rfl rfl (fun c6 => ?_) (fun c6 => ?_)
        · refine zF_aload_n 72 dX7_readFactor_71 rfl rfl ?_
          refine zF_iload_n 73 dX7_readFactor_72 rfl rfl ?_
          refine zF_iconst 74 dX7_readFactor_73 rfl ?_
          refine zF_iadd 75 dX7_readFactor_74 rfl ?_
          refine zF_callV 78 (d2 := (d + 8)) (as := [zI (k + 1)]) dX7_readFactor_75 rfl kX7_44 iX7_readTest (ci := 7) rfl eX7_readTest (Nat.le_refl _) hq3a.1 hq3a.2.1 rfl rfl (Nat.le_of_ble_eq_true rfl) (zE.mono (hT9 _ σa3 (tAdv t L s) (by omega) hq3a hB3a hR3a hT3a hs3a) fun ro σg4 hh4 => ?_)
          obtain ⟨m4, er4, fr4, p4, q4⟩ := hh4
          subst er4
          refine ⟨fr4.1, ?_⟩
          show zF G mX7_readFactor (d + 9) 78 [(2, zI (zb (tWd t L (zsbi 27) s))), (0, zR (B 40)), (1, zI k)] [zI ((m4 : Nat) : Int)] σg4 _
          have hB4a := cM_fr hB3a fr4
          have hR4a := PTk_cR hi fr4 hR3a
          have hT4a := cTk_ad hT3a fr4
          have hq4a := cQt_fr hq3a fr4
          have hs4a : cTs σg4 B t L (qTest t L F (tAdv t L s)).2 := p4
          have eb4 := hs4a.2.2.2.2.2.2.2.2
          replace q4 : m4 < 2 ^ nS N ∧ ((qTest t L F (tAdv t L s)).2.2 = 0 → mOK N (qTest t L F (tAdv t L s)).1 m4) := q4
          refine zF_istore_n 79 (ls' := [(3, zI ((m4 : Nat) : Int)), (2, zI (zb (tWd t L (zsbi 27) s))), (0, zR (B 40)), (1, zI k)]) dX7_readFactor_78 rfl (by decide) rfl ?_
          refine zF_aload_n 80 dX7_readFactor_79 rfl rfl ?_
          refine zF_getR 83 dX7_readFactor_80 rfl gX7_9 hq4a.1 hq4a.2.1 hq4a.2.2.1 ?_
          refine zF_bipush 85 dX7_readFactor_83 rfl (by decide) ?_
          refine zF_callV 88 (d2 := (d + 8)) (as := [zI 41]) dX7_readFactor_85 rfl kX7_91 iX9_takeSign (ci := 9) rfl eX9_takeSign (Nat.le_refl _) hT4a.1 hT4a.2.1 rfl rfl (Nat.le_of_ble_eq_true rfl) (zE.mono (zt_X9_takeSign (σ := σg4) hT4a hs4a (by decide)) fun ro σa5 hh5 => ?_)
          obtain ⟨er5, fr5, p5⟩ := hh5
          subst er5
          refine ⟨fr5.1, ?_⟩
          show zF G mX7_readFactor (d + 9) 88 [(3, zI ((m4 : Nat) : Int)), (2, zI (zb (tWd t L (zsbi 27) s))), (0, zR (B 40)), (1, zI k)] [] σa5 _
          have hB5a := cM_fr hB4a fr5
          have hR5a := PTk_cR hB.inj fr5 hR4a
          have hT5a := cTk_ad hT4a fr5
          have hq5a := cQt_fr hq4a fr5
          have hs5a : cTs σa5 B t L (tSgS t L 41 (qTest t L F (tAdv t L s)).2) := p5
          have eb5 := hs5a.2.2.2.2.2.2.2.2
          refine zF_iload_n 89 dX7_readFactor_88 rfl rfl ?_
          exact zF_ireturn dX7_readFactor_89 rfl ((by
            have e : qFa t L F s = ((qTest t L F (tAdv t L s)).1, tSgS t L 41 (qTest t L F (tAdv t L s)).2) := (if_neg (by assumption)).trans (if_pos (by assumption))
            rw [e]
            exact ⟨_, rfl, ((fr3.tr fr4).tr fr5), hs5a, q4.1, fun z => q4.2 (tSgS_2 z)⟩))
        · exact absurd c6 (by first | assumption | omega | exact fun q9 => q9 (by assumption))
      · exact absurd c5 (by omega)
    · refine zF_aload_n 27 dX7_readFactor_26 rfl rfl ?_
      refine zF_callV 30 (d2 := (d + 8)) (as := []) dX7_readFactor_27 rfl kX7_81 iX7_readComparison (ci := 7) rfl eX7_readComparison (Nat.le_refl _) hq.1 hq.2.1 rfl rfl (Nat.le_of_ble_eq_true rfl) (zE.mono (hC9 _ σ s (by omega) hq hB hR hT hs) fun ro σg6 hh6 => ?_)
      obtain ⟨m6, er6, fr6, p6, q6⟩ := hh6
      subst er6
      refine ⟨fr6.1, ?_⟩
      show zF G mX7_readFactor (d + 9) 30 [(2, zI (zb (tWd t L (zsbi 27) s))), (0, zR (B 40)), (1, zI k)] [zI ((m6 : Nat) : Int)] σg6 _
      have hB6a := cM_fr hB fr6
      have hR6a := PTk_cR hi fr6 hR
      have hT6a := cTk_ad hT fr6
      have hq6a := cQt_fr hq fr6
      have hs6a : cTs σg6 B t L (qCmp t L s).2 := p6
      have eb6 := hs6a.2.2.2.2.2.2.2.2
      replace q6 : m6 < 2 ^ nS N ∧ ((qCmp t L s).2.2 = 0 → mOK N (qCmp t L s).1 m6) := q6
      exact zF_ireturn dX7_readFactor_30 rfl ((by
        have ec : qFa t L F s = qCmp t L s := (if_neg (by assumption)).trans (if_neg (by assumption))
        rw [ec]
        exact ⟨_, rfl, fr6, hs6a, q6.1, q6.2⟩))
theorem zq_fac7 (hG : zOS G) (hO : zOPr G) (hV : mV N) (hW : mW N) (hX : mX N) (hL2 : L ≤ 200) : ∀ n : Nat, n ≤ 6 → qMS G mX7_readFactor (8 + 2 * n) B N t L [zI (6 - (n : Int))] (qFac t L n) := fun n => by
  induction n with
  | zero => intro _; exact zq_fac7_0 hG hO hV hW hX
  | succ n ih =>
    intro h
    have a := ih (by omega)
    rw [show (6 : Int) - (n : Int) = (6 - ((n + 1 : Nat) : Int)) + 1 by push_cast; omega] at a
    exact zq_fac7_S (K := 8 + 2 * n) hG hO hV hW hX (qI_fac n) hL2 (by omega) (by omega) (by omega) a
theorem zq_all7 (hG : zOS G) (hO : zOPr G) (hV : mV N) (hW : mW N) (hX : mX N) (hL2 : L ≤ 200) : qMS G mX7_readTest 21 B N t L [zI 0] (qTest t L (qFac t L 6)) := zq_readTest hG hV (qI_fac 6) hL2 (by decide) (zq_fac7 hG hO hV hW hX hL2 6 (by decide))
end ZCF

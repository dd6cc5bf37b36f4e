/-! the reference: close -/
section ZK3
variable {G : zG} {d : Nat} {σ : zMem} {hm : Nat} {A : Nat → Nat} {N gg : Int → Int}
theorem shN_agr (x : Nat) (hx : x ≤ 95) : agr N (shN N x) := fun j hj => shN_a x hx j (by omega)
theorem zA0_7 (hM : zMo σ hm A) {σ1 : zMem} (hG : zia σ (A 7) = gg) (f : zFr (fun y _ => y = A 0) σ σ1) : zia σ1 (A 7) = gg := (f.at fun _ => zMo_ne hM (j := 7) (k := 0) (by decide) (by decide) (by decide)).trans hG
theorem zA015_7 (hM : zMo σ hm A) {σ1 : zMem} (hG : zia σ (A 7) = gg) (f : zFr (fun y _ => y = A 0 ∨ y = A 15) σ σ1) : zia σ1 (A 7) = gg := (f.at fun _ q => q.elim (zMo_ne hM (j := 7) (k := 0) (by decide) (by decide) (by decide)) (zMo_ne hM (j := 7) (k := 15) (by decide) (by decide) (by decide))).trans hG
theorem zt_X12_keepWeek (hM : zMo σ hm A) (hG : zia σ (A 7) = gg) (hV : mV N) (hW : mW N) (hX : mX N) (hQ : mQ N) (hok : gOK N gg) (ha : amR N) (hN : zia σ (A 0) = N) : zE G mX12_keepWeek (d + 10) [zR hm] σ (fun ro σ1 => ro = .inl none ∧ zFr (fun y _ => y = A 0) σ σ1 ∧ zia σ1 (A 0) = kwN N (clA N) 4) := by
  refine zE_of rfl (by simp [zcat]) (Nat.le_of_ble_eq_true rfl) ?_
  show zF G mX12_keepWeek (d + 10) 0 [(0, zR hm)] [] σ _
  have hb := hV.b
  have hn := hV.n
  have hgv := gOK_V hV hok
  refine zF_sipush 3 dX12_keepWeek_0 rfl (by decide) ?_
  refine zF_istore_n 4 (ls' := [(1, zI 311), (0, zR hm)]) dX12_keepWeek_3 rfl (by decide) rfl ?_
  refine zF_locs (ls' := [(1, zI (311 - ((0 : Nat) : Int))), (0, zR hm)]) ⟨zlI rfl (by first | omega | rfl | exact congrArg (_ + ·) es), rfl, trivial⟩ ?_
  refine zF_while (X := Nat) (fun x => 95 - x) (fun x σ2 => x ≤ 95 ∧ zFr (fun y _ => y = A 0) σ σ2 ∧ zia σ2 (A 0) = shN N x) (fun x => [(1, zI (311 - ((x : Nat) : Int))), (0, zR hm)]) ?_ 0 σ (⟨Nat.zero_le _, zFr.rf, hN.trans shN_0.symm⟩)
  intro x σ2 hI4 ih4
  show zF G mX12_keepWeek (d + 10) 4 [(1, zI (311 - ((x : Nat) : Int))), (0, zR hm)] [] σ2 _
  obtain ⟨hx, fr2, hN2⟩ := hI4
  have hM2 := zMo_fr hM fr2
  have hG2 := zA0_7 hM hG fr2
  refine zF_iload_n 5 dX12_keepWeek_4 rfl rfl ?_
  refine zF_sipush 8 dX12_keepWeek_5 rfl (by decide) ?_
  refine zF_icmp_lt 31 11 dX12_keepWeek_8 rfl rfl (by first | decide | assumption | exact hb _ | exact zb_rg _ | (constructor <;> omega)) (by first | decide | assumption | exact hb _ | exact zb_rg _ | (constructor <;> omega)) (fun c1 => ?_) (fun c1 => ?_)
  · have ex : x = 95 := by omega
    subst ex
    have hV95 := shN_V (N := N) hV (x := 95) (by omega)
    have ag := shN_agr (N := N) 95 (by omega)
    have e0 : (shN N 95) 0 = N 0 := ag 0 (by omega)
    have hh := nH_eq hV
    have eS : ∀ i : Int, 0 ≤ i → i < 4 → gShares (shN N 95) gg i = cShN N i (nF N) := fun i i0 i1 => (agr_shares (shN_a 95 (by omega)) hV i0 i1).trans (gShares_eq hV hok i0)
    refine zF_iconst 32 dX12_keepWeek_31 rfl ?_
    refine zF_istore_n 33 (ls' := [(1, zI 0), (0, zR hm)]) dX12_keepWeek_32 rfl (by decide) rfl ?_
    refine zF_iconst 34 dX12_keepWeek_33 rfl ?_
    refine zF_istore_n 35 (ls' := [(2, zI 0), (1, zI 0), (0, zR hm)]) dX12_keepWeek_34 rfl (by decide) rfl ?_
    refine zF_locs (ls' := (fun (i : Nat) => [(2, zI (i : Int)), (1, zI (zsum (fun h => cShN N h (nF N)) i)), (0, zR hm)]) 0) ⟨zlI rfl (by first | omega | rfl | exact congrArg (_ + ·) es), zlI rfl (by first | omega | rfl | exact congrArg (_ + ·) es), rfl, trivial⟩ ?_
    refine zF_loop (n := (nH N)) (fun (i : Nat) => [(2, zI (i : Int)), (1, zI (zsum (fun h => cShN N h (nF N)) i)), (0, zR hm)]) (fun _ => σ2) (fun i hi ih35 => ?_) ?_
    · show zF G mX12_keepWeek (d + 10) 35 [(2, zI (i : Int)), (1, zI (zsum (fun h => cShN N h (nF N)) i)), (0, zR hm)] [] σ2 _
      have es := eS (i : Int) (by omega) (by omega)
      refine zF_iload_n 36 dX12_keepWeek_35 rfl rfl ?_
      refine zF_aload_n 37 dX12_keepWeek_36 rfl rfl ?_
      refine zF_callVi 40 (d2 := (d + 9)) (as := []) dX12_keepWeek_37 rfl kX12_105 iX12_houses (ci := 12) rfl eX12_houses (Nat.le_refl _) hM2.1 hM2.2.1 rfl rfl (Nat.le_of_ble_eq_true rfl) (zn_X12_houses hM2 hN2) ?_
      refine zF_icmp_ge 57 43 dX12_keepWeek_40 rfl rfl (by first | decide | assumption | exact hb _ | exact zb_rg _ | (constructor <;> omega)) (by first | decide | assumption | exact hb _ | exact zb_rg _ | (constructor <;> omega)) (fun c2 => ?_) (fun c2 => ?_)
      · exact absurd c2 (by omega)
      · refine zF_iload_n 44 dX12_keepWeek_43 rfl rfl ?_
        refine zF_aload_n 45 dX12_keepWeek_44 rfl rfl ?_
        refine zF_iload_n 46 dX12_keepWeek_45 rfl rfl ?_
        refine zF_callVi 49 (d2 := (d + 9)) (as := [zI (i : Int)]) dX12_keepWeek_46 rfl kX12_250 iX12_sharesIn (ci := 12) rfl eX12_sharesIn (Nat.le_refl _) hM2.1 hM2.2.1 rfl rfl (Nat.le_of_ble_eq_true rfl) (zn_X12_sharesIn hM2 hN2 hG2 hV95 hgv (by omega) (by omega)) ?_
        refine zF_iadd 50 dX12_keepWeek_49 rfl ?_
        refine zF_istore_n 51 (ls' := [(1, zI ((zsum (fun h => cShN N h (nF N)) i) + (gShares (shN N 95) gg (i : Int)))), (2, zI (i : Int)), (0, zR hm)]) dX12_keepWeek_50 rfl (by decide) rfl ?_
        refine zF_iinc 54 (ls' := [(2, zI ((i : Int) + 1)), (1, zI ((zsum (fun h => cShN N h (nF N)) i) + (gShares (shN N 95) gg (i : Int)))), (0, zR hm)]) dX12_keepWeek_51 rfl rfl rfl (by decide) rfl ?_
        refine zF_goto 35 dX12_keepWeek_54 rfl ?_
        exact zF_locs (ls' := [(2, zI ((i + 1 : Nat) : Int)), (1, zI (zsum (fun h => cShN N h (nF N)) (i + 1))), (0, zR hm)]) ⟨zlI rfl (by first | omega | rfl | exact congrArg (_ + ·) es), zlI rfl (by first | omega | rfl | exact congrArg (_ + ·) es), rfl, trivial⟩ ih35
    · show zF G mX12_keepWeek (d + 10) 35 [(2, zI (((nH N) : Nat) : Int)), (1, zI (zsum (fun h => cShN N h (nF N)) (nH N))), (0, zR hm)] [] σ2 _
      refine zF_iload_n 36 dX12_keepWeek_35 rfl rfl ?_
      refine zF_aload_n 37 dX12_keepWeek_36 rfl rfl ?_
      refine zF_callVi 40 (d2 := (d + 9)) (as := []) dX12_keepWeek_37 rfl kX12_105 iX12_houses (ci := 12) rfl eX12_houses (Nat.le_refl _) hM2.1 hM2.2.1 rfl rfl (Nat.le_of_ble_eq_true rfl) (zn_X12_houses hM2 hN2) ?_
      refine zF_icmp_ge 57 43 dX12_keepWeek_40 rfl rfl (by first | decide | assumption | exact hb _ | exact zb_rg _ | (constructor <;> omega)) (by first | decide | assumption | exact hb _ | exact zb_rg _ | (constructor <;> omega)) (fun c3 => ?_) (fun c3 => ?_)
      · refine zF_aload_n 58 dX12_keepWeek_57 rfl rfl ?_
        refine zF_getR 61 dX12_keepWeek_58 rfl gX12_9 hM2.1 hM2.2.1 (zM_0 hM2).1 ?_
        refine zF_sipush 64 dX12_keepWeek_61 rfl (by decide) ?_
        refine zF_aload_n 65 dX12_keepWeek_64 rfl rfl ?_
        refine zF_iconst 66 dX12_keepWeek_65 rfl ?_
        refine zF_iconst 67 dX12_keepWeek_66 rfl ?_
        refine zF_callVi 70 (d2 := (d + 9)) (as := [zI (-1), zI (-1)]) dX12_keepWeek_67 rfl kX12_187 iX12_takingsIn (ci := 12) rfl eX12_takingsIn (Nat.le_refl _) hM2.1 hM2.2.1 rfl rfl (Nat.le_of_ble_eq_true rfl) (zn_X12_takingsIn hM2 hN2 hG2 hV95 (by first | decide | assumption | exact hb _ | exact zb_rg _ | (constructor <;> omega)) (by first | decide | assumption | exact hb _ | exact zb_rg _ | (constructor <;> omega))) ?_
        refine zF_iastore 71 dX12_keepWeek_70 rfl (zM_0 hM2).2.2 (zM_0 hM2).2.1 (by omega) (by omega) ?_
        refine zF_aload_n 72 dX12_keepWeek_71 rfl rfl ?_
        refine zF_getR 75 dX12_keepWeek_72 rfl gX12_9 hM2.1 hM2.2.1 (zM_0 hM2).1 ?_
        refine zF_sipush 78 dX12_keepWeek_75 rfl (by decide) ?_
        refine zF_iload_n 79 dX12_keepWeek_78 rfl rfl ?_
        refine zF_iastore 80 dX12_keepWeek_79 rfl (zM_0 hM2).2.2 (zM_0 hM2).2.1 (by omega) (by omega) ?_
        have eT : gIn (shN N 95) gg (-1) (-1) = clA N 0 := (ag.gin hV (-1) (-1)).trans (gIn_all hV hok)
        have eSh : zsum (fun h => cShN N h (nF N)) (nH N) = clA N 1 := rfl
        have a0 := ha 0
        have a1 := ha 1
        have hV3 : mV (mSet (mSet (shN N 95) 212 (gIn (shN N 95) gg (-1) (-1))) 213 (zsum (fun h => cShN N h (nF N)) (nH N))) := mV_208 hV (fun j hj => (mSet_o (by omega)).trans ((mSet_o (by omega)).trans (shN_a 95 (by omega) j hj))) (zrg_set (zrg_set hV95.b (by rw [eT]; constructor <;> omega)) (by rw [eSh]; constructor <;> omega))
        have ag3 : agr N (mSet (mSet (shN N 95) 212 (gIn (shN N 95) gg (-1) (-1))) 213 (zsum (fun h => cShN N h (nF N)) (nH N))) := fun j hj => (mSet_o (by omega)).trans ((mSet_o (by omega)).trans (shN_a 95 (by omega) j (by omega)))
        have eR : mRent (mSet (mSet (shN N 95) 212 (gIn (shN N 95) gg (-1) (-1))) 213 (zsum (fun h => cShN N h (nF N)) (nH N))) (-1) = clA N 2 := (ag3.rent hV (-1)).trans rfl
        refine zF_aload_n 81 dX12_keepWeek_80 rfl rfl ?_
        refine zF_getR 84 dX12_keepWeek_81 rfl gX12_9 hM2.1 hM2.2.1 (zM_0 hM2).1 ?_
        refine zF_sipush 87 dX12_keepWeek_84 rfl (by decide) ?_
        refine zF_aload_n 88 dX12_keepWeek_87 rfl rfl ?_
        refine zF_iconst 89 dX12_keepWeek_88 rfl ?_
        refine zF_callVi 92 (d2 := (d + 9)) (as := [zI (-1)]) dX12_keepWeek_89 rfl kX12_253 iX12_rentsIn (ci := 12) rfl eX12_rentsIn (Nat.le_refl _) hM2.1 hM2.2.1 rfl rfl (Nat.le_of_ble_eq_true rfl) (zn_X12_rentsIn hM2 (mSet_mem (mSet_mem hN2)) hV3 (by first | decide | assumption | exact hb _ | exact zb_rg _ | (constructor <;> omega))) ?_
        refine zF_iastore 93 dX12_keepWeek_92 rfl (zM_0 hM2).2.2 (zM_0 hM2).2.1 (by omega) (by omega) ?_
        refine zF_aload_n 94 dX12_keepWeek_93 rfl rfl ?_
        refine zF_getR 97 dX12_keepWeek_94 rfl gX12_9 hM2.1 hM2.2.1 (zM_0 hM2).1 ?_
        refine zF_sipush 100 dX12_keepWeek_97 rfl (by decide) ?_
        refine zF_aload_n 101 dX12_keepWeek_100 rfl rfl ?_
        refine zF_getR 104 dX12_keepWeek_101 rfl gX12_9 hM2.1 hM2.2.1 (zM_0 hM2).1 ?_
        refine zF_iconst 105 dX12_keepWeek_104 rfl ?_
        refine zF_iaload 106 dX12_keepWeek_105 rfl (zM_0 hM2).2.2 (zM_0 hM2).2.1 (by omega) (by omega) (congrFun (mSet_mem (mSet_mem (mSet_mem hN2))) _) ?_
        refine zF_aload_n 107 dX12_keepWeek_106 rfl rfl ?_
        refine zF_getR 110 dX12_keepWeek_107 rfl gX12_9 hM2.1 hM2.2.1 (zM_0 hM2).1 ?_
        refine zF_iconst 111 dX12_keepWeek_110 rfl ?_
        refine zF_iaload 112 dX12_keepWeek_111 rfl (zM_0 hM2).2.2 (zM_0 hM2).2.1 (by omega) (by omega) (congrFun (mSet_mem (mSet_mem (mSet_mem hN2))) _) ?_
        refine zF_imul 113 dX12_keepWeek_112 rfl ?_
        refine zF_iastore 114 dX12_keepWeek_113 rfl (zM_0 hM2).2.2 (zM_0 hM2).2.1 (by omega) (by omega) ?_
        refine zF_aload_n 115 dX12_keepWeek_114 rfl rfl ?_
        refine zF_getR 118 dX12_keepWeek_115 rfl gX12_9 hM2.1 hM2.2.1 (zM_0 hM2).1 ?_
        refine zF_sipush 121 dX12_keepWeek_118 rfl (by decide) ?_
        refine zF_iconst 122 dX12_keepWeek_121 rfl ?_
        refine zF_iastore 123 dX12_keepWeek_122 rfl (zM_0 hM2).2.2 (zM_0 hM2).2.1 (by omega) (by omega) ?_
        refine zF_iconst 124 dX12_keepWeek_123 rfl ?_
        refine zF_istore_n 125 (ls' := [(2, zI 0), (1, zI (zsum (fun h => cShN N h (nF N)) (nH N))), (0, zR hm)]) dX12_keepWeek_124 rfl (by decide) rfl ?_
        refine zF_locs (ls' := [(2, zI ((0 : Nat) : Int)), (0, zR hm)]) ⟨zlI rfl (by first | omega | rfl | exact congrArg (_ + ·) es), rfl, trivial⟩ ?_
        refine zF_while (X := Nat) (fun x => 4 - x) (fun x σ3 => x ≤ 4 ∧ zFr (fun y _ => y = A 0) σ σ3 ∧ zia σ3 (A 0) = kwN N (clA N) x) (fun x => [(2, zI ((x : Nat) : Int)), (0, zR hm)]) ?_ 0 (zsi (zsi (zsi (zsi (zsi σ2 (A 0) 212 (gIn (shN N 95) gg (-1) (-1))) (A 0) 213 (zsum (fun h => cShN N h (nF N)) (nH N))) (A 0) 214 (mRent (mSet (mSet (shN N 95) 212 (gIn (shN N 95) gg (-1) (-1))) 213 (zsum (fun h => cShN N h (nF N)) (nH N))) (-1))) (A 0) 215 (((mSet (mSet (mSet (shN N 95) 212 (gIn (shN N 95) gg (-1) (-1))) 213 (zsum (fun h => cShN N h (nF N)) (nH N))) 214 (mRent (mSet (mSet (shN N 95) 212 (gIn (shN N 95) gg (-1) (-1))) 213 (zsum (fun h => cShN N h (nF N)) (nH N))) (-1))) 4) * ((mSet (mSet (mSet (shN N 95) 212 (gIn (shN N 95) gg (-1) (-1))) 213 (zsum (fun h => cShN N h (nF N)) (nH N))) 214 (mRent (mSet (mSet (shN N 95) 212 (gIn (shN N 95) gg (-1) (-1))) 213 (zsum (fun h => cShN N h (nF N)) (nH N))) (-1))) 5))) (A 0) 216 0) (⟨Nat.zero_le _, zFr_si rfl (zFr_si rfl (zFr_si rfl (zFr_si rfl (zFr_si rfl fr2)))), (mSet_mem (mSet_mem (mSet_mem (mSet_mem (mSet_mem hN2))))).trans (kwN_0 eT eSh eR rfl)⟩)
        intro x σ3 hI125 ih125
        show zF G mX12_keepWeek (d + 10) 125 [(2, zI ((x : Nat) : Int)), (0, zR hm)] [] σ3 _
        obtain ⟨hx, fr3, hN3⟩ := hI125
        have hM3 := zMo_fr hM fr3
        have hG3 := zA0_7 hM hG fr3
        refine zF_iload_n 126 dX12_keepWeek_125 rfl rfl ?_
        refine zF_iconst 127 dX12_keepWeek_126 rfl ?_
        refine zF_icmp_gt 159 130 dX12_keepWeek_127 rfl rfl (by first | decide | assumption | exact hb _ | exact zb_rg _ | (constructor <;> omega)) (by first | decide | assumption | exact hb _ | exact zb_rg _ | (constructor <;> omega)) (fun c4 => ?_) (fun c4 => ?_)
        · exact zF_return dX12_keepWeek_159 rfl (⟨rfl, fr3, by rw [hN3, show x = 4 by omega]⟩)
        · refine zF_aload_n 131 dX12_keepWeek_130 rfl rfl ?_
          refine zF_getR 134 dX12_keepWeek_131 rfl gX12_9 hM3.1 hM3.2.1 (zM_0 hM3).1 ?_
          refine zF_sipush 137 dX12_keepWeek_134 rfl (by decide) ?_
          refine zF_iload_n 138 dX12_keepWeek_137 rfl rfl ?_
          refine zF_iadd 139 dX12_keepWeek_138 rfl ?_
          refine zF_dup2 140 dX12_keepWeek_139 rfl rfl rfl ?_
          refine zF_iaload 141 dX12_keepWeek_140 rfl (zM_0 hM3).2.2 (zM_0 hM3).2.1 (by omega) (by omega) (congrFun hN3 _) ?_
          refine zF_aload_n 142 dX12_keepWeek_141 rfl rfl ?_
          refine zF_getR 145 dX12_keepWeek_142 rfl gX12_9 hM3.1 hM3.2.1 (zM_0 hM3).1 ?_
          refine zF_sipush 148 dX12_keepWeek_145 rfl (by decide) ?_
          refine zF_iload_n 149 dX12_keepWeek_148 rfl rfl ?_
          refine zF_iadd 150 dX12_keepWeek_149 rfl ?_
          refine zF_iaload 151 dX12_keepWeek_150 rfl (zM_0 hM3).2.2 (zM_0 hM3).2.1 (by omega) (by omega) (congrFun hN3 _) ?_
          refine zF_iadd 152 dX12_keepWeek_151 rfl ?_
          refine zF_iastore 153 dX12_keepWeek_152 rfl (zM_0 hM3).2.2 (zM_0 hM3).2.1 (by omega) (by omega) ?_
          refine zF_iinc 156 (ls' := [(2, zI (((x : Nat) : Int) + 1)), (0, zR hm)]) dX12_keepWeek_153 rfl rfl rfl (by decide) rfl ?_
          refine zF_goto 125 dX12_keepWeek_156 rfl ?_
          exact zF_locs (ls' := [(2, zI (((x + 1) : Nat) : Int)), (0, zR hm)]) ⟨zlI rfl (by first | omega | rfl | exact congrArg (_ + ·) es), rfl, trivial⟩ (ih125 (x + 1) _ (by omega) (⟨by omega, zFr_si rfl fr3, (mSet_mem hN3).trans (kwN_s (by omega) rfl rfl)⟩))
      · exact absurd c3 (by omega)
  · refine zF_aload_n 12 dX12_keepWeek_11 rfl rfl ?_
    refine zF_getR 15 dX12_keepWeek_12 rfl gX12_9 hM2.1 hM2.2.1 (zM_0 hM2).1 ?_
    refine zF_iload_n 16 dX12_keepWeek_15 rfl rfl ?_
    refine zF_aload_n 17 dX12_keepWeek_16 rfl rfl ?_
    refine zF_getR 20 dX12_keepWeek_17 rfl gX12_9 hM2.1 hM2.2.1 (zM_0 hM2).1 ?_
    refine zF_iload_n 21 dX12_keepWeek_20 rfl rfl ?_
    refine zF_iconst 22 dX12_keepWeek_21 rfl ?_
    refine zF_isub 23 dX12_keepWeek_22 rfl ?_
    refine zF_iaload 24 dX12_keepWeek_23 rfl (zM_0 hM2).2.2 (zM_0 hM2).2.1 (by omega) (by omega) (congrFun hN2 _) ?_
    refine zF_iastore 25 dX12_keepWeek_24 rfl (zM_0 hM2).2.2 (zM_0 hM2).2.1 (by omega) (by omega) ?_
    refine zF_iinc 28 (ls' := [(1, zI ((311 - ((x : Nat) : Int)) + (-1))), (0, zR hm)]) dX12_keepWeek_25 rfl rfl rfl (by decide) rfl ?_
    refine zF_goto 4 dX12_keepWeek_28 rfl ?_
    exact zF_locs (ls' := [(1, zI (311 - (((x + 1) : Nat) : Int))), (0, zR hm)]) ⟨zlI rfl (by first | omega | rfl | exact congrArg (_ + ·) es), rfl, trivial⟩ (ih4 (x + 1) _ (by omega) (⟨by omega, zFr_si rfl fr2, (mSet_mem hN2).trans (shN_s (by omega) rfl rfl)⟩))
theorem zt_X12_keepFilm {x : Nat} (hM : zMo σ hm A) (hG : zia σ (A 7) = gg) (hV : mV N) (hW : mW N) (hX : mX N) (hQ : mQ N) (hok : gOK N gg) (ha : amR N) (hx : x < nF N) (hN : zia σ (A 0) = kfG N x 0 0) : zE G mX12_keepFilm (d + 10) [zR hm, zI (x : Int)] σ (fun ro σ1 => ro = .inl none ∧ zFr (fun y _ => y = A 0) σ σ1 ∧ zia σ1 (A 0) = kfG N (x + 1) 0 0) := by
  refine zE_of rfl (by simp [zcat]) (Nat.le_of_ble_eq_true rfl) ?_
  show zF G mX12_keepFilm (d + 10) 0 [(0, zR hm), (1, zI (x : Int))] [] σ _
  have hb := hV.b
  have hn := hV.n
  have hgv := gOK_V hV hok
  have hf := nF_eq hV
  have hh := nH_eq hV
  have hVk := kfG_V hV hW hQ ha x 0 0
  have eT := ((kfG_agr (N := N) x 0 0).gin (g := gg) hV (-1) (x : Int)).trans (gIn_films hV hW hok (by omega))
  refine zF_aload_n 1 dX12_keepFilm_0 rfl rfl ?_
  refine zF_getR 4 dX12_keepFilm_1 rfl gX12_9 hM.1 hM.2.1 (zM_0 hM).1 ?_
  refine zF_iload_n 5 dX12_keepFilm_4 rfl rfl ?_
  refine zF_bipush 7 dX12_keepFilm_5 rfl (by decide) ?_
  refine zF_callSi 10 (d2 := (d + 9)) (as := [zI (x : Int), zI 9]) dX12_keepFilm_7 rfl kX12_99 sX12_filmAt (Nat.le_refl _) rfl rfl (Nat.le_of_ble_eq_true rfl) (zt_X12_filmAt) ?_
  refine zF_dup2 11 dX12_keepFilm_10 rfl rfl rfl ?_
  refine zF_iaload 12 dX12_keepFilm_11 rfl (zM_0 hM).2.2 (zM_0 hM).2.1 (by omega) (by omega) (congrFun hN _) ?_
  refine zF_aload_n 13 dX12_keepFilm_12 rfl rfl ?_
  refine zF_iconst 14 dX12_keepFilm_13 rfl ?_
  refine zF_iload_n 15 dX12_keepFilm_14 rfl rfl ?_
  refine zF_callVi 18 (d2 := (d + 9)) (as := [zI (-1), zI (x : Int)]) dX12_keepFilm_15 rfl kX12_187 iX12_takingsIn (ci := 12) rfl eX12_takingsIn (Nat.le_refl _) hM.1 hM.2.1 rfl rfl (Nat.le_of_ble_eq_true rfl) (zn_X12_takingsIn hM hN hG hVk (by first | decide | assumption | exact hb _ | exact zb_rg _ | (constructor <;> omega)) (by first | decide | assumption | exact hb _ | exact zb_rg _ | (constructor <;> omega))) ?_
  refine zF_iadd 19 dX12_keepFilm_18 rfl ?_
  refine zF_iastore 20 dX12_keepFilm_19 rfl (zM_0 hM).2.2 (zM_0 hM).2.1 (by omega) (by omega) ?_
  refine zF_iconst 21 dX12_keepFilm_20 rfl ?_
  refine zF_istore_n 22 (ls' := [(2, zI 0), (0, zR hm), (1, zI (x : Int))]) dX12_keepFilm_21 rfl (by decide) rfl ?_
  refine zF_locs (ls' := [(2, zI ((0 : Nat) : Int)), (0, zR hm), (1, zI (x : Int))]) ⟨zlI rfl (by first | rfl | omega | (push_cast; omega) | exact congrArg (_ + ·) (zbT (by assumption)) | exact congrArg (_ + ·) (zbF (by assumption)) | exact congrArg (_ + ·) (zbT (by omega)) | exact congrArg (_ + ·) (zbF (by omega)) | exact congrArg (_ + ·) (if_pos (by omega)).symm | exact congrArg (_ + ·) (if_neg (by omega)).symm | exact (if_pos (by omega)).symm | exact (if_neg (by omega)).symm | exact zsub_s (if_pos (by omega)).symm | exact zsub_s0 (if_neg (by omega)).symm | exact zadd0 (if_neg (by omega)).symm | exact zadd0 (zbF (by omega)) | exact (Int.sub_zero _).symm), rfl, rfl, trivial⟩ ?_
  refine zF_while (X := Nat) (fun n => nH N - n) (fun n σ2 => n ≤ nH N ∧ zFr (fun y _ => y = A 0) σ σ2 ∧ zia σ2 (A 0) = kfG N x 1 n) (fun n => [(2, zI ((n : Nat) : Int)), (0, zR hm), (1, zI (x : Int))]) ?_ 0 (zsi σ (A 0) (94 + 10 * (x : Int) + 9) (((kfG N x 0 0) (94 + 10 * (x : Int) + 9)) + (gIn (kfG N x 0 0) gg (-1) (x : Int)))) (⟨Nat.zero_le _, zFr_si rfl zFr.rf, (mSet_mem hN).trans (kfG_t (by omega) rfl (by rw [eT]))⟩)
  intro n σ2 hI22 ih22
  show zF G mX12_keepFilm (d + 10) 22 [(2, zI ((n : Nat) : Int)), (0, zR hm), (1, zI (x : Int))] [] σ2 _
  obtain ⟨hn2, fr2, hN2⟩ := hI22
  have hM2 := zMo_fr hM fr2
  have hG2 := zA0_7 hM hG fr2
  have hVk := kfG_V hV hW hQ ha x 1 n
  have agk := kfG_agr (N := N) x 1 n
  have e0 : (kfG N x 1 n) 0 = N 0 := agk 0 (by omega)
  have en := agk.need hV (n : Int) (x : Int)
  refine zF_iload_n 23 dX12_keepFilm_22 rfl rfl ?_
  refine zF_aload_n 24 dX12_keepFilm_23 rfl rfl ?_
  refine zF_callVi 27 (d2 := (d + 9)) (as := []) dX12_keepFilm_24 rfl kX12_105 iX12_houses (ci := 12) rfl eX12_houses (Nat.le_refl _) hM2.1 hM2.2.1 rfl rfl (Nat.le_of_ble_eq_true rfl) (zn_X12_houses hM2 hN2) ?_
  refine zF_icmp_ge 97 30 dX12_keepFilm_27 rfl rfl (by first | decide | assumption | exact hb _ | exact zb_rg _ | (constructor <;> omega)) (by first | decide | assumption | exact hb _ | exact zb_rg _ | (constructor <;> omega)) (fun c1 => ?_) (fun c1 => ?_)
  · exact zF_return dX12_keepFilm_97 rfl (⟨rfl, fr2, by rw [hN2, show n = nH N by omega]; exact kfG_n⟩)
  · refine zF_aload_n 31 dX12_keepFilm_30 rfl rfl ?_
    refine zF_iload_n 32 dX12_keepFilm_31 rfl rfl ?_
    refine zF_iload_n 33 dX12_keepFilm_32 rfl rfl ?_
    refine zF_callVi 36 (d2 := (d + 9)) (as := [zI ((n : Nat) : Int), zI (x : Int)]) dX12_keepFilm_33 rfl kX12_183 iX12_isShown (ci := 12) rfl eX12_isShown (Nat.le_refl _) hM2.1 hM2.2.1 rfl rfl (Nat.le_of_ble_eq_true rfl) (zn_X12_isShown hM2 hN2 hVk (by first | decide | assumption | exact hb _ | exact zb_rg _ | (constructor <;> omega)) (by first | decide | assumption | exact hb _ | exact zb_rg _ | (constructor <;> omega))) ?_
    refine zF_ifb_eq 91 39 dX12_keepFilm_36 rfl rfl (fun c2 => ?_) (fun c2 => ?_)
    · refine zF_iinc 94 (ls' := [(2, zI (((n : Nat) : Int) + 1)), (0, zR hm), (1, zI (x : Int))]) dX12_keepFilm_91 rfl rfl rfl (by decide) rfl ?_
      refine zF_goto 22 dX12_keepFilm_94 rfl ?_
      exact zF_locs (ls' := [(2, zI (((n + 1) : Nat) : Int)), (0, zR hm), (1, zI (x : Int))]) ⟨zlI rfl (by first | rfl | omega | (push_cast; omega) | exact congrArg (_ + ·) (zbT (by assumption)) | exact congrArg (_ + ·) (zbF (by assumption)) | exact congrArg (_ + ·) (zbT (by omega)) | exact congrArg (_ + ·) (zbF (by omega)) | exact congrArg (_ + ·) (if_pos (by omega)).symm | exact congrArg (_ + ·) (if_neg (by omega)).symm | exact (if_pos (by omega)).symm | exact (if_neg (by omega)).symm | exact zsub_s (if_pos (by omega)).symm | exact zsub_s0 (if_neg (by omega)).symm | exact zadd0 (if_neg (by omega)).symm | exact zadd0 (zbF (by omega)) | exact (Int.sub_zero _).symm), rfl, rfl, trivial⟩ (ih22 (n + 1) _ (by omega) (⟨by omega, fr2, hN2.trans (kfG_no (by omega))⟩))
    · refine zF_aload_n 40 dX12_keepFilm_39 rfl rfl ?_
      refine zF_getR 43 dX12_keepFilm_40 rfl gX12_9 hM2.1 hM2.2.1 (zM_0 hM2).1 ?_
      refine zF_iload_n 44 dX12_keepFilm_43 rfl rfl ?_
      refine zF_iload_n 45 dX12_keepFilm_44 rfl rfl ?_
      refine zF_callSi 48 (d2 := (d + 9)) (as := [zI ((n : Nat) : Int), zI (x : Int)]) dX12_keepFilm_45 rfl kX12_180 sX12_runAt (Nat.le_refl _) rfl rfl (Nat.le_of_ble_eq_true rfl) (zt_X12_runAt) ?_
      refine zF_dup2 49 dX12_keepFilm_48 rfl rfl rfl ?_
      refine zF_iaload 50 dX12_keepFilm_49 rfl (zM_0 hM2).2.2 (zM_0 hM2).2.1 (by omega) (by omega) (congrFun hN2 _) ?_
      refine zF_iconst 51 dX12_keepFilm_50 rfl ?_
      refine zF_iadd 52 dX12_keepFilm_51 rfl ?_
      refine zF_iastore 53 dX12_keepFilm_52 rfl (zM_0 hM2).2.2 (zM_0 hM2).2.1 (by omega) (by omega) ?_
      refine zF_aload_n 54 dX12_keepFilm_53 rfl rfl ?_
      refine zF_getR 57 dX12_keepFilm_54 rfl gX12_9 hM2.1 hM2.2.1 (zM_0 hM2).1 ?_
      refine zF_iload_n 58 dX12_keepFilm_57 rfl rfl ?_
      refine zF_bipush 60 dX12_keepFilm_58 rfl (by decide) ?_
      refine zF_callSi 63 (d2 := (d + 9)) (as := [zI (x : Int), zI 8]) dX12_keepFilm_60 rfl kX12_99 sX12_filmAt (Nat.le_refl _) rfl rfl (Nat.le_of_ble_eq_true rfl) (zt_X12_filmAt) ?_
      refine zF_aload_n 64 dX12_keepFilm_63 rfl rfl ?_
      refine zF_iload_n 65 dX12_keepFilm_64 rfl rfl ?_
      refine zF_bipush 67 dX12_keepFilm_65 rfl (by decide) ?_
      refine zF_callVi 70 (d2 := (d + 9)) (as := [zI (x : Int), zI 8]) dX12_keepFilm_67 rfl kX12_148 iX12_ofFilm (ci := 12) rfl eX12_ofFilm (Nat.le_refl _) hM2.1 hM2.2.1 rfl rfl (Nat.le_of_ble_eq_true rfl) (zn_X12_ofFilm hM2 (mSet_mem hN2) (by omega) (by omega)) ?_
      have e8 : mF (mSet (kfG N x 1 n) (184 + 6 * ((n : Nat) : Int) + (x : Int)) (((kfG N x 1 n) (184 + 6 * ((n : Nat) : Int) + (x : Int))) + 1)) (x : Int) 8 = (kfG N x 1 n) (94 + 10 * (x : Int) + 8) := mSet_o (by omega)
      have k8 := (kfG_8 (N := N) (x := x) (n := n) (by omega))
      have k8r := clB_r hV (f := (x : Int)) (by omega) (by omega) n
      have e3 : (mSet (kfG N x 1 n) (184 + 6 * ((n : Nat) : Int) + (x : Int)) (((kfG N x 1 n) (184 + 6 * ((n : Nat) : Int) + (x : Int))) + 1)) 3 = N 3 := (mSet_o (by omega)).trans (kfG_agr x 1 n 3 (by omega))
      refine zF_iconst 71 dX12_keepFilm_70 rfl ?_
      refine zF_icmp_ne 83 74 dX12_keepFilm_71 rfl rfl (by first | decide | assumption | exact hb _ | exact zb_rg _ | (constructor <;> omega)) (by first | decide | assumption | exact hb _ | exact zb_rg _ | (constructor <;> omega)) (fun c3 => ?_) (fun c3 => ?_)
      · refine zF_aload_n 84 dX12_keepFilm_83 rfl rfl ?_
        refine zF_iload_n 85 dX12_keepFilm_84 rfl rfl ?_
        refine zF_bipush 87 dX12_keepFilm_85 rfl (by decide) ?_
        refine zF_callVi 90 (d2 := (d + 9)) (as := [zI (x : Int), zI 8]) dX12_keepFilm_87 rfl kX12_148 iX12_ofFilm (ci := 12) rfl eX12_ofFilm (Nat.le_refl _) hM2.1 hM2.2.1 rfl rfl (Nat.le_of_ble_eq_true rfl) (zn_X12_ofFilm hM2 (mSet_mem hN2) (by omega) (by omega)) ?_
        refine zF_iastore 91 dX12_keepFilm_90 rfl (zM_0 hM2).2.2 (zM_0 hM2).2.1 (by omega) (by omega) ?_
        refine zF_iinc 94 (ls' := [(2, zI (((n : Nat) : Int) + 1)), (0, zR hm), (1, zI (x : Int))]) dX12_keepFilm_91 rfl rfl rfl (by decide) rfl ?_
        refine zF_goto 22 dX12_keepFilm_94 rfl ?_
        exact zF_locs (ls' := [(2, zI (((n + 1) : Nat) : Int)), (0, zR hm), (1, zI (x : Int))]) ⟨zlI rfl (by first | rfl | omega | (push_cast; omega) | exact congrArg (_ + ·) (zbT (by assumption)) | exact congrArg (_ + ·) (zbF (by assumption)) | exact congrArg (_ + ·) (zbT (by omega)) | exact congrArg (_ + ·) (zbF (by omega)) | exact congrArg (_ + ·) (if_pos (by omega)).symm | exact congrArg (_ + ·) (if_neg (by omega)).symm | exact (if_pos (by omega)).symm | exact (if_neg (by omega)).symm | exact zsub_s (if_pos (by omega)).symm | exact zsub_s0 (if_neg (by omega)).symm | exact zadd0 (if_neg (by omega)).symm | exact zadd0 (zbF (by omega)) | exact (Int.sub_zero _).symm), rfl, rfl, trivial⟩ (ih22 (n + 1) _ (by omega) (⟨by omega, zFr_si rfl (zFr_si rfl fr2), (mSet_mem (mSet_mem hN2)).trans (kfG_yes (by omega) (by omega) (by omega) rfl rfl rfl (by first | (rw [if_pos (by omega)]; exact e3) | (rw [if_neg (by omega)]; exact e8)))⟩))
      · refine zF_aload_n 75 dX12_keepFilm_74 rfl rfl ?_
        refine zF_getR 78 dX12_keepFilm_75 rfl gX12_9 hM2.1 hM2.2.1 (zM_0 hM2).1 ?_
        refine zF_iconst 79 dX12_keepFilm_78 rfl ?_
        refine zF_iaload 80 dX12_keepFilm_79 rfl (zM_0 hM2).2.2 (zM_0 hM2).2.1 (by omega) (by omega) (congrFun (mSet_mem hN2) _) ?_
        refine zF_goto 90 dX12_keepFilm_80 rfl ?_
        refine zF_iastore 91 dX12_keepFilm_90 rfl (zM_0 hM2).2.2 (zM_0 hM2).2.1 (by omega) (by omega) ?_
        refine zF_iinc 94 (ls' := [(2, zI (((n : Nat) : Int) + 1)), (0, zR hm), (1, zI (x : Int))]) dX12_keepFilm_91 rfl rfl rfl (by decide) rfl ?_
        refine zF_goto 22 dX12_keepFilm_94 rfl ?_
        exact zF_locs (ls' := [(2, zI (((n + 1) : Nat) : Int)), (0, zR hm), (1, zI (x : Int))]) ⟨zlI rfl (by first | rfl | omega | (push_cast; omega) | exact congrArg (_ + ·) (zbT (by assumption)) | exact congrArg (_ + ·) (zbF (by assumption)) | exact congrArg (_ + ·) (zbT (by omega)) | exact congrArg (_ + ·) (zbF (by omega)) | exact congrArg (_ + ·) (if_pos (by omega)).symm | exact congrArg (_ + ·) (if_neg (by omega)).symm | exact (if_pos (by omega)).symm | exact (if_neg (by omega)).symm | exact zsub_s (if_pos (by omega)).symm | exact zsub_s0 (if_neg (by omega)).symm | exact zadd0 (if_neg (by omega)).symm | exact zadd0 (zbF (by omega)) | exact (Int.sub_zero _).symm), rfl, rfl, trivial⟩ (ih22 (n + 1) _ (by omega) (⟨by omega, zFr_si rfl (zFr_si rfl fr2), (mSet_mem (mSet_mem hN2)).trans (kfG_yes (by omega) (by omega) (by omega) rfl rfl rfl (by first | (rw [if_pos (by omega)]; exact e3) | (rw [if_neg (by omega)]; exact e8)))⟩))
theorem zMo_15 (hM : zMo σ hm A) {σ1 : zMem} {i j v : Int} : zia (zsi σ1 (A 0) i v) (A 15) j = zia σ1 (A 15) j := congrFun (zsi_at (zMo_ne hM (j := 15) (k := 0) (by decide) (by decide) (by decide)) rfl) j
theorem zt_X12_holdScreens (hM : zMo σ hm A) (hG : zia σ (A 7) = gg) (hV : mV N) (hW : mW N) (hX : mX N) (hQ : mQ N) (hok : gOK N gg) (ha : amR N) (hN : zia σ (A 0) = hsG N 0) : zE G mX12_holdScreens (d + 10) [zR hm] σ (fun ro σ1 => ro = .inl none ∧ zFr (fun y _ => y = A 0 ∨ y = A 15) σ σ1 ∧ zia σ1 (A 0) = hsG N (nS N)) := by
  refine zE_of rfl (by simp [zcat]) (Nat.le_of_ble_eq_true rfl) ?_
  show zF G mX12_holdScreens (d + 10) 0 [(0, zR hm)] [] σ _
  have hb := hV.b
  have hn := hV.n
  have hgv := gOK_V hV hok
  have hs := nS_eq hV
  have ag0 : agr N (hsG N 0) := by rw [hsG_0]; exact kfG_agr _ _ _
  have hV0 : mV (hsG N 0) := by rw [hsG_0]; exact kfG_V hV hW hQ ha _ _ _
  have hW0 := ag0.W hV hW
  have ok0 : gOK (hsG N 0) gg := by rw [hsG_0]; exact kfG_gOK hV hok
  have e10 : hsG N 0 1 = N 1 := ag0 1 (by omega)
  refine zF_iconst 1 dX12_holdScreens_0 rfl ?_
  refine zF_istore_n 2 (ls' := [(1, zI 0), (0, zR hm)]) dX12_holdScreens_1 rfl (by decide) rfl ?_
  refine zF_locs (ls' := [(1, zI ((0 : Nat) : Int)), (0, zR hm)]) ⟨zlI rfl (by first | rfl | omega | (push_cast; omega) | exact congrArg (_ + ·) (zbT (by assumption)) | exact congrArg (_ + ·) (zbF (by assumption)) | exact congrArg (_ + ·) (zbT (by omega)) | exact congrArg (_ + ·) (zbF (by omega)) | exact congrArg (_ + ·) (if_pos (by omega)).symm | exact congrArg (_ + ·) (if_neg (by omega)).symm | exact (if_pos (by omega)).symm | exact (if_neg (by omega)).symm | exact zsub_s (if_pos (by omega)).symm | exact zsub_s0 (if_neg (by omega)).symm | exact zadd0 (if_neg (by omega)).symm | exact zadd0 (zbF (by omega)) | exact (Int.sub_zero _).symm), rfl, trivial⟩ ?_
  refine zF_while (X := Nat) (fun x => nS N - x) (fun x σ2 => x ≤ nS N ∧ zFr (fun y _ => y = A 15) σ σ2 ∧ ∀ s : Nat, s < x → zia σ2 (A 15) s = zb (mHold N s)) (fun x => [(1, zI ((x : Nat) : Int)), (0, zR hm)]) ?_ 0 σ (⟨Nat.zero_le _, zFr.rf, fun s hs => absurd hs (Nat.not_lt_zero _)⟩)
  intro x σ2 hI2 ih2
  show zF G mX12_holdScreens (d + 10) 2 [(1, zI ((x : Nat) : Int)), (0, zR hm)] [] σ2 _
  obtain ⟨hx, fr2, p2⟩ := hI2
  have hM2 := zMo_fr hM fr2
  have hG2 : zia σ2 (A 7) = gg := (fr2.at fun _ => zMo_ne hM (j := 7) (k := 15) (by decide) (by decide) (by decide)).trans hG
  have hN2 : zia σ2 (A 0) = hsG N 0 := (fr2.at fun _ => zMo_ne hM (j := 0) (k := 15) (by decide) (by decide) (by decide)).trans hN
  refine zF_iload_n 3 dX12_holdScreens_2 rfl rfl ?_
  refine zF_aload_n 4 dX12_holdScreens_3 rfl rfl ?_
  refine zF_callVi 7 (d2 := (d + 9)) (as := []) dX12_holdScreens_4 rfl kX12_113 iX12_screens (ci := 12) rfl eX12_screens (Nat.le_refl _) hM2.1 hM2.2.1 rfl rfl (Nat.le_of_ble_eq_true rfl) (zn_X12_screens hM2 hN2) ?_
  refine zF_icmp_ge 27 10 dX12_holdScreens_7 rfl rfl (by first | decide | assumption | exact hb _ | exact hbk _ | exact zb_rg _ | (constructor <;> omega)) (by first | decide | assumption | exact hb _ | exact hbk _ | exact zb_rg _ | (constructor <;> omega)) (fun c1 => ?_) (fun c1 => ?_)
  · refine zF_iconst 28 dX12_holdScreens_27 rfl ?_
    refine zF_istore_n 29 (ls' := [(1, zI 0), (0, zR hm)]) dX12_holdScreens_28 rfl (by decide) rfl ?_
    refine zF_locs (ls' := [(1, zI ((0 : Nat) : Int)), (0, zR hm)]) ⟨zlI rfl (by first | rfl | omega | (push_cast; omega) | exact congrArg (_ + ·) (zbT (by assumption)) | exact congrArg (_ + ·) (zbF (by assumption)) | exact congrArg (_ + ·) (zbT (by omega)) | exact congrArg (_ + ·) (zbF (by omega)) | exact congrArg (_ + ·) (if_pos (by omega)).symm | exact congrArg (_ + ·) (if_neg (by omega)).symm | exact (if_pos (by omega)).symm | exact (if_neg (by omega)).symm | exact zsub_s (if_pos (by omega)).symm | exact zsub_s0 (if_neg (by omega)).symm | exact zadd0 (if_neg (by omega)).symm | exact zadd0 (zbF (by omega)) | exact (Int.sub_zero _).symm), rfl, trivial⟩ ?_
    refine zF_while (X := Nat) (fun x => nS N - x) (fun x σ3 => x ≤ nS N ∧ zFr (fun y _ => y = A 0 ∨ y = A 15) σ σ3 ∧ (∀ s : Nat, s < nS N → zia σ3 (A 15) s = zb (mHold N s)) ∧ zia σ3 (A 0) = hsG N x) (fun x => [(1, zI ((x : Nat) : Int)), (0, zR hm)]) ?_ 0 σ2 (⟨Nat.zero_le _, fr2.wk fun _ _ q => Or.inr q, fun s hs => p2 s (by omega), hN2⟩)
    intro y σ3 hI29 ih29
    show zF G mX12_holdScreens (d + 10) 29 [(1, zI ((y : Nat) : Int)), (0, zR hm)] [] σ3 _
    obtain ⟨hy, fr3, p15, hN3⟩ := hI29
    have hM3 := zMo_fr hM fr3
    have hG3 := zA015_7 hM hG fr3
    have hbk := hsG_b hV hW hQ ha y (by omega)
    have e1y : hsG N y 1 = N 1 := (hsG_o (by omega) (by omega)).trans (kfG_agr _ _ _ 1 (by omega))
    refine zF_iload_n 30 dX12_holdScreens_29 rfl rfl ?_
    refine zF_aload_n 31 dX12_holdScreens_30 rfl rfl ?_
    refine zF_callVi 34 (d2 := (d + 9)) (as := []) dX12_holdScreens_31 rfl kX12_113 iX12_screens (ci := 12) rfl eX12_screens (Nat.le_refl _) hM3.1 hM3.2.1 rfl rfl (Nat.le_of_ble_eq_true rfl) (zn_X12_screens hM3 hN3) ?_
    refine zF_icmp_ge 106 37 dX12_holdScreens_34 rfl rfl (by first | decide | assumption | exact hb _ | exact hbk _ | exact zb_rg _ | (constructor <;> omega)) (by first | decide | assumption | exact hb _ | exact hbk _ | exact zb_rg _ | (constructor <;> omega)) (fun c2 => ?_) (fun c2 => ?_)
    · exact zF_return dX12_holdScreens_106 rfl (⟨rfl, fr3, by rw [hN3, show y = nS N by omega]⟩)
    · refine zF_aload_n 38 dX12_holdScreens_37 rfl rfl ?_
      refine zF_getR 41 dX12_holdScreens_38 rfl gX12_41 hM3.1 hM3.2.1 (zM_15 hM3).1 ?_
      refine zF_iload_n 42 dX12_holdScreens_41 rfl rfl ?_
      refine zF_zaload 43 dX12_holdScreens_42 rfl (zM_15 hM3).2.2 (zM_15 hM3).2.1 (by omega) (by omega) (p15 y (by omega)) ?_
      refine zF_ifb_eq 56 46 dX12_holdScreens_43 rfl rfl (fun c3 => ?_) (fun c3 => ?_)
      · refine zF_iconst 57 dX12_holdScreens_56 rfl ?_
        refine zF_istore_n 58 (ls' := [(2, zI (-1)), (1, zI ((y : Nat) : Int)), (0, zR hm)]) dX12_holdScreens_57 rfl (by decide) rfl ?_
        have ehf : hFl N (y : Int) = -1 := if_neg (by assumption)
        refine zF_aload_n 59 dX12_holdScreens_58 rfl rfl ?_
        refine zF_getR 62 dX12_holdScreens_59 rfl gX12_9 hM3.1 hM3.2.1 (zM_0 hM3).1 ?_
        refine zF_iload_n 63 dX12_holdScreens_62 rfl rfl ?_
        refine zF_iload_n 64 dX12_holdScreens_63 rfl rfl ?_
        refine zF_iconst 65 dX12_holdScreens_64 rfl ?_
        refine zF_iconst 66 dX12_holdScreens_65 rfl ?_
        refine zF_aload_n 67 dX12_holdScreens_66 rfl rfl ?_
        refine zF_getR 70 dX12_holdScreens_67 rfl gX12_41 hM3.1 hM3.2.1 (zM_15 hM3).1 ?_
        refine zF_iload_n 71 dX12_holdScreens_70 rfl rfl ?_
        refine zF_zaload 72 dX12_holdScreens_71 rfl (zM_15 hM3).2.2 (zM_15 hM3).2.1 (by omega) (by omega) (p15 y (by omega)) ?_
        refine zF_callS 75 (d2 := (d + 9)) (as := [zR (A 0), zI ((y : Nat) : Int), zI (-1), zI (-1), zI 0, zI (zb (mHold N (y : Int)))]) dX12_holdScreens_72 rfl kX12_274 sX12_book (Nat.le_refl _) rfl rfl (Nat.le_of_ble_eq_true rfl) (zE.mono (zt_X12_book (zM_0 hM3).2.2 (zM_0 hM3).2.1 (by omega) (by omega) (zb01 _)) fun ro σa1 hh1 => ?_)
        obtain ⟨er1, fr1, p1⟩ := hh1
        subst er1
        refine ⟨fr1.1, ?_⟩
        show zF G mX12_holdScreens (d + 10) 75 [(2, zI (-1)), (1, zI ((y : Nat) : Int)), (0, zR hm)] [] σa1 _
        have hMa1 := zMo_f2 fr1 hM3
        have hNa1 : zia σa1 (A 0) = (mBook (hsG N y) ((y : Nat) : Int) (-1) (-1) 0 (zb (mHold N (y : Int)))) := by rw [p1, hN3]
        have h151 : zia σa1 (A 15) = zia σ3 (A 15) := fr1.at fun _ q => zMo_ne hM (j := 15) (k := 0) (by decide) (by decide) (by decide) q.1
        have fb1 := fr3.tr (fr1.wk (P' := (fun y _ => y = A 0 ∨ y = A 15)) fun _ _ q => Or.inl q.1)
        refine zF_aload_n 76 dX12_holdScreens_75 rfl rfl ?_
        refine zF_getR 79 dX12_holdScreens_76 rfl gX12_9 hMa1.1 hMa1.2.1 (zM_0 hMa1).1 ?_
        refine zF_sipush 82 dX12_holdScreens_79 rfl (by decide) ?_
        refine zF_dup2 83 dX12_holdScreens_82 rfl rfl rfl ?_
        refine zF_iaload 84 dX12_holdScreens_83 rfl (zM_0 hMa1).2.2 (zM_0 hMa1).2.1 (by omega) (by omega) (congrFun hNa1 _) ?_
        refine zF_aload_n 85 dX12_holdScreens_84 rfl rfl ?_
        refine zF_getR 88 dX12_holdScreens_85 rfl gX12_41 hMa1.1 hMa1.2.1 (zM_15 hMa1).1 ?_
        refine zF_iload_n 89 dX12_holdScreens_88 rfl rfl ?_
        refine zF_zaload 90 dX12_holdScreens_89 rfl (zM_15 hMa1).2.2 (zM_15 hMa1).2.1 (by omega) (by omega) ((congrFun h151 _).trans (p15 y (by omega))) ?_
        refine zF_ifb_eq 97 93 dX12_holdScreens_90 rfl rfl (fun c4 => ?_) (fun c4 => ?_)
        · refine zF_iconst 98 dX12_holdScreens_97 rfl ?_
          refine zF_iadd 99 dX12_holdScreens_98 rfl ?_
          refine zF_iastore 100 dX12_holdScreens_99 rfl (zM_0 hMa1).2.2 (zM_0 hMa1).2.1 (by omega) (by omega) ?_
          refine zF_iinc 103 (ls' := [(1, zI (((y : Nat) : Int) + 1)), (2, zI (-1)), (0, zR hm)]) dX12_holdScreens_100 rfl rfl rfl (by decide) rfl ?_
          refine zF_goto 29 dX12_holdScreens_103 rfl ?_
          exact zF_locs (ls' := [(1, zI (((y + 1) : Nat) : Int)), (0, zR hm)]) ⟨zlI rfl (by first | rfl | omega | (push_cast; omega) | exact congrArg (_ + ·) (zbT (by assumption)) | exact congrArg (_ + ·) (zbF (by assumption)) | exact congrArg (_ + ·) (zbT (by omega)) | exact congrArg (_ + ·) (zbF (by omega)) | exact congrArg (_ + ·) (if_pos (by omega)).symm | exact congrArg (_ + ·) (if_neg (by omega)).symm | exact (if_pos (by omega)).symm | exact (if_neg (by omega)).symm | exact zsub_s (if_pos (by omega)).symm | exact zsub_s0 (if_neg (by omega)).symm | exact zadd0 (if_neg (by omega)).symm | exact zadd0 (zbF (by omega)) | exact (Int.sub_zero _).symm), rfl, trivial⟩ (ih29 (y + 1) _ (by omega) (⟨by omega, zFr_si (Or.inl rfl) fb1, fun s hs => (zMo_15 hM).trans ((congrFun h151 _).trans (p15 s hs)), (mSet_mem hNa1).trans (hsG_s (by omega) rfl ehf.symm rfl (by rw [← zbF (p := mHold N (y : Int)) (by assumption)]))⟩))
        · exact absurd c4 (by first | assumption | exact fun z => z (by assumption))
      · refine zF_aload_n 47 dX12_holdScreens_46 rfl rfl ?_
        refine zF_iload_n 48 dX12_holdScreens_47 rfl rfl ?_
        refine zF_bipush 50 dX12_holdScreens_48 rfl (by decide) ?_
        refine zF_callVi 53 (d2 := (d + 9)) (as := [zI ((y : Nat) : Int), zI 6]) dX12_holdScreens_50 rfl kX12_129 iX12_shownOn (ci := 12) rfl eX12_shownOn (Nat.le_refl _) hM3.1 hM3.2.1 rfl rfl (Nat.le_of_ble_eq_true rfl) (zn_X12_shownOn hM3 hN3 hbk (by omega) (by omega) (by decide)) ?_
        refine zF_goto 57 dX12_holdScreens_53 rfl ?_
        refine zF_istore_n 58 (ls' := [(2, zI (mSh (hsG N y) (y : Int) 6)), (1, zI ((y : Nat) : Int)), (0, zR hm)]) dX12_holdScreens_57 rfl (by decide) rfl ?_
        have ehf : hFl N (y : Int) = mSh N (y : Int) 6 := if_pos (by assumption)
        refine zF_aload_n 59 dX12_holdScreens_58 rfl rfl ?_
        refine zF_getR 62 dX12_holdScreens_59 rfl gX12_9 hM3.1 hM3.2.1 (zM_0 hM3).1 ?_
        refine zF_iload_n 63 dX12_holdScreens_62 rfl rfl ?_
        refine zF_iload_n 64 dX12_holdScreens_63 rfl rfl ?_
        refine zF_iconst 65 dX12_holdScreens_64 rfl ?_
        refine zF_iconst 66 dX12_holdScreens_65 rfl ?_
        refine zF_aload_n 67 dX12_holdScreens_66 rfl rfl ?_
        refine zF_getR 70 dX12_holdScreens_67 rfl gX12_41 hM3.1 hM3.2.1 (zM_15 hM3).1 ?_
        refine zF_iload_n 71 dX12_holdScreens_70 rfl rfl ?_
        refine zF_zaload 72 dX12_holdScreens_71 rfl (zM_15 hM3).2.2 (zM_15 hM3).2.1 (by omega) (by omega) (p15 y (by omega)) ?_
        refine zF_callS 75 (d2 := (d + 9)) (as := [zR (A 0), zI ((y : Nat) : Int), zI (mSh (hsG N y) (y : Int) 6), zI (-1), zI 0, zI (zb (mHold N (y : Int)))]) dX12_holdScreens_72 rfl kX12_274 sX12_book (Nat.le_refl _) rfl rfl (Nat.le_of_ble_eq_true rfl) (zE.mono (zt_X12_book (zM_0 hM3).2.2 (zM_0 hM3).2.1 (by omega) (by omega) (zb01 _)) fun ro σa2 hh2 => ?_)
        obtain ⟨er2, fr2, p2⟩ := hh2
        subst er2
        refine ⟨fr2.1, ?_⟩
        show zF G mX12_holdScreens (d + 10) 75 [(2, zI (mSh (hsG N y) (y : Int) 6)), (1, zI ((y : Nat) : Int)), (0, zR hm)] [] σa2 _
        have hMa2 := zMo_f2 fr2 hM3
        have hNa2 : zia σa2 (A 0) = (mBook (hsG N y) ((y : Nat) : Int) (mSh (hsG N y) (y : Int) 6) (-1) 0 (zb (mHold N (y : Int)))) := by rw [p2, hN3]
        have h152 : zia σa2 (A 15) = zia σ3 (A 15) := fr2.at fun _ q => zMo_ne hM (j := 15) (k := 0) (by decide) (by decide) (by decide) q.1
        have fb2 := fr3.tr (fr2.wk (P' := (fun y _ => y = A 0 ∨ y = A 15)) fun _ _ q => Or.inl q.1)
        refine zF_aload_n 76 dX12_holdScreens_75 rfl rfl ?_
        refine zF_getR 79 dX12_holdScreens_76 rfl gX12_9 hMa2.1 hMa2.2.1 (zM_0 hMa2).1 ?_
        refine zF_sipush 82 dX12_holdScreens_79 rfl (by decide) ?_
        refine zF_dup2 83 dX12_holdScreens_82 rfl rfl rfl ?_
        refine zF_iaload 84 dX12_holdScreens_83 rfl (zM_0 hMa2).2.2 (zM_0 hMa2).2.1 (by omega) (by omega) (congrFun hNa2 _) ?_
        refine zF_aload_n 85 dX12_holdScreens_84 rfl rfl ?_
        refine zF_getR 88 dX12_holdScreens_85 rfl gX12_41 hMa2.1 hMa2.2.1 (zM_15 hMa2).1 ?_
        refine zF_iload_n 89 dX12_holdScreens_88 rfl rfl ?_
        refine zF_zaload 90 dX12_holdScreens_89 rfl (zM_15 hMa2).2.2 (zM_15 hMa2).2.1 (by omega) (by omega) ((congrFun h152 _).trans (p15 y (by omega))) ?_
        refine zF_ifb_eq 97 93 dX12_holdScreens_90 rfl rfl (fun c5 => ?_) (fun c5 => ?_)
        · exact absurd c5 (by first | assumption | exact fun z => z (by assumption))
        · refine zF_iconst 94 dX12_holdScreens_93 rfl ?_
          refine zF_goto 98 dX12_holdScreens_94 rfl ?_
          refine zF_iadd 99 dX12_holdScreens_98 rfl ?_
          refine zF_iastore 100 dX12_holdScreens_99 rfl (zM_0 hMa2).2.2 (zM_0 hMa2).2.1 (by omega) (by omega) ?_
          refine zF_iinc 103 (ls' := [(1, zI (((y : Nat) : Int) + 1)), (2, zI (mSh (hsG N y) (y : Int) 6)), (0, zR hm)]) dX12_holdScreens_100 rfl rfl rfl (by decide) rfl ?_
          refine zF_goto 29 dX12_holdScreens_103 rfl ?_
          exact zF_locs (ls' := [(1, zI (((y + 1) : Nat) : Int)), (0, zR hm)]) ⟨zlI rfl (by first | rfl | omega | (push_cast; omega) | exact congrArg (_ + ·) (zbT (by assumption)) | exact congrArg (_ + ·) (zbF (by assumption)) | exact congrArg (_ + ·) (zbT (by omega)) | exact congrArg (_ + ·) (zbF (by omega)) | exact congrArg (_ + ·) (if_pos (by omega)).symm | exact congrArg (_ + ·) (if_neg (by omega)).symm | exact (if_pos (by omega)).symm | exact (if_neg (by omega)).symm | exact zsub_s (if_pos (by omega)).symm | exact zsub_s0 (if_neg (by omega)).symm | exact zadd0 (if_neg (by omega)).symm | exact zadd0 (zbF (by omega)) | exact (Int.sub_zero _).symm), rfl, trivial⟩ (ih29 (y + 1) _ (by omega) (⟨by omega, zFr_si (Or.inl rfl) fb2, fun s hs => (zMo_15 hM).trans ((congrFun h152 _).trans (p15 s hs)), (mSet_mem hNa2).trans (hsG_s (by omega) rfl ((hsG_sh (by omega) (by omega) (Int.le_refl _)).trans ehf.symm) rfl (by rw [← zbT (p := mHold N (y : Int)) (by assumption)]))⟩))
  · refine zF_aload_n 11 dX12_holdScreens_10 rfl rfl ?_
    refine zF_getR 14 dX12_holdScreens_11 rfl gX12_41 hM2.1 hM2.2.1 (zM_15 hM2).1 ?_
    refine zF_iload_n 15 dX12_holdScreens_14 rfl rfl ?_
    refine zF_aload_n 16 dX12_holdScreens_15 rfl rfl ?_
    refine zF_iload_n 17 dX12_holdScreens_16 rfl rfl ?_
    refine zF_callVi 20 (d2 := (d + 9)) (as := [zI ((x : Nat) : Int)]) dX12_holdScreens_17 rfl kX12_271 iX12_isHolding (ci := 12) rfl eX12_isHolding (Nat.le_refl _) hM2.1 hM2.2.1 rfl rfl (Nat.le_of_ble_eq_true rfl) ((by have q := zt_X12_isHolding (G := G) (d := d + 4) (s := ((x : Nat) : Int)) hM2 hN2 hV0 hW0 (by rw [hG2]; exact ok0) (by omega) (by omega); rw [hG2] at q; exact q)) ?_
    refine zF_zastore 21 dX12_holdScreens_20 rfl (zM_15 hM2).2.2 (zM_15 hM2).2.1 (by omega) (by omega) (zb01 _) ?_
    refine zF_iinc 24 (ls' := [(1, zI (((x : Nat) : Int) + 1)), (0, zR hm)]) dX12_holdScreens_21 rfl rfl rfl (by decide) rfl ?_
    refine zF_goto 2 dX12_holdScreens_24 rfl ?_
    exact zF_locs (ls' := [(1, zI (((x + 1) : Nat) : Int)), (0, zR hm)]) ⟨zlI rfl (by first | rfl | omega | (push_cast; omega) | exact congrArg (_ + ·) (zbT (by assumption)) | exact congrArg (_ + ·) (zbF (by assumption)) | exact congrArg (_ + ·) (zbT (by omega)) | exact congrArg (_ + ·) (zbF (by omega)) | exact congrArg (_ + ·) (if_pos (by omega)).symm | exact congrArg (_ + ·) (if_neg (by omega)).symm | exact (if_pos (by omega)).symm | exact (if_neg (by omega)).symm | exact zsub_s (if_pos (by omega)).symm | exact zsub_s0 (if_neg (by omega)).symm | exact zadd0 (if_neg (by omega)).symm | exact zadd0 (zbF (by omega)) | exact (Int.sub_zero _).symm), rfl, trivial⟩ (ih2 (x + 1) _ (by omega) (⟨by omega, zFr_si rfl fr2, fun s hs => by
          rw [zia_si]
          by_cases c : s = x
          · subst c; rw [if_pos ⟨rfl, rfl⟩]; exact zb_congr ((ag0.hold hV (by omega) (by omega)).trans (mHold_eq hV hX hQ hok (by omega) (by omega)))
          · rw [if_neg (fun q => c (by have := q.2; omega))]; exact p2 s (by omega)⟩))
theorem PHS_mi {σ1 : zMem} (f : zFr (fun y _ => y = A 0 ∨ y = A 15) σ σ1) : zFr (mMi hm A) σ σ1 := f.wk fun _ _ q => q.elim (fun q => Or.inr ⟨0, by decide, q⟩) (fun q => Or.inr ⟨15, by decide, q⟩)
theorem PHS_hm (hM : zMo σ hm A) {σ1 : zMem} {j v : Int} (f : zFr (fun y _ => y = A 0 ∨ y = A 15) σ σ1) (e : zia σ hm j = v) : zia σ1 hm j = v := (f.2.2.2.2.2 hm j (fun q => q.elim (fun q => zMo_hm1 hM (k := 0) (by decide) zMo_h1 q.symm) (fun q => zMo_hm1 hM (k := 15) (by decide) zMo_h1 q.symm))).trans e
theorem PHS_hr (hM : zMo σ hm A) {H : Int → Int → Int} {u : Int} {σ1 : zMem} (f : zFr (fun y _ => y = A 0 ∨ y = A 15) σ σ1) (h : mHr H u σ A) : mHr H u σ1 A := mHr_fr h f fun _ q => q.elim (zMo_ne hM (j := 3) (k := 0) (by decide) (by decide) (by decide)) (zMo_ne hM (j := 3) (k := 15) (by decide) (by decide) (by decide))
theorem clN_212 : clN N 212 = clA N 0 := by
  rw [clN_hi (by omega) (by omega)]
  unfold kwN
  rw [if_neg (by omega), if_pos (by omega)]
  rfl
def oClV (N : Int → Int) : Int := if N 3 = 60 then -2 else clA N 0
def oClS (S : zS) : zS := if S.1 3 = 60 then S else sRec S (clN S.1)
theorem zt_X12_close {H : Int → Int → Int} {u T : Int} (hM : zMo σ hm A) (hS : mST (N, H, u) σ hm A) (g : gS T (N, H, u)) (hf : fe N) (hT : T ≤ 20000) : zE G mX12_close (d + 16) [zR hm] σ (mopM 0 (oClV N) (N, H, u) (oClS (N, H, u)) hm A σ) := by
  refine zE_of rfl (by simp [zcat]) (Nat.le_of_ble_eq_true rfl) ?_
  show zF G mX12_close (d + 16) 0 [(0, zR hm)] [] σ _
  obtain ⟨hN, hu, hh⟩ := hS
  have hN : zia σ (A 0) = N := hN
  have hu : zia σ hm ((4 : Nat) : Int) = u := hu
  have hh : mHr H u σ A := hh
  have gn : gN T N := g.n
  have hV := gn.v
  have hW := gn.w
  have hX := gn.x
  have hQ := gn.q
  have hb := hV.b
  have hn := hV.n
  have u0 : 0 ≤ u := g.2.1.1
  have u1 : u ≤ 10 := g.2.1.2
  have n0m := zMo_hm1 hM (k := 0) (by decide) zMo_h1
  have n3m := zMo_hm1 hM (k := 3) (by decide) zMo_h1
  have hf0 := nF_eq hV
  have ha : amR N := fun k => clA_b hV hW hf gn.m hT k
  refine zF_aload_n 1 dX12_close_0 rfl rfl ?_
  refine zF_iconst 2 dX12_close_1 rfl ?_
  refine zF_putI 5 dX12_close_2 rfl pX12_close_89 (Or.inl rfl) hM.1 hM.2.1 ?_
  refine zF_aload_n 6 dX12_close_5 rfl rfl ?_
  refine zF_getR 9 dX12_close_6 rfl gX12_9 hM.1 hM.2.1 (zM_0 hM).1 ?_
  refine zF_iconst 10 dX12_close_9 rfl ?_
  refine zF_iaload 11 dX12_close_10 rfl (zM_0 hM).2.2 (zM_0 hM).2.1 (by omega) (by omega) (congrFun (zMo_hN (k := 0) hN hM (by decide) zMo_h1) _) ?_
  refine zF_bipush 13 dX12_close_11 rfl (by decide) ?_
  refine zF_icmp_ne 19 16 dX12_close_13 rfl rfl (by first | decide | assumption | exact hb _ | exact zb_rg _ | (constructor <;> omega)) (by first | decide | assumption | exact hb _ | exact zb_rg _ | (constructor <;> omega)) (fun c1 => ?_) (fun c1 => ?_)
  · refine zF_aload_n 20 dX12_close_19 rfl rfl ?_
    refine zF_callV 23 (d2 := (d + 15)) (as := []) dX12_close_20 rfl kX12_292 iX12_record (ci := 12) rfl eX12_record (Nat.le_refl _) hM.1 hM.2.1 rfl rfl (Nat.le_of_ble_eq_true rfl) (zE.mono (zt_X12_record hM (zsi_F (by decide) hu) u0 u1) fun ro σa1 hh1 => ?_)
    obtain ⟨er1, fr1, p1⟩ := hh1
    subst er1
    refine ⟨fr1.1, ?_⟩
    show zF G mX12_close (d + 16) 23 [(0, zR hm)] [] σa1 _
    have hMa1 := zMo_f2 fr1 hM
    have hNa1 : zia σa1 (A 0) = N := (fr1.at fun j q => q.elim (zMo_ne hM (j := 0) (k := 3) (by decide) (by decide) (by decide)) (fun q => n0m q.1)).trans (zMo_hN (k := 0) hN hM (by decide) zMo_h1)
    have hha1 := mHr_rec (zMo_hN (k := 0) hN hM (by decide) zMo_h1) hQ.z (mHr_si hh n3m) u0 u1 ⟨fr1, p1⟩
    refine zF_aload_n 24 dX12_close_23 rfl rfl ?_
    refine zF_callV 27 (d2 := (d + 15)) (as := []) dX12_close_24 rfl kX12_244 iX12_layWeek (ci := 12) rfl eX12_layWeek (Nat.le_refl _) hMa1.1 hMa1.2.1 rfl rfl (Nat.le_of_ble_eq_true rfl) (zE.mono (zt_X12_layWeek hMa1 hNa1 hV hW) fun ro σa2 hh2 => ?_)
    obtain ⟨er2, fr2, p2⟩ := hh2
    subst er2
    refine ⟨fr2.1, ?_⟩
    show zF G mX12_close (d + 16) 27 [(0, zR hm)] [] σa2 _
    have hMa2 := zMo_f2 fr2 hMa1
    have hNa2 : zia σa2 (A 0) = N := zFr_N (σ := σa1) hMa1 hNa1 fr2
    have hha2 := mHr_fr hha1 fr2 (fun _ q => q.elim (zMo_ne hM (j := 3) (k := 7) (by decide) (by decide) (by decide)) (zMo_ne hM (j := 3) (k := 8) (by decide) (by decide) (by decide)))
    have hga2 := gOK_V hV p2
    refine zF_aload_n 28 dX12_close_27 rfl rfl ?_
    refine zF_callV 31 (d2 := (d + 15)) (as := []) dX12_close_28 rfl kX12_299 iX12_keepWeek (ci := 12) rfl eX12_keepWeek (Nat.le_refl _) hMa2.1 hMa2.2.1 rfl rfl (Nat.le_of_ble_eq_true rfl) (zE.mono (zt_X12_keepWeek hMa2 rfl hV hW hX hQ p2 ha hNa2) fun ro σa3 hh3 => ?_)
    obtain ⟨er3, fr3, p3⟩ := hh3
    subst er3
    refine ⟨fr3.1, ?_⟩
    show zF G mX12_close (d + 16) 31 [(0, zR hm)] [] σa3 _
    have hMa3 := zMo_f2 fr3 hMa2
    have fk : zFr (fun y _ => y = A 0 ∨ y = A 15) σa2 σa3 := fr3.wk fun _ _ q => Or.inl q
    refine zF_iconst 32 dX12_close_31 rfl ?_
    refine zF_istore_n 33 (ls' := [(1, zI 0), (0, zR hm)]) dX12_close_32 rfl (by decide) rfl ?_
    refine zF_locs (ls' := [(1, zI ((0 : Nat) : Int)), (0, zR hm)]) ⟨zlI rfl (by first | rfl | omega | (push_cast; omega) | exact congrArg (_ + ·) (zbT (by assumption)) | exact congrArg (_ + ·) (zbF (by assumption)) | exact congrArg (_ + ·) (zbT (by omega)) | exact congrArg (_ + ·) (zbF (by omega)) | exact congrArg (_ + ·) (if_pos (by omega)).symm | exact congrArg (_ + ·) (if_neg (by omega)).symm | exact (if_pos (by omega)).symm | exact (if_neg (by omega)).symm | exact zsub_s (if_pos (by omega)).symm | exact zsub_s0 (if_neg (by omega)).symm | exact zadd0 (if_neg (by omega)).symm | exact zadd0 (zbF (by omega)) | exact (Int.sub_zero _).symm), rfl, trivial⟩ ?_
    refine zF_while (X := Nat) (fun x => nF N - x) (fun x σ2 => x ≤ nF N ∧ zFr (fun y _ => y = A 0 ∨ y = A 15) σa2 σ2 ∧ zia σ2 (A 0) = kfG N x 0 0) (fun x => [(1, zI ((x : Nat) : Int)), (0, zR hm)]) ?_ 0 σa3 (⟨Nat.zero_le _, fk, p3.trans kfG_0.symm⟩)
    intro x σ2 hI33 ih33
    show zF G mX12_close (d + 16) 33 [(1, zI ((x : Nat) : Int)), (0, zR hm)] [] σ2 _
    obtain ⟨hx, frL, hN2⟩ := hI33
    have e2x : kfG N x 0 0 2 = N 2 := kfG_agr _ _ _ 2 (by omega)
    have hM2 := zMo_fr hMa2 frL
    have hG2 := zA015_7 hMa2 rfl frL
    refine zF_iload_n 34 dX12_close_33 rfl rfl ?_
    refine zF_aload_n 35 dX12_close_34 rfl rfl ?_
    refine zF_callVi 38 (d2 := (d + 15)) (as := []) dX12_close_35 rfl kX12_116 iX12_films (ci := 12) rfl eX12_films (Nat.le_refl _) hM2.1 hM2.2.1 rfl rfl (Nat.le_of_ble_eq_true rfl) (zn_X12_films hM2 hN2) ?_
    refine zF_icmp_ge 52 41 dX12_close_38 rfl rfl (by first | decide | assumption | exact hb _ | exact zb_rg _ | (constructor <;> omega)) (by first | decide | assumption | exact hb _ | exact zb_rg _ | (constructor <;> omega)) (fun c2 => ?_) (fun c2 => ?_)
    · refine zF_aload_n 53 dX12_close_52 rfl rfl ?_
      refine zF_callV 56 (d2 := (d + 15)) (as := []) dX12_close_53 rfl kX12_305 iX12_holdScreens (ci := 12) rfl eX12_holdScreens (Nat.le_refl _) hM2.1 hM2.2.1 rfl rfl (Nat.le_of_ble_eq_true rfl) (zE.mono (zt_X12_holdScreens hM2 hG2 hV hW hX hQ p2 ha (by rw [hN2, show x = nF N by omega]; exact hsG_0.symm)) fun ro σa4 hh4 => ?_)
      obtain ⟨er4, fr4, p4⟩ := hh4
      subst er4
      refine ⟨fr4.1, ?_⟩
      show zF G mX12_close (d + 16) 56 [(1, zI ((x : Nat) : Int)), (0, zR hm)] [] σa4 _
      have fh := frL.tr fr4
      have hMh := zMo_fr hMa2 fh
      refine zF_aload_n 57 dX12_close_56 rfl rfl ?_
      refine zF_getR 60 dX12_close_57 rfl gX12_9 hMh.1 hMh.2.1 (zM_0 hMh).1 ?_
      refine zF_iconst 61 dX12_close_60 rfl ?_
      refine zF_dup2 62 dX12_close_61 rfl rfl rfl ?_
      refine zF_iaload 63 dX12_close_62 rfl (zM_0 hMh).2.2 (zM_0 hMh).2.1 (by omega) (by omega) (congrFun p4 _) ?_
      refine zF_iconst 64 dX12_close_63 rfl ?_
      refine zF_iadd 65 dX12_close_64 rfl ?_
      refine zF_iastore 66 dX12_close_65 rfl (zM_0 hMh).2.2 (zM_0 hMh).2.1 (by omega) (by omega) ?_
      refine zF_aload_n 67 dX12_close_66 rfl rfl ?_
      refine zF_getR 70 dX12_close_67 rfl gX12_9 hMh.1 hMh.2.1 (zM_0 hMh).1 ?_
      refine zF_iconst 71 dX12_close_70 rfl ?_
      refine zF_iconst 72 dX12_close_71 rfl ?_
      refine zF_iastore 73 dX12_close_72 rfl (zM_0 hMh).2.2 (zM_0 hMh).2.1 (by omega) (by omega) ?_
      refine zF_aload_n 74 dX12_close_73 rfl rfl ?_
      refine zF_getR 77 dX12_close_74 rfl gX12_9 hMh.1 hMh.2.1 (zM_0 hMh).1 ?_
      refine zF_sipush 80 dX12_close_77 rfl (by decide) ?_
      refine zF_iaload 81 dX12_close_80 rfl (zM_0 hMh).2.2 (zM_0 hMh).2.1 (by omega) (by omega) (congrFun (mSet_mem (mSet_mem p4)) _) ?_
      exact zF_ireturn dX12_close_81 rfl (mopMR (((((mMu5 zFr.rf).tr (mMi_mu (mMi_C zFr.rf fr1))).tr (mMi_mu (mMi_78 zFr.rf fr2)))).tr (mMi_mu (PHS_mi (zFr_si (Or.inl rfl) (zFr_si (Or.inl rfl) fh))))) (PHS_hm hMa2 (zFr_si (Or.inl rfl) (zFr_si (Or.inl rfl) fh)) (zFr_F fr2 (n78 hMa1 (j := 0)) (zFr_F fr1 (fun q => q.elim (fun q => n3m q.symm) (fun q => absurd q.2 (by decide))) (zsi_same _ _ _ _)))) rfl (by unfold oClV; rw [if_neg (by omega)]; exact (congrFun (clN_e rfl rfl rfl) 212).trans clN_212) (S1 := sRec (N, H, u) (clN N)) (if_neg (by show ¬ N 3 = 60; omega)) ⟨(mSet_mem (mSet_mem p4)).trans (clN_e rfl rfl rfl), PHS_hm hMa2 (zFr_si (Or.inl rfl) (zFr_si (Or.inl rfl) fh)) (zFr_F fr2 (n78 hMa1 (j := 0)) p1.1), PHS_hr hMa2 (zFr_si (Or.inl rfl) (zFr_si (Or.inl rfl) fh)) hha2⟩)
    · refine zF_aload_n 42 dX12_close_41 rfl rfl ?_
      refine zF_iload_n 43 dX12_close_42 rfl rfl ?_
      refine zF_callV 46 (d2 := (d + 15)) (as := [zI ((x : Nat) : Int)]) dX12_close_43 rfl kX12_302 iX12_keepFilm (ci := 12) rfl eX12_keepFilm (Nat.le_refl _) hM2.1 hM2.2.1 rfl rfl (Nat.le_of_ble_eq_true rfl) (zE.mono (zt_X12_keepFilm (x := x) hM2 hG2 hV hW hX hQ p2 ha (by omega) hN2) fun ro σa5 hh5 => ?_)
      obtain ⟨er5, fr5, p5⟩ := hh5
      subst er5
      refine ⟨fr5.1, ?_⟩
      show zF G mX12_close (d + 16) 46 [(1, zI ((x : Nat) : Int)), (0, zR hm)] [] σa5 _
      refine zF_iinc 49 (ls' := [(1, zI (((x : Nat) : Int) + 1)), (0, zR hm)]) dX12_close_46 rfl rfl rfl (by decide) rfl ?_
      refine zF_goto 33 dX12_close_49 rfl ?_
      exact zF_locs (ls' := [(1, zI (((x + 1) : Nat) : Int)), (0, zR hm)]) ⟨zlI rfl (by first | rfl | omega | (push_cast; omega) | exact congrArg (_ + ·) (zbT (by assumption)) | exact congrArg (_ + ·) (zbF (by assumption)) | exact congrArg (_ + ·) (zbT (by omega)) | exact congrArg (_ + ·) (zbF (by omega)) | exact congrArg (_ + ·) (if_pos (by omega)).symm | exact congrArg (_ + ·) (if_neg (by omega)).symm | exact (if_pos (by omega)).symm | exact (if_neg (by omega)).symm | exact zsub_s (if_pos (by omega)).symm | exact zsub_s0 (if_neg (by omega)).symm | exact zadd0 (if_neg (by omega)).symm | exact zadd0 (zbF (by omega)) | exact (Int.sub_zero _).symm), rfl, trivial⟩ (ih33 (x + 1) _ (by omega) (⟨by omega, frL.tr (fr5.wk fun _ _ q => Or.inl q), p5⟩))
  · refine zF_bipush 18 dX12_close_16 rfl (by decide) ?_
    exact zF_ireturn dX12_close_18 rfl (mopMR (mMu5 zFr.rf) (zsi_same _ _ _ _) rfl ((if_pos (by omega)).symm) (S1 := (N, H, u)) (if_pos (by show N 3 = 60; omega)) ⟨(zMo_hN (k := 0) hN hM (by decide) zMo_h1), (zsi_F (by decide) hu), (mHr_si hh n3m)⟩)
end ZK3

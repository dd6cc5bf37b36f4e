/-! act -/
section ZQH
variable {G : zG} {d : Nat} {σ : zMem} {N : Int → Int} {H : Int → Int → Int} {u T vv : Int} {E : Nat → Nat} {n0 : Nat}
set_option maxRecDepth 20000 in
theorem zt_L_act (hGd : zGd G) (hAO : zAO G) (hL : cL T (N, H, u) σ) (hT : T ≤ 19999) (hE : eO N σ E) (hU : eU E n0 (zn σ)) (hn0 : 228 ≤ n0) (hbg : zn σ + 10 < zbg) (hN0 : 1 ≤ N 0) (hN2 : 1 ≤ N 2) (hn1 : n0 ≤ zn σ) : zE G mL_act (d + 10) [zR (B0 0), zR (E 0), zI vv] σ (pAct N H u T E n0 σ) := by
  refine zE_of rfl (by simp [zcat]) (Nat.le_of_ble_eq_true rfl) ?_
  show zF G mL_act (d + 10) 0 [(0, zR (B0 0)), (1, zR (E 0)), (2, zI vv)] [] σ _
  have hK : cK T N σ := hL.K
  have hV := hK.V
  have hn := hV.n
  have hb := eB_of hV
  have hE228 := hU.ge228 hn0
  have hs228 := hL.1.1
  refine zF_iload_n 1 dL_act_0 rfl rfl ?_
  refine zF_bipush 3 dL_act_1 rfl (by decide) ?_
  refine zF_callS 6 (d2 := (d + 9)) (as := [zI vv, zI 17]) dL_act_3 rfl kL_27 sL_most (Nat.le_refl _) rfl rfl (Nat.le_of_ble_eq_true rfl) (zE.mono (zt_L_most (by omega) (by constructor <;> omega)) fun ro σx3 hh3 => ?_)
  obtain ⟨es3, z3, er3, zl3, zu3⟩ := hh3
  replace es3 := es3.symm
  subst es3
  subst er3
  refine ⟨rfl, ?_⟩
  show zF G mL_act (d + 10) 6 [(0, zR (B0 0)), (1, zR (E 0)), (2, zI vv)] [zI z3] σ _
  refine zF_istore_n 7 (ls' := [(3, zI z3), (0, zR (B0 0)), (1, zR (E 0)), (2, zI vv)]) dL_act_6 rfl (by decide) rfl ?_
  refine zF_iload_n 8 dL_act_7 rfl rfl ?_
  refine zF_iconst 9 dL_act_8 rfl ?_
  refine zF_ishr 10 dL_act_9 rfl ?_
  refine zF_istore 12 (ls' := [(4, zI ((Int32.ofInt vv >>> (Int32.ofInt 4 &&& 31)).toInt)), (3, zI z3), (0, zR (B0 0)), (1, zR (E 0)), (2, zI vv)]) dL_act_10 rfl (by decide) rfl ?_
  refine zF_iload_n 13 dL_act_12 rfl rfl ?_
  refine zF_bipush 15 dL_act_13 rfl (by decide) ?_
  refine zF_icmp_le 63 18 dL_act_15 rfl rfl (by first | decide | assumption | exact hV.b _ | exact mSh_rg hV.b _ _ | (constructor <;> omega)) (by first | decide | assumption | exact hV.b _ | exact mSh_rg hV.b _ _ | (constructor <;> omega)) (fun c1 => ?_) (fun c1 => ?_)
  · refine zF_iload 65 dL_act_63 rfl rfl ?_
    refine zF_iconst 66 dL_act_65 rfl ?_
    refine zF_ishr 67 dL_act_66 rfl ?_
    refine zF_aload_n 68 dL_act_67 rfl rfl ?_
    refine zF_getIN 71 dL_act_68 rfl gnL_39 (by decide) (by decide) hE.k0 hE.l0 hE.i2 ?_
    refine zF_callS 74 (d2 := (d + 9)) (as := [zI ((Int32.ofInt ((Int32.ofInt vv >>> (Int32.ofInt 4 &&& 31)).toInt) >>> (Int32.ofInt 3 &&& 31)).toInt), zI (N 2)]) dL_act_71 rfl kL_27 sL_most (Nat.le_refl _) rfl rfl (Nat.le_of_ble_eq_true rfl) (zE.mono (zt_L_most (by omega) (by constructor <;> omega)) fun ro σx71 hh71 => ?_)
    obtain ⟨es71, z71, er71, zl71, zu71⟩ := hh71
    replace es71 := es71.symm
    subst es71
    subst er71
    refine ⟨rfl, ?_⟩
    show zF G mL_act (d + 10) 74 [(4, zI ((Int32.ofInt vv >>> (Int32.ofInt 4 &&& 31)).toInt)), (3, zI z3), (0, zR (B0 0)), (1, zR (E 0)), (2, zI vv)] [zI z71] σ _
    refine zF_istore 76 (ls' := [(5, zI z71), (4, zI ((Int32.ofInt vv >>> (Int32.ofInt 4 &&& 31)).toInt)), (3, zI z3), (0, zR (B0 0)), (1, zR (E 0)), (2, zI vv)]) dL_act_74 rfl (by decide) rfl ?_
    refine zF_iload_n 77 dL_act_76 rfl rfl ?_
    refine zF_bipush 79 dL_act_77 rfl (by decide) ?_
    refine zF_icmp_le 308 82 dL_act_79 rfl rfl (by first | decide | assumption | exact hV.b _ | exact mSh_rg hV.b _ _ | (constructor <;> omega)) (by first | decide | assumption | exact hV.b _ | exact mSh_rg hV.b _ _ | (constructor <;> omega)) (fun c2 => ?_) (fun c2 => ?_)
    · refine zF_iload 310 dL_act_308 rfl rfl ?_
      refine zF_aload_n 311 dL_act_310 rfl rfl ?_
      refine zF_getIN 314 dL_act_311 rfl gnL_31 (by decide) (by decide) hE.k0 hE.l0 hE.i0 ?_
      refine zF_callS 317 (d2 := (d + 9)) (as := [zI ((Int32.ofInt vv >>> (Int32.ofInt 4 &&& 31)).toInt), zI (N 0)]) dL_act_314 rfl kL_27 sL_most (Nat.le_refl _) rfl rfl (Nat.le_of_ble_eq_true rfl) (zE.mono (zt_L_most (by omega) (by constructor <;> omega)) fun ro σx314 hh314 => ?_)
      obtain ⟨es314, z314, er314, zl314, zu314⟩ := hh314
      replace es314 := es314.symm
      subst es314
      subst er314
      refine ⟨rfl, ?_⟩
      show zF G mL_act (d + 10) 317 [(5, zI z71), (4, zI ((Int32.ofInt vv >>> (Int32.ofInt 4 &&& 31)).toInt)), (3, zI z3), (0, zR (B0 0)), (1, zR (E 0)), (2, zI vv)] [zI z314] σ _
      refine zF_istore 319 (ls' := [(6, zI z314), (5, zI z71), (4, zI ((Int32.ofInt vv >>> (Int32.ofInt 4 &&& 31)).toInt)), (3, zI z3), (0, zR (B0 0)), (1, zR (E 0)), (2, zI vv)]) dL_act_317 rfl (by decide) rfl ?_
      refine zF_iload_n 320 dL_act_319 rfl rfl ?_
      refine zF_bipush 322 dL_act_320 rfl (by decide) ?_
      refine zF_icmp_ne 440 325 dL_act_322 rfl rfl (by first | decide | assumption | exact hV.b _ | exact mSh_rg hV.b _ _ | (constructor <;> omega)) (by first | decide | assumption | exact hV.b _ | exact mSh_rg hV.b _ _ | (constructor <;> omega)) (fun c3 => ?_) (fun c3 => ?_)
      · refine zF_iload_n 441 dL_act_440 rfl rfl ?_
        refine zF_bipush 443 dL_act_441 rfl (by decide) ?_
        refine zF_icmp_ne 503 446 dL_act_443 rfl rfl (by first | decide | assumption | exact hV.b _ | exact mSh_rg hV.b _ _ | (constructor <;> omega)) (by first | decide | assumption | exact hV.b _ | exact mSh_rg hV.b _ _ | (constructor <;> omega)) (fun c4 => ?_) (fun c4 => ?_)
        · refine zF_iload_n 504 dL_act_503 rfl rfl ?_
          refine zF_bipush 506 dL_act_504 rfl (by decide) ?_
          refine zF_icmp_eq 516 509 dL_act_506 rfl rfl (by first | decide | assumption | exact hV.b _ | exact mSh_rg hV.b _ _ | (constructor <;> omega)) (by first | decide | assumption | exact hV.b _ | exact mSh_rg hV.b _ _ | (constructor <;> omega)) (fun c5 => ?_) (fun c5 => ?_)
          · exact act_fee hGd hAO hL hT hE hU hn0 hbg
          · refine zF_aload_n 510 dL_act_509 rfl rfl ?_
            refine zF_getIN 513 dL_act_510 rfl gnL_55 (by decide) (by decide) hE.k0 hE.l0 hE.i1 ?_
            refine zF_if_ne 553 516 dL_act_513 rfl rfl (by first | decide | assumption | exact hV.b _ | exact mSh_rg hV.b _ _ | (constructor <;> omega)) (fun c6 => ?_) (fun c6 => ?_)
            · refine zF_iload 555 dL_act_553 rfl rfl ?_
              refine zF_iconst 556 dL_act_555 rfl ?_
              refine zF_ishr 557 dL_act_556 rfl ?_
              refine zF_aload_n 558 dL_act_557 rfl rfl ?_
              refine zF_getIN 561 dL_act_558 rfl gnL_55 (by decide) (by decide) hE.k0 hE.l0 hE.i1 ?_
              refine zF_callS 564 (d2 := (d + 9)) (as := [zI ((Int32.ofInt ((Int32.ofInt vv >>> (Int32.ofInt 4 &&& 31)).toInt) >>> (Int32.ofInt 1 &&& 31)).toInt), zI (N 1)]) dL_act_561 rfl kL_27 sL_most (Nat.le_refl _) rfl rfl (Nat.le_of_ble_eq_true rfl) (zE.mono (zt_L_most (by omega) (by constructor <;> omega)) fun ro σx561 hh561 => ?_)
              obtain ⟨es561, z561, er561, zl561, zu561⟩ := hh561
              replace es561 := es561.symm
              subst es561
              subst er561
              refine ⟨rfl, ?_⟩
              show zF G mL_act (d + 10) 564 [(6, zI z314), (5, zI z71), (4, zI ((Int32.ofInt vv >>> (Int32.ofInt 4 &&& 31)).toInt)), (3, zI z3), (0, zR (B0 0)), (1, zR (E 0)), (2, zI vv)] [zI z561] σ _
              refine zF_istore 566 (ls' := [(7, zI z561), (6, zI z314), (5, zI z71), (4, zI ((Int32.ofInt vv >>> (Int32.ofInt 4 &&& 31)).toInt)), (3, zI z3), (0, zR (B0 0)), (1, zR (E 0)), (2, zI vv)]) dL_act_564 rfl (by decide) rfl ?_
              refine zF_iload_n 567 dL_act_566 rfl rfl ?_
              refine zF_bipush 569 dL_act_567 rfl (by decide) ?_
              refine zF_icmp_ne 628 572 dL_act_569 rfl rfl (by first | decide | assumption | exact hV.b _ | exact mSh_rg hV.b _ _ | (constructor <;> omega)) (by first | decide | assumption | exact hV.b _ | exact mSh_rg hV.b _ _ | (constructor <;> omega)) (fun c7 => ?_) (fun c7 => ?_)
              · refine zF_iload_n 629 dL_act_628 rfl rfl ?_
                refine zF_bipush 631 dL_act_629 rfl (by decide) ?_
                refine zF_icmp_ne 703 634 dL_act_631 rfl rfl (by first | decide | assumption | exact hV.b _ | exact mSh_rg hV.b _ _ | (constructor <;> omega)) (by first | decide | assumption | exact hV.b _ | exact mSh_rg hV.b _ _ | (constructor <;> omega)) (fun c8 => ?_) (fun c8 => ?_)
                · exact act_book hGd hAO hL hT hE hU hn0 hbg (by constructor <;> omega) (by omega) (by omega) (by omega) (by omega) hn1
                · exact act_empty hGd hAO hL hT hE hU hn0 hbg (by omega) (by omega)
              · exact act_rent hGd hAO hL hT hE hU hn0 hbg (by omega) (by omega)
            · exact act_fee hGd hAO hL hT hE hU hn0 hbg
        · exact act_holdover hGd hAO hL hT hE hU hn0 hbg (by omega) (by omega)
      · exact act_program hGd hAO hL hT hE hU hn0 hbg (by omega) (by omega)
    · exact act_move hGd hAO hL hT hE hU hn0 hbg (by omega) (by omega) (by omega)
  · exact act_close hGd hAO hL hT hE hU hn0 hbg
end ZQH

/-! acts, branch by branch -/
section ZQE
variable {G : zG} {d : Nat} {σ : zMem} {N : Int → Int} {H : Int → Int → Int} {u T w z3 vv f h s : Int} {E : Nat → Nat} {n0 : Nat}
theorem cL.gs (c : cL T (N, H, u) σ) {i : Nat} {j v : Int} (hE : ∀ i, 228 ≤ E i) : cL T (N, H, u) (zsi σ (E i) j v) := c.ge (E := E) (n := zn σ) (zGE.rf.si) c.1.1 hE
set_option maxRecDepth 20000 in
theorem act_fee (hGd : zGd G) (hAO : zAO G) (hL : cL T (N, H, u) σ) (hT : T ≤ 19999) (hE : eO N σ E) (hU : eU E n0 (zn σ)) (hn0 : 228 ≤ n0) (hbg : zn σ + 10 < zbg) : zF G mL_act (d + 10) 516 [(6, zI h), (5, zI f), (4, zI w), (3, zI z3), (0, zR (B0 0)), (1, zR (E 0)), (2, zI vv)] [] σ (pAct N H u T E n0 σ) := by
  have hK : cK T N σ := hL.K
  have hV := hK.V
  have hn := hV.n
  have hb := eB_of hV
  have hE228 := hU.ge228 hn0
  have hs228 := hL.1.1
  refine zF_aload_n 517 dL_act_516 rfl rfl ?_
  refine zF_getIN 520 dL_act_517 rfl gnL_58 (by decide) (by decide) hE.k0 hE.l0 hE.i4 ?_
  refine zF_istore 522 (ls' := [(7, zI (N 4)), (6, zI h), (5, zI f), (4, zI w), (3, zI z3), (0, zR (B0 0)), (1, zR (E 0)), (2, zI vv)]) dL_act_520 rfl (by decide) rfl ?_
  refine zF_aload_n 523 dL_act_522 rfl rfl ?_
  refine zF_iload 525 dL_act_523 rfl rfl ?_
  refine zF_sipush 528 dL_act_525 rfl (by decide) ?_
  refine zF_callS 531 (d2 := (d + 9)) (as := [zI w, zI 1000]) dL_act_528 rfl kL_27 sL_most (Nat.le_refl _) rfl rfl (Nat.le_of_ble_eq_true rfl) (zE.mono (zt_L_most (by omega) (by constructor <;> omega)) fun ro σx528 hh528 => ?_)
  obtain ⟨es528, z528, er528, zl528, zu528⟩ := hh528
  replace es528 := es528.symm
  subst es528
  subst er528
  refine ⟨rfl, ?_⟩
  show zF G mL_act (d + 10) 531 [(7, zI (N 4)), (6, zI h), (5, zI f), (4, zI w), (3, zI z3), (0, zR (B0 0)), (1, zR (E 0)), (2, zI vv)] [zI z528, zR (E 0)] σ _
  refine zF_putIN 534 dL_act_531 rfl pnL_58 hE.k0 hE.l0 ?_
  refine zF_aload_n 535 dL_act_534 rfl rfl ?_
  refine zF_aload_n 536 dL_act_535 rfl rfl ?_
  refine zF_getIN 539 dL_act_536 rfl gnL_58 (by decide) (by decide) hE.k0 hE.l0 (zsi_same _ _ _ _) ?_
  refine zF_callV 542 (d2 := (d + 9)) (as := [zI z528]) dL_act_539 rfl kL_164 iX11_setFee (ci := 11) rfl eX11_setFee (Nat.le_refl _) (hL.gs hE228).1.bk (hL.gs hE228).1.bl rfl rfl (Nat.le_of_ble_eq_true rfl) (zE.mono (pL_setFee (d := d) hGd (hL.gs hE228) (by omega) (by omega) (by omega)) fun ro σs539 hh539 => ?_)
  obtain ⟨er539, fr539, L539⟩ := hh539
  subst er539
  refine ⟨fr539.1, ?_⟩
  show zF G mL_act (d + 10) 542 [(7, zI (N 4)), (6, zI h), (5, zI f), (4, zI w), (3, zI z3), (0, zR (B0 0)), (1, zR (E 0)), (2, zI vv)] [zI (N 4)] σs539 _
  refine zF_iload 544 dL_act_542 rfl rfl ?_
  refine zF_icmp_ne 551 547 dL_act_544 rfl rfl (by first | decide | assumption | exact hV.b _ | exact mSh_rg hV.b _ _ | (constructor <;> omega)) (by first | decide | assumption | exact hV.b _ | exact mSh_rg hV.b _ _ | (constructor <;> omega)) (fun c1 => ?_) (fun c1 => ?_)
  · refine zF_iconst 552 dL_act_551 rfl ?_
    exact zF_ireturn dL_act_552 rfl (by exfalso; omega)
  · refine zF_iconst 548 dL_act_547 rfl ?_
    refine zF_goto 552 dL_act_548 rfl ?_
    exact zF_ireturn dL_act_552 rfl (pAct_do ((zAE_ge zGE.rf.si).tr (zAE_fr fr539)) ((zB_fr fr539 : zB _ _ 8)) rfl (L539.ups (by omega)) ((eO.pi4 hb hE).mu fr539 hU hn0 (by omega)) (by rw [fr539.1]; exact hU) (aTo_eq hV fun j hj => mSet_o (by omega)))
end ZQE

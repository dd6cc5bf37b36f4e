/-! the reference: a query's parts -/
section ZMR
variable {G : zG} {d : Nat} {σ σ0 σ1 : zMem} {hm : Nat} {A : Nat → Nat} {t : Int → Int} {L : Nat} {s : tS} {l : List Int}
/-- what compiling may change, the nesting too -/
def mPn (hm : Nat) (A : Nat → Nat) (h : Nat) (j : Int) : Prop := mPc hm A h j ∨ (h = hm ∧ j = 27)
theorem mPc_n (f : zFr (mPc hm A) σ σ1) : zFr (mPn hm A) σ σ1 := f.wk fun _ _ q => Or.inl q
theorem mPt_n (f : zFr (mPt hm) σ σ1) : zFr (mPn hm A) σ σ1 := mPc_n (mPt_c f)
theorem mTs_27 {v : Int} (h : mTs σ hm t L s) : mTs (zsi σ hm ((27 : Nat) : Int) v) hm t L s :=
  ⟨h.1, zsi_F (by decide) h.2.1, zsi_F (by decide) h.2.2.1, zsi_F (by decide) h.2.2.2.1, zsi_F (by decide) h.2.2.2.2.1, zsi_F (by decide) h.2.2.2.2.2.1, fun z => zsi_F (by decide) (h.2.2.2.2.2.2.1 z), h.2.2.2.2.2.2.2⟩
theorem mCd_27 {v : Int} (hM : zMo σ hm A) (h : mCd σ hm A l) : mCd (zsi σ hm ((27 : Nat) : Int) v) hm A l := ⟨zsi_F (by decide) h.1, fun j hj => (congrFun (zMo_hN (k := 29) rfl hM (by decide) zMo_h1) j).trans (h.2 j hj)⟩
/-- a nesting entered -/
def qEn (t : Int → Int) (L : Nat) (k : Int) (s : tS) : tS := if k < 6 then tAdv t L s else tFail 3 s
theorem zt_X12_enter {k : Int} (hM : zMo σ hm A) (hx : mTx σ A t L) (hs : mTs σ hm t L s) (h0 : s.2 = 0) (h27 : zia σ hm ((27 : Nat) : Int) = k) (k0 : 0 ≤ k) (k6 : k ≤ 6) : zE G mX12_enter (d + 6) [zR hm] σ (fun ro σ1 => ro = .inl none ∧ zFr (mPn hm A) σ σ1 ∧ mTs σ1 hm t L (qEn t L k s) ∧ zia σ1 hm ((27 : Nat) : Int) = k + 1 ∧ (mCd σ hm A l → mCd σ1 hm A l)) := by
  refine zE_of rfl (by simp [zcat]) (Nat.le_of_ble_eq_true rfl) ?_
  show zF G mX12_enter (d + 6) 0 [(0, zR hm)] [] σ _
  have hlt := mTs_lt hs
  have hl7 := hx.1
  refine zF_aload_n 1 dX12_enter_0 rfl rfl ?_
  refine zF_aload_n 2 dX12_enter_1 rfl rfl ?_
  refine zF_getI 5 dX12_enter_2 rfl gX12_366 (by decide) (by decide) hM.1 hM.2.1 h27 ?_
  refine zF_bipush 7 dX12_enter_5 rfl (by decide) ?_
  refine zF_icmp_ge 14 10 dX12_enter_7 rfl rfl (by first | decide | assumption | exact mBy_rg | (constructor <;> omega)) (by first | decide | assumption | exact mBy_rg | (constructor <;> omega)) (fun c1 => ?_) (fun c1 => ?_)
  · refine zF_iconst 15 dX12_enter_14 rfl ?_
    refine zF_iconst 16 dX12_enter_15 rfl ?_
    refine zF_callV 19 (d2 := (d + 5)) (as := [zI 0, zI 3]) dX12_enter_16 rfl kX12_382 iX12_check (ci := 12) rfl eX12_check (Nat.le_refl _) hM.1 hM.2.1 rfl rfl (Nat.le_of_ble_eq_true rfl) (zE.mono (zt_X12_check (σ := σ) (P := False) (c := 3) hM hx hs rfl (by decide) (by decide)) fun ro σa1 hh1 => ?_)
    obtain ⟨er1, fr1, p1⟩ := hh1
    subst er1
    refine ⟨fr1.1, ?_⟩
    show zF G mX12_enter (d + 6) 19 [(0, zR hm)] [] σa1 _
    have hMa1 := zMo_f2 (σ := σ) fr1 hM
    have hxa1 := mTx_t (σ := σ) hM hx fr1
    have hs1a : mTs σa1 hm t L (s.1, 3) := mTs_to p1 ((if_neg id).trans (if_pos (by first | assumption | omega)) : (if False then s else tFail 3 s) = (s.1, 3))
    refine zF_aload_n 20 dX12_enter_19 rfl rfl ?_
    refine zF_dup 21 dX12_enter_20 rfl rfl ?_
    refine zF_getI 24 dX12_enter_21 rfl gX12_366 (by decide) (by decide) hMa1.1 hMa1.2.1 (mPt_o fr1 (by omega) h27) ?_
    refine zF_iconst 25 dX12_enter_24 rfl ?_
    refine zF_iadd 26 dX12_enter_25 rfl ?_
    refine zF_putI 29 dX12_enter_26 rfl pX12_enter_366 (Or.inl rfl) hMa1.1 hMa1.2.1 ?_
    refine zF_aload_n 30 dX12_enter_29 rfl rfl ?_
    refine zF_callV 33 (d2 := (d + 5)) (as := []) dX12_enter_30 rfl kX12_386 iX12_advance (ci := 12) rfl eX12_advance (Nat.le_refl _) hMa1.1 hMa1.2.1 rfl rfl (Nat.le_of_ble_eq_true rfl) (zE.mono (zt_X12_advance (σ := (zsi σa1 hm ((27 : Nat) : Int) (k + 1))) hMa1 (mTx_si hMa1 hxa1) (mTs_27 hs1a)) fun ro σa2 hh2 => ?_)
    obtain ⟨er2, fr2, p2⟩ := hh2
    subst er2
    refine ⟨fr2.1, ?_⟩
    show zF G mX12_enter (d + 6) 33 [(0, zR hm)] [] σa2 _
    have hMa2 := zMo_f2 (σ := (zsi σa1 hm ((27 : Nat) : Int) (k + 1))) fr2 hMa1
    have hxa2 := mTx_t (σ := (zsi σa1 hm ((27 : Nat) : Int) (k + 1))) hMa1 (mTx_si hMa1 hxa1) fr2
    have hs2a : mTs σa2 hm t L (s.1, 3) := mTs_to p2 (tAdv_e (by show ¬ (3 : Int) = 0; decide))
    exact zF_return dX12_enter_33 rfl ((by
    have e : qEn t L k s = (s.1, 3) := (if_neg (by omega)).trans (if_pos h0)
    rw [e]
    exact ⟨rfl, ((zFr_si (Or.inr ⟨rfl, rfl⟩) (mPt_n fr1)).tr (mPt_n fr2)), hs2a, (mPt_o fr2 (by omega) (zsi_same _ _ _ _)), fun q9 => mCd_t (σ := (zsi σa1 hm ((27 : Nat) : Int) (k + 1))) hMa1 fr2 (mCd_27 hMa1 (mCd_t (σ := σ) hM fr1 q9))⟩))
  · refine zF_iconst 11 dX12_enter_10 rfl ?_
    refine zF_goto 15 dX12_enter_11 rfl ?_
    refine zF_iconst 16 dX12_enter_15 rfl ?_
    refine zF_callV 19 (d2 := (d + 5)) (as := [zI 1, zI 3]) dX12_enter_16 rfl kX12_382 iX12_check (ci := 12) rfl eX12_check (Nat.le_refl _) hM.1 hM.2.1 rfl rfl (Nat.le_of_ble_eq_true rfl) (zE.mono (zt_X12_check (σ := σ) (P := True) (c := 3) hM hx hs rfl (by decide) (by decide)) fun ro σa3 hh3 => ?_)
    obtain ⟨er3, fr3, p3⟩ := hh3
    subst er3
    refine ⟨fr3.1, ?_⟩
    show zF G mX12_enter (d + 6) 19 [(0, zR hm)] [] σa3 _
    have hMa3 := zMo_f2 (σ := σ) fr3 hM
    have hxa3 := mTx_t (σ := σ) hM hx fr3
    have hs3a : mTs σa3 hm t L s := mTs_to p3 (if_pos trivial)
    refine zF_aload_n 20 dX12_enter_19 rfl rfl ?_
    refine zF_dup 21 dX12_enter_20 rfl rfl ?_
    refine zF_getI 24 dX12_enter_21 rfl gX12_366 (by decide) (by decide) hMa3.1 hMa3.2.1 (mPt_o fr3 (by omega) h27) ?_
    refine zF_iconst 25 dX12_enter_24 rfl ?_
    refine zF_iadd 26 dX12_enter_25 rfl ?_
    refine zF_putI 29 dX12_enter_26 rfl pX12_enter_366 (Or.inl rfl) hMa3.1 hMa3.2.1 ?_
    refine zF_aload_n 30 dX12_enter_29 rfl rfl ?_
    refine zF_callV 33 (d2 := (d + 5)) (as := []) dX12_enter_30 rfl kX12_386 iX12_advance (ci := 12) rfl eX12_advance (Nat.le_refl _) hMa3.1 hMa3.2.1 rfl rfl (Nat.le_of_ble_eq_true rfl) (zE.mono (zt_X12_advance (σ := (zsi σa3 hm ((27 : Nat) : Int) (k + 1))) hMa3 (mTx_si hMa3 hxa3) (mTs_27 hs3a)) fun ro σa4 hh4 => ?_)
    obtain ⟨er4, fr4, p4⟩ := hh4
    subst er4
    refine ⟨fr4.1, ?_⟩
    show zF G mX12_enter (d + 6) 33 [(0, zR hm)] [] σa4 _
    have hMa4 := zMo_f2 (σ := (zsi σa3 hm ((27 : Nat) : Int) (k + 1))) fr4 hMa3
    have hxa4 := mTx_t (σ := (zsi σa3 hm ((27 : Nat) : Int) (k + 1))) hMa3 (mTx_si hMa3 hxa3) fr4
    have hs4a : mTs σa4 hm t L (tAdv t L s) := p4
    exact zF_return dX12_enter_33 rfl ((by
    have e : qEn t L k s = (tAdv t L s) := if_pos (by omega)
    rw [e]
    exact ⟨rfl, ((zFr_si (Or.inr ⟨rfl, rfl⟩) (mPt_n fr3)).tr (mPt_n fr4)), hs4a, (mPt_o fr4 (by omega) (zsi_same _ _ _ _)), fun q9 => mCd_t (σ := (zsi σa3 hm ((27 : Nat) : Int) (k + 1))) hMa3 fr4 (mCd_27 hMa3 (mCd_t (σ := σ) hM fr3 q9))⟩))
end ZMR

/-! the reference: conjunctions -/
section ZMW
variable {G : zG} {d : Nat} {σ σ0 σ1 : zMem} {hm : Nat} {A : Nat → Nat} {t : Int → Int} {L : Nat} {s : tS} {l : List Int} {F : tS → qS} {k : Int} {K : Nat}
/-- a method that compiles what F reads -/
def qFS (G : zG) (M : zMeth) (K : Nat) (hm : Nat) (A : Nat → Nat) (t : Int → Int) (L : Nat) (F : tS → qS) (k : Int) : Prop :=
  ∀ (e : Nat) (σ : zMem) (s : tS) (l : List Int), K ≤ e → zMo σ hm A → mTx σ A t L → mTs σ hm t L s → mNm σ A → (s.2 = 0 → mCd σ hm A l ∧ l.length ≤ s.1) → zia σ hm ((27 : Nat) : Int) = k → zE G M e [zR hm] σ (fun ro σ1 => ro = .inl none ∧ zFr (mPn hm A) σ σ1 ∧ mTs σ1 hm t L (F s).2 ∧ zia σ1 hm ((27 : Nat) : Int) = k ∧ ((F s).2.2 = 0 → mCd σ1 hm A (l ++ (F s).1)))
theorem mTx_n (hM : zMo σ hm A) (f : zFr (mPn hm A) σ σ1) (h : mTx σ A t L) : mTx σ1 A t L := mTx_fr h f fun j q => q.elim (fun q => q.elim (fun q => zMo_hm1 hM (k := 18) (by decide) zMo_h1 q.1) (fun q => q.elim (fun q => zMo_hm1 hM (k := 18) (by decide) zMo_h1 q.1) (zMo_ne hM (j := 18) (k := 29) (by decide) (by decide) (by decide)))) (fun q => zMo_hm1 hM (k := 18) (by decide) zMo_h1 q.1)
theorem zq_conj (hG : zOS G) (hI : qI t L F) (hL2 : L ≤ 200) (hK : 9 ≤ K) (hF : qFS G mX12_compileFactor K hm A t L F k) : qFS G mX12_compileConjunction (K + 1) hm A t L (qConj t L F) k := by
  intro e σ s l he hM hx hs hnm hc h27
  obtain ⟨d, rfl⟩ : ∃ d, e = d + 10 := ⟨e - 10, by omega⟩
  refine zE_of rfl (by simp [zcat]) (Nat.le_of_ble_eq_true rfl) ?_
  show zF G mX12_compileConjunction (d + 10) 0 [(0, zR hm)] [] σ _
  refine zF_aload_n 1 dX12_compileConjunction_0 rfl rfl ?_
  refine zF_callV 4 (d2 := (d + 9)) (as := []) dX12_compileConjunction_1 rfl kX12_464 iX12_compileFactor (ci := 12) rfl eX12_compileFactor (Nat.le_refl _) hM.1 hM.2.1 rfl rfl (Nat.le_of_ble_eq_true rfl) (zE.mono (hF _ σ s l (by omega) hM hx hs hnm (hc) h27) fun ro σa1 hh1 => ?_)
  obtain ⟨er1, fr1, p1⟩ := hh1
  subst er1
  refine ⟨fr1.1, ?_⟩
  show zF G mX12_compileConjunction (d + 10) 4 [(0, zR hm)] [] σa1 _
  have hMa1 := zMo_f2 (σ := σ) fr1 hM
  have hxa1 := mTx_n (σ := σ) hM fr1 hx
  refine zF_locs (ls' := [(0, zR hm)]) ⟨rfl, trivial⟩ ?_
  refine zF_while (X := Nat × qS) (fun y9 => y9.1) (fun y9 σ2 => qConjL t L F y9.1 y9.2 = qConj t L F s ∧ zFr (mPn hm A) σ σ2 ∧ mTs σ2 hm t L y9.2.2 ∧ zia σ2 hm ((27 : Nat) : Int) = k ∧ (y9.2.2.2 = 0 → mCd σ2 hm A (l ++ y9.2.1) ∧ l.length + y9.2.1.length ≤ y9.2.2.1 ∧ 200 ≤ y9.1 + y9.2.2.1) ∧ y9.2.2.1 ≤ L) (fun y9 => [(0, zR hm)]) ?_ (200, (F s)) σa1 (⟨rfl, fr1, p1.1, p1.2.1, fun z => ⟨p1.2.2 z, by have b9 := (hI s hs.1).2 z; have b8 := (hc b9.1).2; show l.length + (F s).1.length ≤ (F s).2.1; omega, by show 200 ≤ 200 + (F s).2.1; omega⟩, (hI s hs.1).1.2⟩)
  intro ⟨f9, y⟩ σ2 hI4 ih4
  show zF G mX12_compileConjunction (d + 10) 4 [(0, zR hm)] [] σ2 _
  obtain ⟨hq2, f2, hs2, h272, hcy, hyL⟩ := hI4
  replace hq2 : qConjL t L F f9 y = qConj t L F s := hq2
  replace hs2 : mTs σ2 hm t L y.2 := hs2
  replace hcy : y.2.2 = 0 → mCd σ2 hm A (l ++ y.1) ∧ l.length + y.1.length ≤ y.2.1 ∧ 200 ≤ f9 + y.2.1 := hcy
  replace hyL : y.2.1 ≤ L := hyL
  have hM2 := zMo_f2 f2 hM
  have hx2 := mTx_n hM f2 hx
  have hnm2 := mNm_fr hnm f2
  refine zF_aload_n 5 dX12_compileConjunction_4 rfl rfl ?_
  refine zF_ldcSW 8 (i := 48) dX12_compileConjunction_5 rfl rfl ?_
  refine zF_callV 11 (d2 := (d + 9)) (as := [zR (zbg + 48)]) dX12_compileConjunction_8 rfl kX12_415 iX12_accept (ci := 12) rfl eX12_accept (Nat.le_refl _) hM2.1 hM2.2.1 rfl rfl (Nat.le_of_ble_eq_true rfl) (zE.mono (zt_X12_accept (σ := σ2) (i := 48) hM2 hx2 hs2 hG (by decide)) fun ro σa2 hh2 => ?_)
  obtain ⟨er2, fr2, p2⟩ := hh2
  subst er2
  refine ⟨fr2.1, ?_⟩
  show zF G mX12_compileConjunction (d + 10) 11 [(0, zR hm)] [zI (zb (tWd t L (zsbi 28) y.2))] σa2 _
  have hMa2 := zMo_f2 (σ := σ2) fr2 hM2
  have hxa2 := mTx_t (σ := σ2) hM2 hx2 fr2
  have hs2a : mTs σa2 hm t L (if tWd t L (zsbi 28) y.2 then tAdv t L y.2 else y.2) := p2
  refine zF_ifb_eq 27 14 dX12_compileConjunction_11 rfl rfl (fun c1 => ?_) (fun c1 => ?_)
  · have hqn : mTs σa2 hm t L y.2 := mTs_to hs2a (if_neg (by assumption))
    exact zF_return dX12_compileConjunction_27 rfl ((by
    have e9 : qConj t L F s = y := by rw [← hq2]; cases f9 with
      | zero => rfl
      | succ m => exact if_neg (by assumption)
    rw [e9]
    exact ⟨rfl, f2.tr (mPt_n fr2), hqn, mPt_o fr2 (by omega) h272, fun z => mCd_t hM2 fr2 (hcy z).1⟩))
  · have hqa : mTs σa2 hm t L (tAdv t L y.2) := mTs_to hs2a (if_pos (by assumption))
    have hw : tWd t L (zsbi 28) y.2 := by assumption
    have y0 := tWd_0 hw
    have hy := hcy y0
    have ap := tAdv_p (t := t) hyL y0 (tWd_k hw)
    have bF := hI (tAdv t L y.2) ap.2
    have h27b : zia σa2 hm ((27 : Nat) : Int) = k := mPt_o fr2 (by omega) h272
    have hc3 : (tAdv t L y.2).2 = 0 → mCd σa2 hm A (l ++ y.1) ∧ (l ++ y.1).length ≤ (tAdv t L y.2).1 := fun _ => ⟨mCd_t hM2 fr2 hy.1, by rw [List.length_append]; omega⟩
    refine zF_aload_n 15 dX12_compileConjunction_14 rfl rfl ?_
    refine zF_callV 18 (d2 := (d + 9)) (as := []) dX12_compileConjunction_15 rfl kX12_464 iX12_compileFactor (ci := 12) rfl eX12_compileFactor (Nat.le_refl _) hMa2.1 hMa2.2.1 rfl rfl (Nat.le_of_ble_eq_true rfl) (zE.mono (hF _ σa2 (tAdv t L y.2) (l ++ y.1) (by omega) hMa2 hxa2 hqa (mNm_fr hnm2 fr2) (hc3) h27b) fun ro σa3 hh3 => ?_)
    obtain ⟨er3, fr3, p3⟩ := hh3
    subst er3
    refine ⟨fr3.1, ?_⟩
    show zF G mX12_compileConjunction (d + 10) 18 [(0, zR hm)] [] σa3 _
    have hMa3 := zMo_f2 (σ := σa2) fr3 hMa2
    have hxa3 := mTx_n (σ := σa2) hMa2 fr3 hxa2
    have hlen : (F (tAdv t L y.2)).2.2 = 0 → (l ++ y.1 ++ (F (tAdv t L y.2)).1).length < 200 := fun z => by have b9 := bF.2 z; rw [List.length_append, List.length_append]; omega
    have hq3 : qConjL t L F (f9 - 1) (y.1 ++ (F (tAdv t L y.2)).1 ++ [-24], (F (tAdv t L y.2)).2) = qConj t L F s := by rw [← hq2]; cases f9 with
            | zero => exact absurd hy.2.2 (by omega)
            | succ m => exact (if_pos hw).symm
    refine zF_aload_n 19 dX12_compileConjunction_18 rfl rfl ?_
    refine zF_bipush 21 dX12_compileConjunction_19 rfl (by decide) ?_
    refine zF_callV 24 (d2 := (d + 9)) (as := [zI (-24)]) dX12_compileConjunction_21 rfl kX12_456 iX12_emit (ci := 12) rfl eX12_emit (Nat.le_refl _) hMa3.1 hMa3.2.1 rfl rfl (Nat.le_of_ble_eq_true rfl) (zE.mono (zt_X12_emit (σ := σa3) hMa3 p3.1 p3.2.2 hlen (by decide)) fun ro σa4 hh4 => ?_)
    obtain ⟨er4, fr4, p4⟩ := hh4
    subst er4
    refine ⟨fr4.1, ?_⟩
    show zF G mX12_compileConjunction (d + 10) 24 [(0, zR hm)] [] σa4 _
    refine zF_goto 4 dX12_compileConjunction_24 rfl ?_
    exact zF_locs (ls' := [(0, zR hm)]) ⟨rfl, trivial⟩ (ih4 ((f9 - 1), (y.1 ++ (F (tAdv t L y.2)).1 ++ [-24], (F (tAdv t L y.2)).2)) _ (by show f9 - 1 < f9; omega) (⟨hq3, (((f2.tr (mPt_n fr2)).tr fr3).tr (mPc_n (mPe_c fr4))), (mTs_e (σ := σa3) hMa3 fr4 p3.1), (zFr_F fr4 (fun q => q.elim (fun q => absurd q.2 (by decide)) (fun q => zMo_hm1 (σ := σ) hM (k := 29) (by decide) zMo_h1 q.symm)) p3.2.1), fun z => ⟨by have w9 := p4 z; rw [List.append_assoc, List.append_assoc] at w9; rw [List.append_assoc]; exact w9, by have b9 := bF.2 z; show l.length + (y.1 ++ (F (tAdv t L y.2)).1 ++ [-24]).length ≤ (F (tAdv t L y.2)).2.1; rw [List.length_append, List.length_append]; show l.length + (y.1.length + (F (tAdv t L y.2)).1.length + 1) ≤ _; omega, by show 200 ≤ (f9 - 1) + (F (tAdv t L y.2)).2.1; omega⟩, bF.1.2⟩))
theorem zq_test (hG : zOS G) (hI : qI t L (qConj t L F)) (hL2 : L ≤ 200) (hK : 9 ≤ K) (hF : qFS G mX12_compileConjunction K hm A t L (qConj t L F) k) : qFS G mX12_compileTest (K + 1) hm A t L (qTest t L F) k := by
  intro e σ s l he hM hx hs hnm hc h27
  obtain ⟨d, rfl⟩ : ∃ d, e = d + 10 := ⟨e - 10, by omega⟩
  refine zE_of rfl (by simp [zcat]) (Nat.le_of_ble_eq_true rfl) ?_
  show zF G mX12_compileTest (d + 10) 0 [(0, zR hm)] [] σ _
  refine zF_aload_n 1 dX12_compileTest_0 rfl rfl ?_
  refine zF_callV 4 (d2 := (d + 9)) (as := []) dX12_compileTest_1 rfl kX12_475 iX12_compileConjunction (ci := 12) rfl eX12_compileConjunction (Nat.le_refl _) hM.1 hM.2.1 rfl rfl (Nat.le_of_ble_eq_true rfl) (zE.mono (hF _ σ s l (by omega) hM hx hs hnm (hc) h27) fun ro σa1 hh1 => ?_)
  obtain ⟨er1, fr1, p1⟩ := hh1
  subst er1
  refine ⟨fr1.1, ?_⟩
  show zF G mX12_compileTest (d + 10) 4 [(0, zR hm)] [] σa1 _
  have hMa1 := zMo_f2 (σ := σ) fr1 hM
  have hxa1 := mTx_n (σ := σ) hM fr1 hx
  refine zF_locs (ls' := [(0, zR hm)]) ⟨rfl, trivial⟩ ?_
  refine zF_while (X := Nat × qS) (fun y9 => y9.1) (fun y9 σ2 => qTestL t L F y9.1 y9.2 = qTest t L F s ∧ zFr (mPn hm A) σ σ2 ∧ mTs σ2 hm t L y9.2.2 ∧ zia σ2 hm ((27 : Nat) : Int) = k ∧ (y9.2.2.2 = 0 → mCd σ2 hm A (l ++ y9.2.1) ∧ l.length + y9.2.1.length ≤ y9.2.2.1 ∧ 200 ≤ y9.1 + y9.2.2.1) ∧ y9.2.2.1 ≤ L) (fun y9 => [(0, zR hm)]) ?_ (200, (qConj t L F s)) σa1 (⟨rfl, fr1, p1.1, p1.2.1, fun z => ⟨p1.2.2 z, by have b9 := (hI s hs.1).2 z; have b8 := (hc b9.1).2; show l.length + (qConj t L F s).1.length ≤ (qConj t L F s).2.1; omega, by show 200 ≤ 200 + (qConj t L F s).2.1; omega⟩, (hI s hs.1).1.2⟩)
  intro ⟨f9, y⟩ σ2 hI4 ih4
  show zF G mX12_compileTest (d + 10) 4 [(0, zR hm)] [] σ2 _
  obtain ⟨hq2, f2, hs2, h272, hcy, hyL⟩ := hI4
  replace hq2 : qTestL t L F f9 y = qTest t L F s := hq2
  replace hs2 : mTs σ2 hm t L y.2 := hs2
  replace hcy : y.2.2 = 0 → mCd σ2 hm A (l ++ y.1) ∧ l.length + y.1.length ≤ y.2.1 ∧ 200 ≤ f9 + y.2.1 := hcy
  replace hyL : y.2.1 ≤ L := hyL
  have hM2 := zMo_f2 f2 hM
  have hx2 := mTx_n hM f2 hx
  have hnm2 := mNm_fr hnm f2
  refine zF_aload_n 5 dX12_compileTest_4 rfl rfl ?_
  refine zF_ldcSW 8 (i := 49) dX12_compileTest_5 rfl rfl ?_
  refine zF_callV 11 (d2 := (d + 9)) (as := [zR (zbg + 49)]) dX12_compileTest_8 rfl kX12_415 iX12_accept (ci := 12) rfl eX12_accept (Nat.le_refl _) hM2.1 hM2.2.1 rfl rfl (Nat.le_of_ble_eq_true rfl) (zE.mono (zt_X12_accept (σ := σ2) (i := 49) hM2 hx2 hs2 hG (by decide)) fun ro σa2 hh2 => ?_)
  obtain ⟨er2, fr2, p2⟩ := hh2
  subst er2
  refine ⟨fr2.1, ?_⟩
  show zF G mX12_compileTest (d + 10) 11 [(0, zR hm)] [zI (zb (tWd t L (zsbi 29) y.2))] σa2 _
  have hMa2 := zMo_f2 (σ := σ2) fr2 hM2
  have hxa2 := mTx_t (σ := σ2) hM2 hx2 fr2
  have hs2a : mTs σa2 hm t L (if tWd t L (zsbi 29) y.2 then tAdv t L y.2 else y.2) := p2
  refine zF_ifb_eq 27 14 dX12_compileTest_11 rfl rfl (fun c1 => ?_) (fun c1 => ?_)
  · have hqn : mTs σa2 hm t L y.2 := mTs_to hs2a (if_neg (by assumption))
    exact zF_return dX12_compileTest_27 rfl ((by
    have e9 : qTest t L F s = y := by rw [← hq2]; cases f9 with
      | zero => rfl
      | succ m => exact if_neg (by assumption)
    rw [e9]
    exact ⟨rfl, f2.tr (mPt_n fr2), hqn, mPt_o fr2 (by omega) h272, fun z => mCd_t hM2 fr2 (hcy z).1⟩))
  · have hqa : mTs σa2 hm t L (tAdv t L y.2) := mTs_to hs2a (if_pos (by assumption))
    have hw : tWd t L (zsbi 29) y.2 := by assumption
    have y0 := tWd_0 hw
    have hy := hcy y0
    have ap := tAdv_p (t := t) hyL y0 (tWd_k hw)
    have bF := hI (tAdv t L y.2) ap.2
    have h27b : zia σa2 hm ((27 : Nat) : Int) = k := mPt_o fr2 (by omega) h272
    have hc3 : (tAdv t L y.2).2 = 0 → mCd σa2 hm A (l ++ y.1) ∧ (l ++ y.1).length ≤ (tAdv t L y.2).1 := fun _ => ⟨mCd_t hM2 fr2 hy.1, by rw [List.length_append]; omega⟩
    refine zF_aload_n 15 dX12_compileTest_14 rfl rfl ?_
    refine zF_callV 18 (d2 := (d + 9)) (as := []) dX12_compileTest_15 rfl kX12_475 iX12_compileConjunction (ci := 12) rfl eX12_compileConjunction (Nat.le_refl _) hMa2.1 hMa2.2.1 rfl rfl (Nat.le_of_ble_eq_true rfl) (zE.mono (hF _ σa2 (tAdv t L y.2) (l ++ y.1) (by omega) hMa2 hxa2 hqa (mNm_fr hnm2 fr2) (hc3) h27b) fun ro σa3 hh3 => ?_)
    obtain ⟨er3, fr3, p3⟩ := hh3
    subst er3
    refine ⟨fr3.1, ?_⟩
    show zF G mX12_compileTest (d + 10) 18 [(0, zR hm)] [] σa3 _
    have hMa3 := zMo_f2 (σ := σa2) fr3 hMa2
    have hxa3 := mTx_n (σ := σa2) hMa2 fr3 hxa2
    have hlen : (qConj t L F (tAdv t L y.2)).2.2 = 0 → (l ++ y.1 ++ (qConj t L F (tAdv t L y.2)).1).length < 200 := fun z => by have b9 := bF.2 z; rw [List.length_append, List.length_append]; omega
    have hq3 : qTestL t L F (f9 - 1) (y.1 ++ (qConj t L F (tAdv t L y.2)).1 ++ [-25], (qConj t L F (tAdv t L y.2)).2) = qTest t L F s := by rw [← hq2]; cases f9 with
            | zero => exact absurd hy.2.2 (by omega)
            | succ m => exact (if_pos hw).symm
    refine zF_aload_n 19 dX12_compileTest_18 rfl rfl ?_
    refine zF_bipush 21 dX12_compileTest_19 rfl (by decide) ?_
    refine zF_callV 24 (d2 := (d + 9)) (as := [zI (-25)]) dX12_compileTest_21 rfl kX12_456 iX12_emit (ci := 12) rfl eX12_emit (Nat.le_refl _) hMa3.1 hMa3.2.1 rfl rfl (Nat.le_of_ble_eq_true rfl) (zE.mono (zt_X12_emit (σ := σa3) hMa3 p3.1 p3.2.2 hlen (by decide)) fun ro σa4 hh4 => ?_)
    obtain ⟨er4, fr4, p4⟩ := hh4
    subst er4
    refine ⟨fr4.1, ?_⟩
    show zF G mX12_compileTest (d + 10) 24 [(0, zR hm)] [] σa4 _
    refine zF_goto 4 dX12_compileTest_24 rfl ?_
    exact zF_locs (ls' := [(0, zR hm)]) ⟨rfl, trivial⟩ (ih4 ((f9 - 1), (y.1 ++ (qConj t L F (tAdv t L y.2)).1 ++ [-25], (qConj t L F (tAdv t L y.2)).2)) _ (by show f9 - 1 < f9; omega) (⟨hq3, (((f2.tr (mPt_n fr2)).tr fr3).tr (mPc_n (mPe_c fr4))), (mTs_e (σ := σa3) hMa3 fr4 p3.1), (zFr_F fr4 (fun q => q.elim (fun q => absurd q.2 (by decide)) (fun q => zMo_hm1 (σ := σ) hM (k := 29) (by decide) zMo_h1 q.symm)) p3.2.1), fun z => ⟨by have w9 := p4 z; rw [List.append_assoc, List.append_assoc] at w9; rw [List.append_assoc]; exact w9, by have b9 := bF.2 z; show l.length + (y.1 ++ (qConj t L F (tAdv t L y.2)).1 ++ [-25]).length ≤ (qConj t L F (tAdv t L y.2)).2.1; rw [List.length_append, List.length_append]; show l.length + (y.1.length + (qConj t L F (tAdv t L y.2)).1.length + 1) ≤ _; omega, by show 200 ≤ (f9 - 1) + (qConj t L F (tAdv t L y.2)).2.1; omega⟩, bF.1.2⟩))
end ZMW

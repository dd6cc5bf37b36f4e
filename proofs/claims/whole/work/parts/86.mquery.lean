/-! the reference: a query's codes -/
section ZMQ
variable {G : zG} {d : Nat} {σ σ0 σ1 : zMem} {hm : Nat} {A : Nat → Nat} {t : Int → Int} {L : Nat} {s : tS} {l : List Int}
/-- the codes so far -/
def mCd (σ : zMem) (hm : Nat) (A : Nat → Nat) (l : List Int) : Prop := zia σ hm ((31 : Nat) : Int) = (l.length : Int) ∧ ∀ j : Nat, j < l.length → zia σ (A 29) j = l.getD j 0
def mPe (hm : Nat) (A : Nat → Nat) (h : Nat) (j : Int) : Prop := (h = hm ∧ j = 31) ∨ h = A 29
/-- what compiling may change -/
def mPc (hm : Nat) (A : Nat → Nat) (h : Nat) (j : Int) : Prop := mPt hm h j ∨ mPe hm A h j
theorem mPe_c (f : zFr (mPe hm A) σ σ1) : zFr (mPc hm A) σ σ1 := f.wk fun _ _ q => Or.inr q
theorem mPt_c (f : zFr (mPt hm) σ σ1) : zFr (mPc hm A) σ σ1 := f.wk fun _ _ q => Or.inl q
theorem mCd_put {n c : Int} (hM : zMo σ hm A) (h : mCd σ hm A l) (e : n = (l.length : Int)) : mCd (zsi (zsi σ (A 29) n c) hm ((31 : Nat) : Int) (n + 1)) hm A (l ++ [c]) := by
  subst e
  have ne := zMo_hm1 hM (k := 29) (by decide) zMo_h1
  refine ⟨by rw [zia_si, if_pos ⟨rfl, rfl⟩, List.length_append]; push_cast; rfl, fun j hj => ?_⟩
  rw [List.length_append] at hj
  have hj1 : j < l.length + 1 := hj
  rw [zia_si, if_neg (fun q => ne q.1), zia_si]
  by_cases q : j = l.length
  · rw [if_pos ⟨rfl, by omega⟩, q]
    simp [List.getD_eq_getElem?_getD]
  · rw [if_neg (fun z => q (by omega)), h.2 j (by omega)]
    simp [List.getD_eq_getElem?_getD, List.getElem?_append_left (show j < l.length by omega)]
theorem mCd_t (hM : zMo σ hm A) (f : zFr (mPt hm) σ σ1) (h : mCd σ hm A l) : mCd σ1 hm A l := ⟨(mPt_o f (by omega) h.1), fun j hj => (congrFun (mPt_A hM f (k := 29) (by decide)) j).trans (h.2 j hj)⟩
theorem mTs_e (hM : zMo σ hm A) (f : zFr (mPe hm A) σ σ1) (h : mTs σ hm t L s) : mTs σ1 hm t L s := by
  have e : ∀ k v : Int, k ≠ 31 → zia σ hm k = v → zia σ1 hm k = v := fun k v hk e => (f.2.2.2.2.2 _ _ fun q => q.elim (fun q => hk q.2) (fun q => zMo_hm1 hM (k := 29) (by decide) zMo_h1 q.symm)).trans e
  exact ⟨h.1, e _ _ (by decide) h.2.1, e _ _ (by decide) h.2.2.1, e _ _ (by decide) h.2.2.2.1, e _ _ (by decide) h.2.2.2.2.1, e _ _ (by decide) h.2.2.2.2.2.1, fun z => e _ _ (by decide) (h.2.2.2.2.2.2.1 z), h.2.2.2.2.2.2.2⟩
theorem mTx_e (hM : zMo σ hm A) (f : zFr (mPe hm A) σ σ1) (h : mTx σ A t L) : mTx σ1 A t L := mTx_fr h f fun j q => q.elim (fun q => zMo_hm1 hM (k := 18) (by decide) zMo_h1 q.1) (zMo_ne hM (j := 18) (k := 29) (by decide) (by decide) (by decide))
theorem mTx_c (hM : zMo σ hm A) (f : zFr (mPc hm A) σ σ1) (h : mTx σ A t L) : mTx σ1 A t L := mTx_fr h f fun j q => q.elim (fun q => zMo_hm1 hM (k := 18) (by decide) zMo_h1 q.1) (fun q => q.elim (fun q => zMo_hm1 hM (k := 18) (by decide) zMo_h1 q.1) (zMo_ne hM (j := 18) (k := 29) (by decide) (by decide) (by decide)))
/-- the names of the properties -/
def mNm (σ : zMem) (A : Nat → Nat) : Prop := ∀ i : Nat, i < 9 → zra σ (A 28) (i : Int) = some (zbg + (30 + i))
theorem mNm_fr {P : Nat → Int → Prop} (h : mNm σ A) (f : zFr P σ σ1) : mNm σ1 A := fun i hi => by rw [f.2.2.1]; exact h i hi
theorem zsb_nm : ∀ i, i < 9 → zsbi (30 + i) = zsbi (50 + i) := by decide
theorem zt_X12_emit {c : Int} (hM : zMo σ hm A) (hs : mTs σ hm t L s) (hc : s.2 = 0 → mCd σ hm A l) (hl : s.2 = 0 → l.length < 200) (zc : zrg c) : zE G mX12_emit d [zR hm, zI c] σ (fun ro σ1 => ro = .inl none ∧ zFr (mPe hm A) σ σ1 ∧ (s.2 = 0 → mCd σ1 hm A (l ++ [c]))) := by
  refine zE_of rfl (by simp [zcat]) (Nat.le_of_ble_eq_true rfl) ?_
  show zF G mX12_emit d 0 [(0, zR hm), (1, zI c)] [] σ _
  have eb := hs.2.2.2.2.2.2.2
  refine zF_aload_n 1 dX12_emit_0 rfl rfl ?_
  refine zF_getI 4 dX12_emit_1 rfl gX12_363 (by decide) (by decide) hM.1 hM.2.1 hs.2.2.2.2.2.1 ?_
  refine zF_if_ne 27 7 dX12_emit_4 rfl rfl (by first | decide | assumption | (constructor <;> omega)) (fun c1 => ?_) (fun c1 => ?_)
  · exact zF_return dX12_emit_27 rfl (⟨rfl, zFr.rf, fun z => absurd z (by omega)⟩)
  · have h0 : s.2 = 0 := by omega
    have hl0 := hl h0
    refine zF_aload_n 8 dX12_emit_7 rfl rfl ?_
    refine zF_getR 11 dX12_emit_8 rfl gX12_78 hM.1 hM.2.1 (zM_29 hM).1 ?_
    refine zF_aload_n 12 dX12_emit_11 rfl rfl ?_
    refine zF_getI 15 dX12_emit_12 rfl gX12_452 (by decide) (by decide) hM.1 hM.2.1 (hc h0).1 ?_
    refine zF_iload_n 16 dX12_emit_15 rfl rfl ?_
    refine zF_iastore 17 dX12_emit_16 rfl (zM_29 hM).2.2 (zM_29 hM).2.1 (by omega) (by omega) ?_
    refine zF_aload_n 18 dX12_emit_17 rfl rfl ?_
    refine zF_dup 19 dX12_emit_18 rfl rfl ?_
    refine zF_getI 22 dX12_emit_19 rfl gX12_452 (by decide) (by decide) hM.1 hM.2.1 (zMo_AF (j := 29) (hc h0).1 hM (by decide) zMo_h1) ?_
    refine zF_iconst 23 dX12_emit_22 rfl ?_
    refine zF_iadd 24 dX12_emit_23 rfl ?_
    refine zF_putI 27 dX12_emit_24 rfl pX12_emit_452 (Or.inl rfl) hM.1 hM.2.1 ?_
    exact zF_return dX12_emit_27 rfl (⟨rfl, zFr_si (Or.inl ⟨rfl, rfl⟩) (zFr_si (Or.inr rfl) zFr.rf), fun _ => mCd_put hM (hc h0) rfl⟩)
end ZMQ

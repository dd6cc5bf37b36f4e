/-! the reference: a query's codes -/
section ZMQ
variable {G : zG} {d : Nat} {σ σ0 σ1 : zMem} {hm : Nat} {A : Nat → Nat} {t : Int → Int} {L : Nat} {s : tS} {l : List Int}
/-- the codes so far -/
def mCd (σ : zMem) (hm : Nat) (A : Nat → Nat) (l : List Int) : Prop := zia σ hm ((31 : Nat) : Int) = (l.length : Int) ∧ ∀ j : Nat, j < l.length → zia σ (A 29) j = l.getD j 0
def mPe (hm : Nat) (A : Nat → Nat) (h : Nat) (j : Int) : Prop := (h = hm ∧ j = 31) ∨ h = A 29
/-- what compiling may change -/
def mPc (hm : Nat) (A : Nat → Nat) (h : Nat) (j : Int) : Prop := mPt hm h j ∨ mPe hm A h j
theorem mPe_c (f : zFr (mPe hm A) σ σ1) : zFr (mPc hm A) σ σ1 := f.wk fun _ _ q => Or.inr q
theorem mPt_c (f : zFr (mPt hm) σ σ1) : zFr (mPc hm A) σ σ1 := f.wk fun _ _ q => Or.inl q
theorem mCd_put {n c : Int} (hM : zMo σ hm A) (h : mCd σ hm A l) (e : n = (l.length : Int)) : mCd (zsi (zsi σ (A 29) n c) hm ((31 : Nat) : Int) (n + 1)) hm A (l ++ [c]) := by
  subst e
  have ne := zMo_hm1 hM (k := 29) (by decide) zMo_h1
  refine ⟨by rw [zia_si, if_pos ⟨rfl, rfl⟩, List.length_append]; push_cast; rfl, fun j hj => ?_⟩
  rw [List.length_append] at hj
  have hj1 : j < l.length + 1 := hj
  rw [zia_si, if_neg (fun q => ne q.1), zia_si]
  by_cases q : j = l.length
  · rw [if_pos ⟨rfl, by omega⟩, q]
    simp [List.getD_eq_getElem?_getD]
  · rw [if_neg (fun z => q (by omega)), h.2 j (by omega)]
    simp [List.getD_eq_getElem?_getD, List.getElem?_append_left (show j < l.length by omega)]
theorem mCd_t (hM : zMo σ hm A) (f : zFr (mPt hm) σ σ1) (h : mCd σ hm A l) : mCd σ1 hm A l := ⟨(mPt_o f (by omega) h.1), fun j hj => (congrFun (mPt_A hM f (k := 29) (by decide)) j).trans (h.2 j hj)⟩
theorem mTs_e (hM : zMo σ hm A) (f : zFr (mPe hm A) σ σ1) (h : mTs σ hm t L s) : mTs σ1 hm t L s := by
  have e : ∀ k v : Int, k ≠ 31 → zia σ hm k = v → zia σ1 hm k = v := fun k v hk e => (f.2.2.2.2.2 _ _ fun q => q.elim (fun q => hk q.2) (fun q => zMo_hm1 hM (k := 29) (by decide) zMo_h1 q.symm)).trans e
  exact ⟨h.1, e _ _ (by decide) h.2.1, e _ _ (by decide) h.2.2.1, e _ _ (by decide) h.2.2.2.1, e _ _ (by decide) h.2.2.2.2.1, e _ _ (by decide) h.2.2.2.2.2.1, fun z => e _ _ (by decide) (h.2.2.2.2.2.2.1 z), h.2.2.2.2.2.2.2⟩
theorem mTx_e (hM : zMo σ hm A) (f : zFr (mPe hm A) σ σ1) (h : mTx σ A t L) : mTx σ1 A t L := mTx_fr h f fun j q => q.elim (fun q => zMo_hm1 hM (k := 18) (by decide) zMo_h1 q.1) (zMo_ne hM (j := 18) (k := 29) (by decide) (by decide) (by decide))
theorem mTx_c (hM : zMo σ hm A) (f : zFr (mPc hm A) σ σ1) (h : mTx σ A t L) : mTx σ1 A t L := mTx_fr h f fun j q => q.elim (fun q => zMo_hm1 hM (k := 18) (by decide) zMo_h1 q.1) (fun q => q.elim (fun q => zMo_hm1 hM (k := 18) (by decide) zMo_h1 q.1) (zMo_ne hM (j := 18) (k := 29) (by decide) (by decide) (by decide)))
/-- the names of the properties -/
def mNm (σ : zMem) (A : Nat → Nat) : Prop := ∀ i : Nat, i < 9 → zra σ (A 28) (i : Int) = some (zbg + (30 + i))
theorem mNm_fr {P : Nat → Int → Prop} (h : mNm σ A) (f : zFr P σ σ1) : mNm σ1 A := fun i hi => by rw [f.2.2.1]; exact h i hi
theorem zsb_nm : ∀ i, i < 9 → zsbi (30 + i) = zsbi (50 + i) := by decide
theorem qIxF_is {n : Nat} : ∀ {i x : Nat}, (∀ j, i ≤ j → j < x → ¬ tWd t L (zsbi (50 + j)) s) → i ≤ x → (x < i + n ∧ tWd t L (zsbi (50 + x)) s ∨ x = i + n) → qIxF t L s n i = x := by
  induction n with
  | zero => intro i x _ _ h; show i = x; omega
  | succ n ih =>
    intro i x h hi k
    unfold qIxF
    by_cases c : tWd t L (zsbi (50 + i)) s
    · rw [if_pos c]
      by_cases e : i = x
      · exact e
      · exact absurd c (h i (Nat.le_refl _) (by omega))
    · rw [if_neg c]
      have ne : i ≠ x ∨ x = i + (n + 1) := by
        rcases k with k | k
        · by_cases e : i = x
          · subst e; exact absurd k.2 c
          · exact Or.inl e
        · exact Or.inr k
      refine ih (fun j a b => h j (by omega) b) (by omega) ?_
      rcases k with k | k
      · exact Or.inl ⟨by omega, k.2⟩
      · exact Or.inr (by omega)
theorem zt_X12_emit {c : Int} (hM : zMo σ hm A) (hs : mTs σ hm t L s) (hc : s.2 = 0 → mCd σ hm A l) (hl : s.2 = 0 → l.length < 200) (zc : zrg c) : zE G mX12_emit d [zR hm, zI c] σ (fun ro σ1 => ro = .inl none ∧ zFr (mPe hm A) σ σ1 ∧ (s.2 = 0 → mCd σ1 hm A (l ++ [c]))) := by
  refine zE_of rfl (by simp [zcat]) (Nat.le_of_ble_eq_true rfl) ?_
  show zF G mX12_emit d 0 [(0, zR hm), (1, zI c)] [] σ _
  have eb := hs.2.2.2.2.2.2.2
  refine zF_aload_n 1 dX12_emit_0 rfl rfl ?_
  refine zF_getI 4 dX12_emit_1 rfl gX12_363 (by decide) (by decide) hM.1 hM.2.1 hs.2.2.2.2.2.1 ?_
  refine zF_if_ne 27 7 dX12_emit_4 rfl rfl (by first | decide | assumption | (constructor <;> omega)) (fun c1 => ?_) (fun c1 => ?_)
  · exact zF_return dX12_emit_27 rfl (⟨rfl, zFr.rf, fun z => absurd z (by omega)⟩)
  · have h0 : s.2 = 0 := by omega
    have hl0 := hl h0
    refine zF_aload_n 8 dX12_emit_7 rfl rfl ?_
    refine zF_getR 11 dX12_emit_8 rfl gX12_78 hM.1 hM.2.1 (zM_29 hM).1 ?_
    refine zF_aload_n 12 dX12_emit_11 rfl rfl ?_
    refine zF_getI 15 dX12_emit_12 rfl gX12_452 (by decide) (by decide) hM.1 hM.2.1 (hc h0).1 ?_
    refine zF_iload_n 16 dX12_emit_15 rfl rfl ?_
    refine zF_iastore 17 dX12_emit_16 rfl (zM_29 hM).2.2 (zM_29 hM).2.1 (by omega) (by omega) ?_
    refine zF_aload_n 18 dX12_emit_17 rfl rfl ?_
    refine zF_dup 19 dX12_emit_18 rfl rfl ?_
    refine zF_getI 22 dX12_emit_19 rfl gX12_452 (by decide) (by decide) hM.1 hM.2.1 (zMo_AF (j := 29) (hc h0).1 hM (by decide) zMo_h1) ?_
    refine zF_iconst 23 dX12_emit_22 rfl ?_
    refine zF_iadd 24 dX12_emit_23 rfl ?_
    refine zF_putI 27 dX12_emit_24 rfl pX12_emit_452 (Or.inl rfl) hM.1 hM.2.1 ?_
    exact zF_return dX12_emit_27 rfl (⟨rfl, zFr_si (Or.inl ⟨rfl, rfl⟩) (zFr_si (Or.inr rfl) zFr.rf), fun _ => mCd_put hM (hc h0) rfl⟩)
theorem zt_X12_compileValue (hG : zOS G) (hM : zMo σ hm A) (hx : mTx σ A t L) (hs : mTs σ hm t L s) (hnm : mNm σ A) (hc : s.2 = 0 → mCd σ hm A l) (hl : l.length ≤ s.1) (hL2 : L ≤ 200) : zE G mX12_compileValue (d + 8) [zR hm] σ (fun ro σ1 => ro = .inl none ∧ zFr (mPc hm A) σ σ1 ∧ mTs σ1 hm t L (qVal t L s).2 ∧ ((qVal t L s).2.2 = 0 → mCd σ1 hm A (l ++ [(qVal t L s).1]))) := by
  refine zE_of rfl (by simp [zcat]) (Nat.le_of_ble_eq_true rfl) ?_
  show zF G mX12_compileValue (d + 8) 0 [(0, zR hm)] [] σ _
  have hlt := mTs_lt hs
  have hl7 := hx.1
  have kb := tk_b t L s.1
  have eb := hs.2.2.2.2.2.2.2
  refine zF_aload_n 1 dX12_compileValue_0 rfl rfl ?_
  refine zF_getI 4 dX12_compileValue_1 rfl gX12_363 (by decide) (by decide) hM.1 hM.2.1 hs.2.2.2.2.2.1 ?_
  refine zF_if_ne 15 7 dX12_compileValue_4 rfl rfl (by first | decide | assumption | (have nl := tNumV_b (t := t) (L := L) (s := s) (lo := 0) (hi := 99999) (by decide); constructor <;> omega) | (constructor <;> omega)) (fun c1 => ?_) (fun c1 => ?_)
  · refine zF_aload_n 16 dX12_compileValue_15 rfl rfl ?_
    refine zF_aload_n 17 dX12_compileValue_16 rfl rfl ?_
    refine zF_iconst 18 dX12_compileValue_17 rfl ?_
    refine zF_ldcw 21 dX12_compileValue_18 rfl oX12_455 ?_
    refine zF_callV 24 (d2 := (d + 7)) (as := [zI 0, zI (99999)]) dX12_compileValue_21 rfl kX12_404 iX12_readNumber (ci := 12) rfl eX12_readNumber (Nat.le_refl _) hM.1 hM.2.1 rfl rfl (Nat.le_of_ble_eq_true rfl) (zE.mono (zt_X12_readNumber (σ := σ) hM hx hs (by first | decide | assumption | (have nl := tNumV_b (t := t) (L := L) (s := s) (lo := 0) (hi := 99999) (by decide); constructor <;> omega) | (constructor <;> omega)) (by first | decide | assumption | (have nl := tNumV_b (t := t) (L := L) (s := s) (lo := 0) (hi := 99999) (by decide); constructor <;> omega) | (constructor <;> omega)) (by omega)) fun ro σa1 hh1 => ?_)
    obtain ⟨er1, fr1, p1⟩ := hh1
    subst er1
    refine ⟨fr1.1, ?_⟩
    show zF G mX12_compileValue (d + 8) 24 [(0, zR hm)] [zI (tNumV t L 0 (99999) s), zR hm] σa1 _
    have hMa1 := zMo_f2 (σ := σ) fr1 hM
    have hxa1 := mTx_t (σ := σ) hM hx fr1
    have hs1a : mTs σa1 hm t L s := mTs_to p1 (tNumS_e (by omega))
    have hc1c : (s : tS).2 = 0 → mCd σa1 hm A l := fun z => mCd_t (σ := σ) hM fr1 (hc z)
    refine zF_callV 27 (d2 := (d + 7)) (as := [zI (tNumV t L 0 (99999) s)]) dX12_compileValue_24 rfl kX12_456 iX12_emit (ci := 12) rfl eX12_emit (Nat.le_refl _) hMa1.1 hMa1.2.1 rfl rfl (Nat.le_of_ble_eq_true rfl) (zE.mono (zt_X12_emit (σ := σa1) hMa1 hs1a (fun z => hc1c (z)) (fun z => by omega) (by first | decide | assumption | (have nl := tNumV_b (t := t) (L := L) (s := s) (lo := 0) (hi := 99999) (by decide); constructor <;> omega) | (constructor <;> omega))) fun ro σa2 hh2 => ?_)
    obtain ⟨er2, fr2, p2⟩ := hh2
    subst er2
    refine ⟨fr2.1, ?_⟩
    show zF G mX12_compileValue (d + 8) 27 [(0, zR hm)] [] σa2 _
    have hMa2 := zMo_f2 (σ := σa1) fr2 hMa1
    have hxa2 := mTx_e (σ := σa1) hMa1 fr2 hxa1
    have hs2a := mTs_e (σ := σa1) hMa1 fr2 hs1a
    exact zF_return dX12_compileValue_27 rfl ((by
    have hk2 : ¬ tKd t L s = 2 := by rw [tKd_e (by omega)]; decide
    have hix : qIx t L s = 9 := qIxF_is (fun j _ _ z9 => absurd (tWd_0 z9) (by omega)) (by decide) (Or.inr rfl)
    have e : (qVal t L s).2 = tFail 1 s := by
      unfold qVal; rw [if_neg hk2, if_neg (by rw [hix]; omega)]
    have e2 : tFail 1 s = s := if_neg (by omega)
    rw [e, e2]
    exact ⟨rfl, ((mPt_c fr1).tr (mPe_c fr2)), hs2a, fun z => absurd z (by omega)⟩))
  · refine zF_aload_n 8 dX12_compileValue_7 rfl rfl ?_
    refine zF_getI 11 dX12_compileValue_8 rfl gX12_354 (by decide) (by decide) hM.1 hM.2.1 hs.2.2.2.2.1 ?_
    refine zF_iconst 12 dX12_compileValue_11 rfl ?_
    refine zF_icmp_ne 28 15 dX12_compileValue_12 rfl rfl (by first | decide | assumption | (have nl := tNumV_b (t := t) (L := L) (s := s) (lo := 0) (hi := 99999) (by decide); constructor <;> omega) | (constructor <;> omega)) (by first | decide | assumption | (have nl := tNumV_b (t := t) (L := L) (s := s) (lo := 0) (hi := 99999) (by decide); constructor <;> omega) | (constructor <;> omega)) (fun c2 => ?_) (fun c2 => ?_)
    · refine zF_iconst 29 dX12_compileValue_28 rfl ?_
      refine zF_istore_n 30 (ls' := [(1, zI 0), (0, zR hm)]) dX12_compileValue_29 rfl (by decide) rfl ?_
      refine zF_locs (ls' := [(1, zI ((0 : Nat) : Int)), (0, zR hm)]) ⟨zlI rfl (by first | rfl | omega | (push_cast; omega) | exact congrArg (_ + ·) (zbT (by assumption)) | exact congrArg (_ + ·) (zbF (by assumption)) | exact congrArg (_ + ·) (zbT (by omega)) | exact congrArg (_ + ·) (zbF (by omega)) | exact congrArg (_ + ·) (if_pos (by omega)).symm | exact congrArg (_ + ·) (if_neg (by omega)).symm | exact (if_pos (by omega)).symm | exact (if_neg (by omega)).symm | exact zsub_s (if_pos (by omega)).symm | exact zsub_s0 (if_neg (by omega)).symm | exact zadd0 (if_neg (by omega)).symm | exact zadd0 (zbF (by omega)) | exact (Int.sub_zero _).symm), rfl, trivial⟩ ?_
      refine zF_while (X := Nat) (fun y => 9 - y) (fun y σ2 => y ≤ 9 ∧ σ2 = σ ∧ ∀ j, j < y → ¬ tWd t L (zsbi (50 + j)) s) (fun y => [(1, zI ((y : Nat) : Int)), (0, zR hm)]) ?_ 0 σ (⟨Nat.zero_le _, rfl, fun j b => absurd b (Nat.not_lt_zero _)⟩)
      intro x σ2 hI30 ih30
      show zF G mX12_compileValue (d + 8) 30 [(1, zI ((x : Nat) : Int)), (0, zR hm)] [] σ2 _
      obtain ⟨hx9, e2, hno⟩ := hI30
      subst e2
      have hnm2 := hnm
      refine zF_iload_n 31 dX12_compileValue_30 rfl rfl ?_
      refine zF_aload_n 32 dX12_compileValue_31 rfl rfl ?_
      refine zF_getR 35 dX12_compileValue_32 rfl gX12_74 hM.1 hM.2.1 (zM_28 hM).1 ?_
      refine zF_alen 36 dX12_compileValue_35 rfl (by decide) (zM_28 hM).2.2 (zM_28 hM).2.1 ?_
      refine zF_icmp_ge 58 39 dX12_compileValue_36 rfl rfl (by first | decide | assumption | (have nl := tNumV_b (t := t) (L := L) (s := s) (lo := 0) (hi := 99999) (by decide); constructor <;> omega) | (constructor <;> omega)) (by first | decide | assumption | (have nl := tNumV_b (t := t) (L := L) (s := s) (lo := 0) (hi := 99999) (by decide); constructor <;> omega) | (constructor <;> omega)) (fun c3 => ?_) (fun c3 => ?_)
      · have hb9 : ∀ j, 0 ≤ j → j < x → ¬ tWd t L (zsbi (50 + j)) s := fun j _ b => hno j b
        have hix : qIx t L s = x := qIxF_is hb9 (Nat.zero_le _) (Or.inr (by omega))
        have hk2 : ¬ tKd t L s = 2 := fun z9 => by have z8 := tKd_z (t := t) (L := L) (s := s) (by omega); rw [tKd_0 z8] at z9; omega
        refine zF_aload_n 59 dX12_compileValue_58 rfl rfl ?_
        refine zF_iload_n 60 dX12_compileValue_59 rfl rfl ?_
        refine zF_aload_n 61 dX12_compileValue_60 rfl rfl ?_
        refine zF_getR 64 dX12_compileValue_61 rfl gX12_74 hM.1 hM.2.1 (zM_28 hM).1 ?_
        refine zF_alen 65 dX12_compileValue_64 rfl (by decide) (zM_28 hM).2.2 (zM_28 hM).2.1 ?_
        refine zF_icmp_ge 72 68 dX12_compileValue_65 rfl rfl (by first | decide | assumption | (have nl := tNumV_b (t := t) (L := L) (s := s) (lo := 0) (hi := 99999) (by decide); constructor <;> omega) | (constructor <;> omega)) (by first | decide | assumption | (have nl := tNumV_b (t := t) (L := L) (s := s) (lo := 0) (hi := 99999) (by decide); constructor <;> omega) | (constructor <;> omega)) (fun c4 => ?_) (fun c4 => ?_)
        · refine zF_iconst 73 dX12_compileValue_72 rfl ?_
          refine zF_iconst 74 dX12_compileValue_73 rfl ?_
          refine zF_callV 77 (d2 := (d + 7)) (as := [zI 0, zI 1]) dX12_compileValue_74 rfl kX12_382 iX12_check (ci := 12) rfl eX12_check (Nat.le_refl _) hM.1 hM.2.1 rfl rfl (Nat.le_of_ble_eq_true rfl) (zE.mono (zt_X12_check (σ := σ2) (P := False) (c := 1) hM hx hs rfl (by decide) (by decide)) fun ro σa3 hh3 => ?_)
          obtain ⟨er3, fr3, p3⟩ := hh3
          subst er3
          refine ⟨fr3.1, ?_⟩
          show zF G mX12_compileValue (d + 8) 77 [(1, zI ((x : Nat) : Int)), (0, zR hm)] [] σa3 _
          have hMa3 := zMo_f2 (σ := σ2) fr3 hM
          have hxa3 := mTx_t (σ := σ2) hM hx fr3
          have hs3a : mTs σa3 hm t L (s.1, 1) := mTs_to p3 ((if_neg id).trans (if_pos (by first | assumption | omega)) : (if False then s else tFail 1 s) = (s.1, 1))
          have hc3c : (s : tS).2 = 0 → mCd σa3 hm A l := fun z => mCd_t (σ := σ2) hM fr3 (hc z)
          refine zF_aload_n 78 dX12_compileValue_77 rfl rfl ?_
          refine zF_iconst 79 dX12_compileValue_78 rfl ?_
          refine zF_iload_n 80 dX12_compileValue_79 rfl rfl ?_
          refine zF_isub 81 dX12_compileValue_80 rfl ?_
          refine zF_callV 84 (d2 := (d + 7)) (as := [zI ((-1) - ((x : Nat) : Int))]) dX12_compileValue_81 rfl kX12_456 iX12_emit (ci := 12) rfl eX12_emit (Nat.le_refl _) hMa3.1 hMa3.2.1 rfl rfl (Nat.le_of_ble_eq_true rfl) (zE.mono (zt_X12_emit (σ := σa3) hMa3 hs3a (fun z => hc3c (absurd z (by show ¬ (1 : Int) = 0; decide))) (fun z => absurd z (by show ¬ (1 : Int) = 0; decide)) (by first | decide | assumption | (have nl := tNumV_b (t := t) (L := L) (s := s) (lo := 0) (hi := 99999) (by decide); constructor <;> omega) | (constructor <;> omega))) fun ro σa4 hh4 => ?_)
          obtain ⟨er4, fr4, p4⟩ := hh4
          subst er4
          refine ⟨fr4.1, ?_⟩
          show zF G mX12_compileValue (d + 8) 84 [(1, zI ((x : Nat) : Int)), (0, zR hm)] [] σa4 _
          have hMa4 := zMo_f2 (σ := σa3) fr4 hMa3
          have hxa4 := mTx_e (σ := σa3) hMa3 fr4 hxa3
          have hs4a := mTs_e (σ := σa3) hMa3 fr4 hs3a
          refine zF_aload_n 85 dX12_compileValue_84 rfl rfl ?_
          refine zF_callV 88 (d2 := (d + 7)) (as := []) dX12_compileValue_85 rfl kX12_386 iX12_advance (ci := 12) rfl eX12_advance (Nat.le_refl _) hMa4.1 hMa4.2.1 rfl rfl (Nat.le_of_ble_eq_true rfl) (zE.mono (zt_X12_advance (σ := σa4) hMa4 hxa4 hs4a) fun ro σa5 hh5 => ?_)
          obtain ⟨er5, fr5, p5⟩ := hh5
          subst er5
          refine ⟨fr5.1, ?_⟩
          show zF G mX12_compileValue (d + 8) 88 [(1, zI ((x : Nat) : Int)), (0, zR hm)] [] σa5 _
          have hMa5 := zMo_f2 (σ := σa4) fr5 hMa4
          have hxa5 := mTx_t (σ := σa4) hMa4 hxa4 fr5
          have hs5a : mTs σa5 hm t L (s.1, 1) := mTs_to p5 (tAdv_e (by show ¬ (1 : Int) = 0; decide))
          have hc5c : ((s.1, 1) : tS).2 = 0 → mCd σa5 hm A (l ++ [((-1) - ((x : Nat) : Int))]) := fun z => mCd_t (σ := σa4) hMa4 fr5 (p4 z)
          exact zF_return dX12_compileValue_88 rfl ((by
    have e : (qVal t L s).2 = tFail 1 s := by
      unfold qVal; rw [if_neg hk2, if_neg (by rw [hix]; omega)]
    have e2 : tFail 1 s = (s.1, 1) := if_pos (by omega)
    rw [e, e2]
    exact ⟨rfl, (((mPt_c fr3).tr (mPe_c fr4)).tr (mPt_c fr5)), hs5a, fun z => absurd z (by show ¬ (1 : Int) = 0; decide)⟩))
        · exact absurd c4 (by omega)
      · refine zF_aload_n 40 dX12_compileValue_39 rfl rfl ?_
        refine zF_aload_n 41 dX12_compileValue_40 rfl rfl ?_
        refine zF_getR 44 dX12_compileValue_41 rfl gX12_74 hM.1 hM.2.1 (zM_28 hM).1 ?_
        refine zF_iload_n 45 dX12_compileValue_44 rfl rfl ?_
        refine zF_aaload 46 dX12_compileValue_45 rfl (by decide) (zM_28 hM).2.2 (zM_28 hM).2.1 (by omega) (by omega) (hnm2 x (by omega)) ?_
        refine zF_callVi 49 (d2 := (d + 7)) (as := [zR (zbg + (30 + x))]) dX12_compileValue_46 rfl kX12_378 iX12_isWord (ci := 12) rfl eX12_isWord (Nat.le_refl _) hM.1 hM.2.1 rfl rfl (Nat.le_of_ble_eq_true rfl) (zt_X12_isWord (σ := σ2) (i := 30 + x) hM hx hs hG (by omega)) ?_
        refine zF_ifb_ne 58 52 dX12_compileValue_49 rfl rfl (fun c5 => ?_) (fun c5 => ?_)
        · have hb9 : ∀ j, 0 ≤ j → j < x → ¬ tWd t L (zsbi (50 + j)) s := fun j _ b => hno j b
          have hw9 : tWd t L (zsbi (50 + x)) s := zsb_nm x (by omega) ▸ (by assumption)
          have hs0 : s.2 = 0 := tWd_0 hw9
          have htk := tWd_k hw9
          have hlt5 := hlt.2.2.2.2 htk
          have hix : qIx t L s = x := qIxF_is hb9 (Nat.zero_le _) (Or.inl ⟨by omega, hw9⟩)
          refine zF_aload_n 59 dX12_compileValue_58 rfl rfl ?_
          refine zF_iload_n 60 dX12_compileValue_59 rfl rfl ?_
          refine zF_aload_n 61 dX12_compileValue_60 rfl rfl ?_
          refine zF_getR 64 dX12_compileValue_61 rfl gX12_74 hM.1 hM.2.1 (zM_28 hM).1 ?_
          refine zF_alen 65 dX12_compileValue_64 rfl (by decide) (zM_28 hM).2.2 (zM_28 hM).2.1 ?_
          refine zF_icmp_ge 72 68 dX12_compileValue_65 rfl rfl (by first | decide | assumption | (have nl := tNumV_b (t := t) (L := L) (s := s) (lo := 0) (hi := 99999) (by decide); constructor <;> omega) | (constructor <;> omega)) (by first | decide | assumption | (have nl := tNumV_b (t := t) (L := L) (s := s) (lo := 0) (hi := 99999) (by decide); constructor <;> omega) | (constructor <;> omega)) (fun c6 => ?_) (fun c6 => ?_)
          · exact absurd c6 (by omega)
          · refine zF_iconst 69 dX12_compileValue_68 rfl ?_
            refine zF_goto 73 dX12_compileValue_69 rfl ?_
            refine zF_iconst 74 dX12_compileValue_73 rfl ?_
            refine zF_callV 77 (d2 := (d + 7)) (as := [zI 1, zI 1]) dX12_compileValue_74 rfl kX12_382 iX12_check (ci := 12) rfl eX12_check (Nat.le_refl _) hM.1 hM.2.1 rfl rfl (Nat.le_of_ble_eq_true rfl) (zE.mono (zt_X12_check (σ := σ2) (P := True) (c := 1) hM hx hs rfl (by decide) (by decide)) fun ro σa6 hh6 => ?_)
            obtain ⟨er6, fr6, p6⟩ := hh6
            subst er6
            refine ⟨fr6.1, ?_⟩
            show zF G mX12_compileValue (d + 8) 77 [(1, zI ((x : Nat) : Int)), (0, zR hm)] [] σa6 _
            have hMa6 := zMo_f2 (σ := σ2) fr6 hM
            have hxa6 := mTx_t (σ := σ2) hM hx fr6
            have hs6a : mTs σa6 hm t L s := mTs_to p6 (if_pos trivial)
            have hc6c : (s : tS).2 = 0 → mCd σa6 hm A l := fun z => mCd_t (σ := σ2) hM fr6 (hc z)
            refine zF_aload_n 78 dX12_compileValue_77 rfl rfl ?_
            refine zF_iconst 79 dX12_compileValue_78 rfl ?_
            refine zF_iload_n 80 dX12_compileValue_79 rfl rfl ?_
            refine zF_isub 81 dX12_compileValue_80 rfl ?_
            refine zF_callV 84 (d2 := (d + 7)) (as := [zI ((-1) - ((x : Nat) : Int))]) dX12_compileValue_81 rfl kX12_456 iX12_emit (ci := 12) rfl eX12_emit (Nat.le_refl _) hMa6.1 hMa6.2.1 rfl rfl (Nat.le_of_ble_eq_true rfl) (zE.mono (zt_X12_emit (σ := σa6) hMa6 hs6a (fun z => hc6c (z)) (fun z => by omega) (by first | decide | assumption | (have nl := tNumV_b (t := t) (L := L) (s := s) (lo := 0) (hi := 99999) (by decide); constructor <;> omega) | (constructor <;> omega))) fun ro σa7 hh7 => ?_)
            obtain ⟨er7, fr7, p7⟩ := hh7
            subst er7
            refine ⟨fr7.1, ?_⟩
            show zF G mX12_compileValue (d + 8) 84 [(1, zI ((x : Nat) : Int)), (0, zR hm)] [] σa7 _
            have hMa7 := zMo_f2 (σ := σa6) fr7 hMa6
            have hxa7 := mTx_e (σ := σa6) hMa6 fr7 hxa6
            have hs7a := mTs_e (σ := σa6) hMa6 fr7 hs6a
            refine zF_aload_n 85 dX12_compileValue_84 rfl rfl ?_
            refine zF_callV 88 (d2 := (d + 7)) (as := []) dX12_compileValue_85 rfl kX12_386 iX12_advance (ci := 12) rfl eX12_advance (Nat.le_refl _) hMa7.1 hMa7.2.1 rfl rfl (Nat.le_of_ble_eq_true rfl) (zE.mono (zt_X12_advance (σ := σa7) hMa7 hxa7 hs7a) fun ro σa8 hh8 => ?_)
            obtain ⟨er8, fr8, p8⟩ := hh8
            subst er8
            refine ⟨fr8.1, ?_⟩
            show zF G mX12_compileValue (d + 8) 88 [(1, zI ((x : Nat) : Int)), (0, zR hm)] [] σa8 _
            have hMa8 := zMo_f2 (σ := σa7) fr8 hMa7
            have hxa8 := mTx_t (σ := σa7) hMa7 hxa7 fr8
            have hs8a : mTs σa8 hm t L (tAdv t L s) := p8
            have hc8c : (s : tS).2 = 0 → mCd σa8 hm A (l ++ [((-1) - ((x : Nat) : Int))]) := fun z => mCd_t (σ := σa7) hMa7 fr8 (p7 z)
            exact zF_return dX12_compileValue_88 rfl ((by
    have e : qVal t L s = ((-1 - (x : Int)), (tAdv t L s)) := (if_neg (fun z9 => by rw [tKd_0 hs0] at z9; have := hw9.1; rw [tKd_0 hs0] at this; omega)).trans ((if_pos (by rw [hix]; omega)).trans (by rw [hix]))
    rw [e]
    exact ⟨rfl, (((mPt_c fr6).tr (mPe_c fr7)).tr (mPt_c fr8)), hs8a, fun z => hc8c (tAdv_20 z)⟩))
        · refine zF_iinc 55 (ls' := [(1, zI (((x : Nat) : Int) + 1)), (0, zR hm)]) dX12_compileValue_52 rfl rfl rfl (by decide) rfl ?_
          refine zF_goto 30 dX12_compileValue_55 rfl ?_
          exact zF_locs (ls' := [(1, zI (((x + 1) : Nat) : Int)), (0, zR hm)]) ⟨zlI rfl (by first | rfl | omega | (push_cast; omega) | exact congrArg (_ + ·) (zbT (by assumption)) | exact congrArg (_ + ·) (zbF (by assumption)) | exact congrArg (_ + ·) (zbT (by omega)) | exact congrArg (_ + ·) (zbF (by omega)) | exact congrArg (_ + ·) (if_pos (by omega)).symm | exact congrArg (_ + ·) (if_neg (by omega)).symm | exact (if_pos (by omega)).symm | exact (if_neg (by omega)).symm | exact zsub_s (if_pos (by omega)).symm | exact zsub_s0 (if_neg (by omega)).symm | exact zadd0 (if_neg (by omega)).symm | exact zadd0 (zbF (by omega)) | exact (Int.sub_zero _).symm), rfl, trivial⟩ (ih30 (x + 1) _ (by omega) (⟨by omega, rfl, fun j b => by
          by_cases q : j = x
          · subst q; exact zsb_nm j (by omega) ▸ (by assumption)
          · exact hno j (by omega)⟩))
    · have hlt5 : s.2 = 0 → tbg t L s.1 < L := fun z9 => (hlt.2.2.2.2 (by omega)).2
      refine zF_aload_n 16 dX12_compileValue_15 rfl rfl ?_
      refine zF_aload_n 17 dX12_compileValue_16 rfl rfl ?_
      refine zF_iconst 18 dX12_compileValue_17 rfl ?_
      refine zF_ldcw 21 dX12_compileValue_18 rfl oX12_455 ?_
      refine zF_callV 24 (d2 := (d + 7)) (as := [zI 0, zI (99999)]) dX12_compileValue_21 rfl kX12_404 iX12_readNumber (ci := 12) rfl eX12_readNumber (Nat.le_refl _) hM.1 hM.2.1 rfl rfl (Nat.le_of_ble_eq_true rfl) (zE.mono (zt_X12_readNumber (σ := σ) hM hx hs (by first | decide | assumption | (have nl := tNumV_b (t := t) (L := L) (s := s) (lo := 0) (hi := 99999) (by decide); constructor <;> omega) | (constructor <;> omega)) (by first | decide | assumption | (have nl := tNumV_b (t := t) (L := L) (s := s) (lo := 0) (hi := 99999) (by decide); constructor <;> omega) | (constructor <;> omega)) (by omega)) fun ro σa9 hh9 => ?_)
      obtain ⟨er9, fr9, p9⟩ := hh9
      subst er9
      refine ⟨fr9.1, ?_⟩
      show zF G mX12_compileValue (d + 8) 24 [(0, zR hm)] [zI (tNumV t L 0 (99999) s), zR hm] σa9 _
      have hMa9 := zMo_f2 (σ := σ) fr9 hM
      have hxa9 := mTx_t (σ := σ) hM hx fr9
      have hs9a : mTs σa9 hm t L (tNumS t L 0 (99999) s) := p9
      have hc9c : (s : tS).2 = 0 → mCd σa9 hm A l := fun z => mCd_t (σ := σ) hM fr9 (hc z)
      refine zF_callV 27 (d2 := (d + 7)) (as := [zI (tNumV t L 0 (99999) s)]) dX12_compileValue_24 rfl kX12_456 iX12_emit (ci := 12) rfl eX12_emit (Nat.le_refl _) hMa9.1 hMa9.2.1 rfl rfl (Nat.le_of_ble_eq_true rfl) (zE.mono (zt_X12_emit (σ := σa9) hMa9 hs9a (fun z => hc9c ((tNumS_2 z).1)) (fun z => by have hlt6 := hlt5 (tNumS_2 z).1; omega) (by first | decide | assumption | (have nl := tNumV_b (t := t) (L := L) (s := s) (lo := 0) (hi := 99999) (by decide); constructor <;> omega) | (constructor <;> omega))) fun ro σa10 hh10 => ?_)
      obtain ⟨er10, fr10, p10⟩ := hh10
      subst er10
      refine ⟨fr10.1, ?_⟩
      show zF G mX12_compileValue (d + 8) 27 [(0, zR hm)] [] σa10 _
      have hMa10 := zMo_f2 (σ := σa9) fr10 hMa9
      have hxa10 := mTx_e (σ := σa9) hMa9 fr10 hxa9
      have hs10a := mTs_e (σ := σa9) hMa9 fr10 hs9a
      exact zF_return dX12_compileValue_27 rfl ((by
    have e : qVal t L s = ((tNumV t L 0 99999 s), (tNumS t L 0 (99999) s)) := if_pos (by rw [tKd_0 (t := t) (L := L) (s := s) (by omega)]; omega)
    rw [e]
    exact ⟨rfl, ((mPt_c fr9).tr (mPe_c fr10)), hs10a, fun z => p10 z⟩))
end ZMQ

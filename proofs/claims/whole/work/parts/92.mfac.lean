/-! the reference: factors -/
section ZMX
variable {G : zG} {d : Nat} {σ σ0 σ1 : zMem} {hm : Nat} {A : Nat → Nat} {t : Int → Int} {L : Nat} {s : tS} {l : List Int} {F : tS → qS} {k : Int} {K : Nat}
theorem mPc_27 (hM : zMo σ hm A) (f : zFr (mPc hm A) σ σ1) (h : zia σ hm ((27 : Nat) : Int) = k) : zia σ1 hm ((27 : Nat) : Int) = k := zFr_F f (fun q => q.elim (fun q => by have := q.2; omega) (fun q => q.elim (fun q => absurd q.2 (by decide)) (fun q => zMo_hm1 hM (k := 29) (by decide) zMo_h1 q.symm))) h
theorem mPe_27 (hM : zMo σ hm A) (f : zFr (mPe hm A) σ σ1) (h : zia σ hm ((27 : Nat) : Int) = k) : zia σ1 hm ((27 : Nat) : Int) = k := mPc_27 hM (mPe_c f) h
theorem zq_value (hG : zOS G) (hM : zMo σ hm A) (hx : mTx σ A t L) (hs : mTs σ hm t L s) (hnm : mNm σ A) (hc : s.2 = 0 → mCd σ hm A l ∧ l.length ≤ s.1) (hL2 : L ≤ 200) : zE G mX12_compileValue (d + 8) [zR hm] σ (fun ro σ1 => ro = .inl none ∧ zFr (mPc hm A) σ σ1 ∧ mTs σ1 hm t L (qVal t L s).2 ∧ ((qVal t L s).2.2 = 0 → mCd σ1 hm A (l ++ [(qVal t L s).1]))) := by
  by_cases h0 : s.2 = 0
  · exact zt_X12_compileValue hG hM hx hs hnm (fun z => (hc z).1) (hc h0).2 hL2
  · exact (zt_X12_compileValue (l := []) hG hM hx hs hnm (fun z => absurd z h0) (Nat.zero_le _) hL2).mono fun r σ1 q => ⟨q.1, q.2.1, q.2.2.1, fun z => absurd (qVal_b z).2.2 h0⟩
theorem qRel_2 : (qRel t L s).2 = if tSg t L 60 s ∨ tSg t L 61 s ∨ tSg t L 62 s then tAdv t L s else tFail 1 s := by
  unfold qRel
  by_cases c1 : tSg t L 60 s
  · rw [if_pos c1, if_pos (Or.inl c1)]
  · rw [if_neg c1]
    by_cases c2 : tSg t L 61 s
    · rw [if_pos c2, if_pos (Or.inr (Or.inl c2))]
    · rw [if_neg c2]
      by_cases c3 : tSg t L 62 s
      · rw [if_pos c3, if_pos (Or.inr (Or.inr c3))]
      · rw [if_neg c3, if_neg (fun z => z.elim c1 (fun z => z.elim c2 c3))]
def qFQ (hm : Nat) (A : Nat → Nat) (t : Int → Int) (L : Nat) (σ : zMem) (l : List Int) (k : Int) (y : qS) (ro : zRes) (σ1 : zMem) : Prop := ro = .inl none ∧ zFr (mPn hm A) σ σ1 ∧ mTs σ1 hm t L y.2 ∧ zia σ1 hm ((27 : Nat) : Int) = k ∧ (y.2.2 = 0 → mCd σ1 hm A (l ++ y.1))
theorem zq_cmp (hG : zOS G) (hL2 : L ≤ 200) (hM : zMo σ hm A) (hx : mTx σ A t L) (hs : mTs σ hm t L s) (hnm : mNm σ A) (hc : s.2 = 0 → mCd σ hm A l ∧ l.length ≤ s.1) (h27 : zia σ hm ((27 : Nat) : Int) = k) : zF G mX12_compileFactor (d + 9) 87 [(0, zR hm)] [] σ (qFQ hm A t L σ l k (qCmp t L s)) := by
  have q1 := qVal_p (t := t) hs.1
  have q2 := qRel_p (t := t) q1.1.2
  have q3 := qVal_p (t := t) q2.1.2
  refine zF_aload_n 88 dX12_compileFactor_87 rfl rfl ?_
  refine zF_callV 91 (d2 := (d + 8)) (as := []) dX12_compileFactor_88 rfl kX12_470 iX12_compileValue (ci := 12) rfl eX12_compileValue (Nat.le_refl _) hM.1 hM.2.1 rfl rfl (Nat.le_of_ble_eq_true rfl) (zE.mono (zq_value (σ := σ) (s := s) (l := l) hG hM hx hs hnm hc hL2) fun ro σa1 hh1 => ?_)
  obtain ⟨er1, fr1, p1⟩ := hh1
  subst er1
  refine ⟨fr1.1, ?_⟩
  show zF G mX12_compileFactor (d + 9) 91 [(0, zR hm)] [] σa1 _
  have hMa1 := zMo_f2 (σ := σ) fr1 hM
  have hxa1 := mTx_n (σ := σ) hM (mPc_n fr1) hx
  replace p1 : mTs σa1 hm t L (qVal t L s).2 ∧ ((qVal t L s).2.2 = 0 → mCd σa1 hm A (l ++ [(qVal t L s).1])) := p1
  refine zF_aload_n 92 dX12_compileFactor_91 rfl rfl ?_
  refine zF_bipush 94 dX12_compileFactor_92 rfl (by decide) ?_
  refine zF_callVi 97 (d2 := (d + 8)) (as := [zI 60]) dX12_compileFactor_94 rfl kX12_389 iX12_isSymbol (ci := 12) rfl eX12_isSymbol (Nat.le_refl _) hMa1.1 hMa1.2.1 rfl rfl (Nat.le_of_ble_eq_true rfl) (zt_X12_isSymbol (σ := σa1) hMa1 hxa1 p1.1 (by omega) (by omega)) ?_
  refine zF_ifb_eq 105 100 dX12_compileFactor_97 rfl rfl (fun c1 => ?_) (fun c1 => ?_)
  · refine zF_aload_n 106 dX12_compileFactor_105 rfl rfl ?_
    refine zF_bipush 108 dX12_compileFactor_106 rfl (by decide) ?_
    refine zF_callVi 111 (d2 := (d + 8)) (as := [zI 61]) dX12_compileFactor_108 rfl kX12_389 iX12_isSymbol (ci := 12) rfl eX12_isSymbol (Nat.le_refl _) hMa1.1 hMa1.2.1 rfl rfl (Nat.le_of_ble_eq_true rfl) (zt_X12_isSymbol (σ := σa1) hMa1 hxa1 p1.1 (by omega) (by omega)) ?_
    refine zF_ifb_eq 119 114 dX12_compileFactor_111 rfl rfl (fun c2 => ?_) (fun c2 => ?_)
    · refine zF_bipush 121 dX12_compileFactor_119 rfl (by decide) ?_
      refine zF_istore_n 122 (ls' := [(1, zI (-22)), (0, zR hm)]) dX12_compileFactor_121 rfl (by decide) rfl ?_
      refine zF_aload_n 123 dX12_compileFactor_122 rfl rfl ?_
      refine zF_iload_n 124 dX12_compileFactor_123 rfl rfl ?_
      refine zF_bipush 126 dX12_compileFactor_124 rfl (by decide) ?_
      refine zF_icmp_ne 138 129 dX12_compileFactor_126 rfl rfl (by first | decide | assumption | exact mBy_rg | (constructor <;> omega)) (by first | decide | assumption | exact mBy_rg | (constructor <;> omega)) (fun c3 => ?_) (fun c3 => ?_)
      · exact absurd c3 (by first | decide | simp)
      · refine zF_aload_n 130 dX12_compileFactor_129 rfl rfl ?_
        refine zF_bipush 132 dX12_compileFactor_130 rfl (by decide) ?_
        refine zF_callVi 135 (d2 := (d + 8)) (as := [zI 62]) dX12_compileFactor_132 rfl kX12_389 iX12_isSymbol (ci := 12) rfl eX12_isSymbol (Nat.le_refl _) hMa1.1 hMa1.2.1 rfl rfl (Nat.le_of_ble_eq_true rfl) (zt_X12_isSymbol (σ := σa1) hMa1 hxa1 p1.1 (by omega) (by omega)) ?_
        refine zF_ifb_eq 142 138 dX12_compileFactor_135 rfl rfl (fun c4 => ?_) (fun c4 => ?_)
        · refine zF_iconst 143 dX12_compileFactor_142 rfl ?_
          refine zF_iconst 144 dX12_compileFactor_143 rfl ?_
          refine zF_callV 147 (d2 := (d + 8)) (as := [zI 0, zI 1]) dX12_compileFactor_144 rfl kX12_382 iX12_check (ci := 12) rfl eX12_check (Nat.le_refl _) hMa1.1 hMa1.2.1 rfl rfl (Nat.le_of_ble_eq_true rfl) (zE.mono (zt_X12_check (σ := σa1) (P := False) (c := 1) hMa1 hxa1 p1.1 rfl (by decide) (by decide)) fun ro σa2 hh2 => ?_)
          obtain ⟨er2, fr2, p2⟩ := hh2
          subst er2
          refine ⟨fr2.1, ?_⟩
          show zF G mX12_compileFactor (d + 9) 147 [(1, zI (-22)), (0, zR hm)] [] σa2 _
          have hMa2 := zMo_f2 (σ := σa1) fr2 hMa1
          have hxa2 := mTx_t (σ := σa1) hMa1 hxa1 fr2
          have hs2a : mTs σa2 hm t L (tFail 1 (qVal t L s).2) := mTs_to p2 (if_neg id)
          refine zF_aload_n 148 dX12_compileFactor_147 rfl rfl ?_
          refine zF_callV 151 (d2 := (d + 8)) (as := []) dX12_compileFactor_148 rfl kX12_386 iX12_advance (ci := 12) rfl eX12_advance (Nat.le_refl _) hMa2.1 hMa2.2.1 rfl rfl (Nat.le_of_ble_eq_true rfl) (zE.mono (zt_X12_advance (σ := σa2) hMa2 hxa2 hs2a) fun ro σa3 hh3 => ?_)
          obtain ⟨er3, fr3, p3⟩ := hh3
          subst er3
          refine ⟨fr3.1, ?_⟩
          show zF G mX12_compileFactor (d + 9) 151 [(1, zI (-22)), (0, zR hm)] [] σa3 _
          have hMa3 := zMo_f2 (σ := σa2) fr3 hMa2
          have hxa3 := mTx_t (σ := σa2) hMa2 hxa2 fr3
          have hs3a : mTs σa3 hm t L (tFail 1 (qVal t L s).2) := mTs_to p3 (tAdv_f (by decide))
          have er : (qRel t L (qVal t L s).2) = (-22, (tFail 1 (qVal t L s).2)) := (if_neg (by assumption)).trans ((if_neg (by assumption)).trans (if_neg (by assumption)))
          have hsr : mTs σa3 hm t L (qRel t L (qVal t L s).2).2 := mTs_to hs3a (by rw [er])
          have hc2 : (qRel t L (qVal t L s).2).2.2 = 0 → mCd σa3 hm A (l ++ [(qVal t L s).1]) ∧ (l ++ [(qVal t L s).1]).length ≤ (qRel t L (qVal t L s).2).2.1 := fun z => by
            have b2 := (qRel_b z).1
            have b1 := (qVal_b b2).2.2
            have l0 := (hc b1).2
            have a1 := q1.2 b2; have a2 := q2.2 z
            refine ⟨(fun z => mCd_t (σ := σa2) hMa2 fr3 ((fun z => mCd_t (σ := σa1) hMa1 fr2 (p1.2 z)) z)) b2, ?_⟩
            rw [List.length_append]
            show l.length + 1 ≤ _; omega
          refine zF_aload_n 152 dX12_compileFactor_151 rfl rfl ?_
          refine zF_callV 155 (d2 := (d + 8)) (as := []) dX12_compileFactor_152 rfl kX12_470 iX12_compileValue (ci := 12) rfl eX12_compileValue (Nat.le_refl _) hMa3.1 hMa3.2.1 rfl rfl (Nat.le_of_ble_eq_true rfl) (zE.mono (zq_value (σ := σa3) (s := (qRel t L (qVal t L s).2).2) (l := (l ++ [(qVal t L s).1])) hG hMa3 hxa3 hsr (mNm_fr (mNm_fr (mNm_fr hnm fr1) fr2) fr3) hc2 hL2) fun ro σa4 hh4 => ?_)
          obtain ⟨er4, fr4, p4⟩ := hh4
          subst er4
          refine ⟨fr4.1, ?_⟩
          show zF G mX12_compileFactor (d + 9) 155 [(1, zI (-22)), (0, zR hm)] [] σa4 _
          have hMa4 := zMo_f2 (σ := σa3) fr4 hMa3
          have hxa4 := mTx_n (σ := σa3) hMa3 (mPc_n fr4) hxa3
          replace p4 : mTs σa4 hm t L (qVal t L (qRel t L (qVal t L s).2).2).2 ∧ ((qVal t L (qRel t L (qVal t L s).2).2).2.2 = 0 → mCd σa4 hm A ((l ++ [(qVal t L s).1]) ++ [(qVal t L (qRel t L (qVal t L s).2).2).1])) := p4
          have hl3 : (qVal t L (qRel t L (qVal t L s).2).2).2.2 = 0 → ((l ++ [(qVal t L s).1]) ++ [(qVal t L (qRel t L (qVal t L s).2).2).1]).length < 200 := fun z => by
            have b3 := (qVal_b z).2.2
            have b2 := (qRel_b b3).1
            have b1 := (qVal_b b2).2.2
            have l0 := (hc b1).2
            have a1 := q1.2 b2; have a2 := q2.2 b3; have a3 := q3.2 z
            rw [List.length_append, List.length_append]
            show l.length + 1 + 1 < 200; omega
          refine zF_aload_n 156 dX12_compileFactor_155 rfl rfl ?_
          refine zF_iload_n 157 dX12_compileFactor_156 rfl rfl ?_
          refine zF_callV 160 (d2 := (d + 8)) (as := [zI (-22)]) dX12_compileFactor_157 rfl kX12_456 iX12_emit (ci := 12) rfl eX12_emit (Nat.le_refl _) hMa4.1 hMa4.2.1 rfl rfl (Nat.le_of_ble_eq_true rfl) (zE.mono (zt_X12_emit (σ := σa4) hMa4 p4.1 p4.2 hl3 (by decide)) fun ro σa5 hh5 => ?_)
          obtain ⟨er5, fr5, p5⟩ := hh5
          subst er5
          refine ⟨fr5.1, ?_⟩
          show zF G mX12_compileFactor (d + 9) 160 [(1, zI (-22)), (0, zR hm)] [] σa5 _
          have hMa5 := zMo_f2 (σ := σa4) fr5 hMa4
          exact zF_return dX12_compileFactor_160 rfl (⟨rfl, (((((mPc_n fr1).tr (mPt_n fr2)).tr (mPt_n fr3)).tr (mPc_n fr4)).tr (mPc_n (mPe_c fr5))), (mTs_e (σ := σa4) hMa4 fr5 p4.1), (mPe_27 (σ := σa4) hMa4 fr5 (mPc_27 hMa3 fr4 (mPt_o fr3 (by omega) (mPt_o fr2 (by omega) (mPc_27 hM fr1 h27))))), fun z => by
            have w9 := p5 z
            rw [List.append_assoc, List.append_assoc] at w9
            show mCd _ hm A (l ++ [(qVal t L s).1, (qVal t L (qRel t L (qVal t L s).2).2).1, (qRel t L (qVal t L s).2).1])
            rw [show (qRel t L (qVal t L s).2).1 = _ from congrArg Prod.fst er]
            exact w9⟩)
        · refine zF_iconst 139 dX12_compileFactor_138 rfl ?_
          refine zF_goto 143 dX12_compileFactor_139 rfl ?_
          refine zF_iconst 144 dX12_compileFactor_143 rfl ?_
          refine zF_callV 147 (d2 := (d + 8)) (as := [zI 1, zI 1]) dX12_compileFactor_144 rfl kX12_382 iX12_check (ci := 12) rfl eX12_check (Nat.le_refl _) hMa1.1 hMa1.2.1 rfl rfl (Nat.le_of_ble_eq_true rfl) (zE.mono (zt_X12_check (σ := σa1) (P := True) (c := 1) hMa1 hxa1 p1.1 rfl (by decide) (by decide)) fun ro σa6 hh6 => ?_)
          obtain ⟨er6, fr6, p6⟩ := hh6
          subst er6
          refine ⟨fr6.1, ?_⟩
          show zF G mX12_compileFactor (d + 9) 147 [(1, zI (-22)), (0, zR hm)] [] σa6 _
          have hMa6 := zMo_f2 (σ := σa1) fr6 hMa1
          have hxa6 := mTx_t (σ := σa1) hMa1 hxa1 fr6
          have hs6a : mTs σa6 hm t L (qVal t L s).2 := mTs_to p6 (if_pos trivial)
          refine zF_aload_n 148 dX12_compileFactor_147 rfl rfl ?_
          refine zF_callV 151 (d2 := (d + 8)) (as := []) dX12_compileFactor_148 rfl kX12_386 iX12_advance (ci := 12) rfl eX12_advance (Nat.le_refl _) hMa6.1 hMa6.2.1 rfl rfl (Nat.le_of_ble_eq_true rfl) (zE.mono (zt_X12_advance (σ := σa6) hMa6 hxa6 hs6a) fun ro σa7 hh7 => ?_)
          obtain ⟨er7, fr7, p7⟩ := hh7
          subst er7
          refine ⟨fr7.1, ?_⟩
          show zF G mX12_compileFactor (d + 9) 151 [(1, zI (-22)), (0, zR hm)] [] σa7 _
          have hMa7 := zMo_f2 (σ := σa6) fr7 hMa6
          have hxa7 := mTx_t (σ := σa6) hMa6 hxa6 fr7
          have hs7a : mTs σa7 hm t L (tAdv t L (qVal t L s).2) := p7
          have er : (qRel t L (qVal t L s).2) = (-22, (tAdv t L (qVal t L s).2)) := (if_neg (by assumption)).trans ((if_neg (by assumption)).trans (if_pos (by assumption)))
          have hsr : mTs σa7 hm t L (qRel t L (qVal t L s).2).2 := mTs_to hs7a (by rw [er])
          have hc2 : (qRel t L (qVal t L s).2).2.2 = 0 → mCd σa7 hm A (l ++ [(qVal t L s).1]) ∧ (l ++ [(qVal t L s).1]).length ≤ (qRel t L (qVal t L s).2).2.1 := fun z => by
            have b2 := (qRel_b z).1
            have b1 := (qVal_b b2).2.2
            have l0 := (hc b1).2
            have a1 := q1.2 b2; have a2 := q2.2 z
            refine ⟨(fun z => mCd_t (σ := σa6) hMa6 fr7 ((fun z => mCd_t (σ := σa1) hMa1 fr6 (p1.2 z)) z)) b2, ?_⟩
            rw [List.length_append]
            show l.length + 1 ≤ _; omega
          refine zF_aload_n 152 dX12_compileFactor_151 rfl rfl ?_
          refine zF_callV 155 (d2 := (d + 8)) (as := []) dX12_compileFactor_152 rfl kX12_470 iX12_compileValue (ci := 12) rfl eX12_compileValue (Nat.le_refl _) hMa7.1 hMa7.2.1 rfl rfl (Nat.le_of_ble_eq_true rfl) (zE.mono (zq_value (σ := σa7) (s := (qRel t L (qVal t L s).2).2) (l := (l ++ [(qVal t L s).1])) hG hMa7 hxa7 hsr (mNm_fr (mNm_fr (mNm_fr hnm fr1) fr6) fr7) hc2 hL2) fun ro σa8 hh8 => ?_)
          obtain ⟨er8, fr8, p8⟩ := hh8
          subst er8
          refine ⟨fr8.1, ?_⟩
          show zF G mX12_compileFactor (d + 9) 155 [(1, zI (-22)), (0, zR hm)] [] σa8 _
          have hMa8 := zMo_f2 (σ := σa7) fr8 hMa7
          have hxa8 := mTx_n (σ := σa7) hMa7 (mPc_n fr8) hxa7
          replace p8 : mTs σa8 hm t L (qVal t L (qRel t L (qVal t L s).2).2).2 ∧ ((qVal t L (qRel t L (qVal t L s).2).2).2.2 = 0 → mCd σa8 hm A ((l ++ [(qVal t L s).1]) ++ [(qVal t L (qRel t L (qVal t L s).2).2).1])) := p8
          have hl3 : (qVal t L (qRel t L (qVal t L s).2).2).2.2 = 0 → ((l ++ [(qVal t L s).1]) ++ [(qVal t L (qRel t L (qVal t L s).2).2).1]).length < 200 := fun z => by
            have b3 := (qVal_b z).2.2
            have b2 := (qRel_b b3).1
            have b1 := (qVal_b b2).2.2
            have l0 := (hc b1).2
            have a1 := q1.2 b2; have a2 := q2.2 b3; have a3 := q3.2 z
            rw [List.length_append, List.length_append]
            show l.length + 1 + 1 < 200; omega
          refine zF_aload_n 156 dX12_compileFactor_155 rfl rfl ?_
          refine zF_iload_n 157 dX12_compileFactor_156 rfl rfl ?_
          refine zF_callV 160 (d2 := (d + 8)) (as := [zI (-22)]) dX12_compileFactor_157 rfl kX12_456 iX12_emit (ci := 12) rfl eX12_emit (Nat.le_refl _) hMa8.1 hMa8.2.1 rfl rfl (Nat.le_of_ble_eq_true rfl) (zE.mono (zt_X12_emit (σ := σa8) hMa8 p8.1 p8.2 hl3 (by decide)) fun ro σa9 hh9 => ?_)
          obtain ⟨er9, fr9, p9⟩ := hh9
          subst er9
          refine ⟨fr9.1, ?_⟩
          show zF G mX12_compileFactor (d + 9) 160 [(1, zI (-22)), (0, zR hm)] [] σa9 _
          have hMa9 := zMo_f2 (σ := σa8) fr9 hMa8
          exact zF_return dX12_compileFactor_160 rfl (⟨rfl, (((((mPc_n fr1).tr (mPt_n fr6)).tr (mPt_n fr7)).tr (mPc_n fr8)).tr (mPc_n (mPe_c fr9))), (mTs_e (σ := σa8) hMa8 fr9 p8.1), (mPe_27 (σ := σa8) hMa8 fr9 (mPc_27 hMa7 fr8 (mPt_o fr7 (by omega) (mPt_o fr6 (by omega) (mPc_27 hM fr1 h27))))), fun z => by
            have w9 := p9 z
            rw [List.append_assoc, List.append_assoc] at w9
            show mCd _ hm A (l ++ [(qVal t L s).1, (qVal t L (qRel t L (qVal t L s).2).2).1, (qRel t L (qVal t L s).2).1])
            rw [show (qRel t L (qVal t L s).2).1 = _ from congrArg Prod.fst er]
            exact w9⟩)
    · refine zF_bipush 116 dX12_compileFactor_114 rfl (by decide) ?_
      refine zF_goto 121 dX12_compileFactor_116 rfl ?_
      refine zF_istore_n 122 (ls' := [(1, zI (-21)), (0, zR hm)]) dX12_compileFactor_121 rfl (by decide) rfl ?_
      refine zF_aload_n 123 dX12_compileFactor_122 rfl rfl ?_
      refine zF_iload_n 124 dX12_compileFactor_123 rfl rfl ?_
      refine zF_bipush 126 dX12_compileFactor_124 rfl (by decide) ?_
      refine zF_icmp_ne 138 129 dX12_compileFactor_126 rfl rfl (by first | decide | assumption | exact mBy_rg | (constructor <;> omega)) (by first | decide | assumption | exact mBy_rg | (constructor <;> omega)) (fun c5 => ?_) (fun c5 => ?_)
      · refine zF_iconst 139 dX12_compileFactor_138 rfl ?_
        refine zF_goto 143 dX12_compileFactor_139 rfl ?_
        refine zF_iconst 144 dX12_compileFactor_143 rfl ?_
        refine zF_callV 147 (d2 := (d + 8)) (as := [zI 1, zI 1]) dX12_compileFactor_144 rfl kX12_382 iX12_check (ci := 12) rfl eX12_check (Nat.le_refl _) hMa1.1 hMa1.2.1 rfl rfl (Nat.le_of_ble_eq_true rfl) (zE.mono (zt_X12_check (σ := σa1) (P := True) (c := 1) hMa1 hxa1 p1.1 rfl (by decide) (by decide)) fun ro σa10 hh10 => ?_)
        obtain ⟨er10, fr10, p10⟩ := hh10
        subst er10
        refine ⟨fr10.1, ?_⟩
        show zF G mX12_compileFactor (d + 9) 147 [(1, zI (-21)), (0, zR hm)] [] σa10 _
        have hMa10 := zMo_f2 (σ := σa1) fr10 hMa1
        have hxa10 := mTx_t (σ := σa1) hMa1 hxa1 fr10
        have hs10a : mTs σa10 hm t L (qVal t L s).2 := mTs_to p10 (if_pos trivial)
        refine zF_aload_n 148 dX12_compileFactor_147 rfl rfl ?_
        refine zF_callV 151 (d2 := (d + 8)) (as := []) dX12_compileFactor_148 rfl kX12_386 iX12_advance (ci := 12) rfl eX12_advance (Nat.le_refl _) hMa10.1 hMa10.2.1 rfl rfl (Nat.le_of_ble_eq_true rfl) (zE.mono (zt_X12_advance (σ := σa10) hMa10 hxa10 hs10a) fun ro σa11 hh11 => ?_)
        obtain ⟨er11, fr11, p11⟩ := hh11
        subst er11
        refine ⟨fr11.1, ?_⟩
        show zF G mX12_compileFactor (d + 9) 151 [(1, zI (-21)), (0, zR hm)] [] σa11 _
        have hMa11 := zMo_f2 (σ := σa10) fr11 hMa10
        have hxa11 := mTx_t (σ := σa10) hMa10 hxa10 fr11
        have hs11a : mTs σa11 hm t L (tAdv t L (qVal t L s).2) := p11
        have er : (qRel t L (qVal t L s).2) = (-21, (tAdv t L (qVal t L s).2)) := (if_neg (by assumption)).trans (if_pos (by assumption))
        have hsr : mTs σa11 hm t L (qRel t L (qVal t L s).2).2 := mTs_to hs11a (by rw [er])
        have hc2 : (qRel t L (qVal t L s).2).2.2 = 0 → mCd σa11 hm A (l ++ [(qVal t L s).1]) ∧ (l ++ [(qVal t L s).1]).length ≤ (qRel t L (qVal t L s).2).2.1 := fun z => by
          have b2 := (qRel_b z).1
          have b1 := (qVal_b b2).2.2
          have l0 := (hc b1).2
          have a1 := q1.2 b2; have a2 := q2.2 z
          refine ⟨(fun z => mCd_t (σ := σa10) hMa10 fr11 ((fun z => mCd_t (σ := σa1) hMa1 fr10 (p1.2 z)) z)) b2, ?_⟩
          rw [List.length_append]
          show l.length + 1 ≤ _; omega
        refine zF_aload_n 152 dX12_compileFactor_151 rfl rfl ?_
        refine zF_callV 155 (d2 := (d + 8)) (as := []) dX12_compileFactor_152 rfl kX12_470 iX12_compileValue (ci := 12) rfl eX12_compileValue (Nat.le_refl _) hMa11.1 hMa11.2.1 rfl rfl (Nat.le_of_ble_eq_true rfl) (zE.mono (zq_value (σ := σa11) (s := (qRel t L (qVal t L s).2).2) (l := (l ++ [(qVal t L s).1])) hG hMa11 hxa11 hsr (mNm_fr (mNm_fr (mNm_fr hnm fr1) fr10) fr11) hc2 hL2) fun ro σa12 hh12 => ?_)
        obtain ⟨er12, fr12, p12⟩ := hh12
        subst er12
        refine ⟨fr12.1, ?_⟩
        show zF G mX12_compileFactor (d + 9) 155 [(1, zI (-21)), (0, zR hm)] [] σa12 _
        have hMa12 := zMo_f2 (σ := σa11) fr12 hMa11
        have hxa12 := mTx_n (σ := σa11) hMa11 (mPc_n fr12) hxa11
        replace p12 : mTs σa12 hm t L (qVal t L (qRel t L (qVal t L s).2).2).2 ∧ ((qVal t L (qRel t L (qVal t L s).2).2).2.2 = 0 → mCd σa12 hm A ((l ++ [(qVal t L s).1]) ++ [(qVal t L (qRel t L (qVal t L s).2).2).1])) := p12
        have hl3 : (qVal t L (qRel t L (qVal t L s).2).2).2.2 = 0 → ((l ++ [(qVal t L s).1]) ++ [(qVal t L (qRel t L (qVal t L s).2).2).1]).length < 200 := fun z => by
          have b3 := (qVal_b z).2.2
          have b2 := (qRel_b b3).1
          have b1 := (qVal_b b2).2.2
          have l0 := (hc b1).2
          have a1 := q1.2 b2; have a2 := q2.2 b3; have a3 := q3.2 z
          rw [List.length_append, List.length_append]
          show l.length + 1 + 1 < 200; omega
        refine zF_aload_n 156 dX12_compileFactor_155 rfl rfl ?_
        refine zF_iload_n 157 dX12_compileFactor_156 rfl rfl ?_
        refine zF_callV 160 (d2 := (d + 8)) (as := [zI (-21)]) dX12_compileFactor_157 rfl kX12_456 iX12_emit (ci := 12) rfl eX12_emit (Nat.le_refl _) hMa12.1 hMa12.2.1 rfl rfl (Nat.le_of_ble_eq_true rfl) (zE.mono (zt_X12_emit (σ := σa12) hMa12 p12.1 p12.2 hl3 (by decide)) fun ro σa13 hh13 => ?_)
        obtain ⟨er13, fr13, p13⟩ := hh13
        subst er13
        refine ⟨fr13.1, ?_⟩
        show zF G mX12_compileFactor (d + 9) 160 [(1, zI (-21)), (0, zR hm)] [] σa13 _
        have hMa13 := zMo_f2 (σ := σa12) fr13 hMa12
        exact zF_return dX12_compileFactor_160 rfl (⟨rfl, (((((mPc_n fr1).tr (mPt_n fr10)).tr (mPt_n fr11)).tr (mPc_n fr12)).tr (mPc_n (mPe_c fr13))), (mTs_e (σ := σa12) hMa12 fr13 p12.1), (mPe_27 (σ := σa12) hMa12 fr13 (mPc_27 hMa11 fr12 (mPt_o fr11 (by omega) (mPt_o fr10 (by omega) (mPc_27 hM fr1 h27))))), fun z => by
          have w9 := p13 z
          rw [List.append_assoc, List.append_assoc] at w9
          show mCd _ hm A (l ++ [(qVal t L s).1, (qVal t L (qRel t L (qVal t L s).2).2).1, (qRel t L (qVal t L s).2).1])
          rw [show (qRel t L (qVal t L s).2).1 = _ from congrArg Prod.fst er]
          exact w9⟩)
      · exact absurd c5 (by first | decide | simp)
  · refine zF_bipush 102 dX12_compileFactor_100 rfl (by decide) ?_
    refine zF_goto 121 dX12_compileFactor_102 rfl ?_
    refine zF_istore_n 122 (ls' := [(1, zI (-20)), (0, zR hm)]) dX12_compileFactor_121 rfl (by decide) rfl ?_
    refine zF_aload_n 123 dX12_compileFactor_122 rfl rfl ?_
    refine zF_iload_n 124 dX12_compileFactor_123 rfl rfl ?_
    refine zF_bipush 126 dX12_compileFactor_124 rfl (by decide) ?_
    refine zF_icmp_ne 138 129 dX12_compileFactor_126 rfl rfl (by first | decide | assumption | exact mBy_rg | (constructor <;> omega)) (by first | decide | assumption | exact mBy_rg | (constructor <;> omega)) (fun c6 => ?_) (fun c6 => ?_)
    · refine zF_iconst 139 dX12_compileFactor_138 rfl ?_
      refine zF_goto 143 dX12_compileFactor_139 rfl ?_
      refine zF_iconst 144 dX12_compileFactor_143 rfl ?_
      refine zF_callV 147 (d2 := (d + 8)) (as := [zI 1, zI 1]) dX12_compileFactor_144 rfl kX12_382 iX12_check (ci := 12) rfl eX12_check (Nat.le_refl _) hMa1.1 hMa1.2.1 rfl rfl (Nat.le_of_ble_eq_true rfl) (zE.mono (zt_X12_check (σ := σa1) (P := True) (c := 1) hMa1 hxa1 p1.1 rfl (by decide) (by decide)) fun ro σa14 hh14 => ?_)
      obtain ⟨er14, fr14, p14⟩ := hh14
      subst er14
      refine ⟨fr14.1, ?_⟩
      show zF G mX12_compileFactor (d + 9) 147 [(1, zI (-20)), (0, zR hm)] [] σa14 _
      have hMa14 := zMo_f2 (σ := σa1) fr14 hMa1
      have hxa14 := mTx_t (σ := σa1) hMa1 hxa1 fr14
      have hs14a : mTs σa14 hm t L (qVal t L s).2 := mTs_to p14 (if_pos trivial)
      refine zF_aload_n 148 dX12_compileFactor_147 rfl rfl ?_
      refine zF_callV 151 (d2 := (d + 8)) (as := []) dX12_compileFactor_148 rfl kX12_386 iX12_advance (ci := 12) rfl eX12_advance (Nat.le_refl _) hMa14.1 hMa14.2.1 rfl rfl (Nat.le_of_ble_eq_true rfl) (zE.mono (zt_X12_advance (σ := σa14) hMa14 hxa14 hs14a) fun ro σa15 hh15 => ?_)
      obtain ⟨er15, fr15, p15⟩ := hh15
      subst er15
      refine ⟨fr15.1, ?_⟩
      show zF G mX12_compileFactor (d + 9) 151 [(1, zI (-20)), (0, zR hm)] [] σa15 _
      have hMa15 := zMo_f2 (σ := σa14) fr15 hMa14
      have hxa15 := mTx_t (σ := σa14) hMa14 hxa14 fr15
      have hs15a : mTs σa15 hm t L (tAdv t L (qVal t L s).2) := p15
      have er : (qRel t L (qVal t L s).2) = (-20, (tAdv t L (qVal t L s).2)) := (if_pos (by assumption)) 
      have hsr : mTs σa15 hm t L (qRel t L (qVal t L s).2).2 := mTs_to hs15a (by rw [er])
      have hc2 : (qRel t L (qVal t L s).2).2.2 = 0 → mCd σa15 hm A (l ++ [(qVal t L s).1]) ∧ (l ++ [(qVal t L s).1]).length ≤ (qRel t L (qVal t L s).2).2.1 := fun z => by
        have b2 := (qRel_b z).1
        have b1 := (qVal_b b2).2.2
        have l0 := (hc b1).2
        have a1 := q1.2 b2; have a2 := q2.2 z
        refine ⟨(fun z => mCd_t (σ := σa14) hMa14 fr15 ((fun z => mCd_t (σ := σa1) hMa1 fr14 (p1.2 z)) z)) b2, ?_⟩
        rw [List.length_append]
        show l.length + 1 ≤ _; omega
      refine zF_aload_n 152 dX12_compileFactor_151 rfl rfl ?_
      refine zF_callV 155 (d2 := (d + 8)) (as := []) dX12_compileFactor_152 rfl kX12_470 iX12_compileValue (ci := 12) rfl eX12_compileValue (Nat.le_refl _) hMa15.1 hMa15.2.1 rfl rfl (Nat.le_of_ble_eq_true rfl) (zE.mono (zq_value (σ := σa15) (s := (qRel t L (qVal t L s).2).2) (l := (l ++ [(qVal t L s).1])) hG hMa15 hxa15 hsr (mNm_fr (mNm_fr (mNm_fr hnm fr1) fr14) fr15) hc2 hL2) fun ro σa16 hh16 => ?_)
      obtain ⟨er16, fr16, p16⟩ := hh16
      subst er16
      refine ⟨fr16.1, ?_⟩
      show zF G mX12_compileFactor (d + 9) 155 [(1, zI (-20)), (0, zR hm)] [] σa16 _
      have hMa16 := zMo_f2 (σ := σa15) fr16 hMa15
      have hxa16 := mTx_n (σ := σa15) hMa15 (mPc_n fr16) hxa15
      replace p16 : mTs σa16 hm t L (qVal t L (qRel t L (qVal t L s).2).2).2 ∧ ((qVal t L (qRel t L (qVal t L s).2).2).2.2 = 0 → mCd σa16 hm A ((l ++ [(qVal t L s).1]) ++ [(qVal t L (qRel t L (qVal t L s).2).2).1])) := p16
      have hl3 : (qVal t L (qRel t L (qVal t L s).2).2).2.2 = 0 → ((l ++ [(qVal t L s).1]) ++ [(qVal t L (qRel t L (qVal t L s).2).2).1]).length < 200 := fun z => by
        have b3 := (qVal_b z).2.2
        have b2 := (qRel_b b3).1
        have b1 := (qVal_b b2).2.2
        have l0 := (hc b1).2
        have a1 := q1.2 b2; have a2 := q2.2 b3; have a3 := q3.2 z
        rw [List.length_append, List.length_append]
        show l.length + 1 + 1 < 200; omega
      refine zF_aload_n 156 dX12_compileFactor_155 rfl rfl ?_
      refine zF_iload_n 157 dX12_compileFactor_156 rfl rfl ?_
      refine zF_callV 160 (d2 := (d + 8)) (as := [zI (-20)]) dX12_compileFactor_157 rfl kX12_456 iX12_emit (ci := 12) rfl eX12_emit (Nat.le_refl _) hMa16.1 hMa16.2.1 rfl rfl (Nat.le_of_ble_eq_true rfl) (zE.mono (zt_X12_emit (σ := σa16) hMa16 p16.1 p16.2 hl3 (by decide)) fun ro σa17 hh17 => ?_)
      obtain ⟨er17, fr17, p17⟩ := hh17
      subst er17
      refine ⟨fr17.1, ?_⟩
      show zF G mX12_compileFactor (d + 9) 160 [(1, zI (-20)), (0, zR hm)] [] σa17 _
      have hMa17 := zMo_f2 (σ := σa16) fr17 hMa16
      exact zF_return dX12_compileFactor_160 rfl (⟨rfl, (((((mPc_n fr1).tr (mPt_n fr14)).tr (mPt_n fr15)).tr (mPc_n fr16)).tr (mPc_n (mPe_c fr17))), (mTs_e (σ := σa16) hMa16 fr17 p16.1), (mPe_27 (σ := σa16) hMa16 fr17 (mPc_27 hMa15 fr16 (mPt_o fr15 (by omega) (mPt_o fr14 (by omega) (mPc_27 hM fr1 h27))))), fun z => by
        have w9 := p17 z
        rw [List.append_assoc, List.append_assoc] at w9
        show mCd _ hm A (l ++ [(qVal t L s).1, (qVal t L (qRel t L (qVal t L s).2).2).1, (qRel t L (qVal t L s).2).1])
        rw [show (qRel t L (qVal t L s).2).1 = _ from congrArg Prod.fst er]
        exact w9⟩)
    · exact absurd c6 (by first | decide | simp)
/-- a factor, over what an opening reads -/
def qFa (t : Int → Int) (L : Nat) (F : tS → qS) (s : tS) : qS := if tWd t L (zsbi 27) s then ((F (tAdv t L s)).1 ++ [-23], (F (tAdv t L s)).2) else if tSg t L 40 s then ((qTest t L F (tAdv t L s)).1, tSgS t L 41 (qTest t L F (tAdv t L s)).2) else qCmp t L s
theorem zq_fac0 (hG : zOS G) (hL2 : L ≤ 200) : qFS G mX12_compileFactor 9 hm A t L (qFac t L 0) 6 := by
  intro e σ s l he hM hx hs hnm hc h27
  obtain ⟨d, rfl⟩ : ∃ d, e = d + 9 := ⟨e - 9, by omega⟩
  refine zE_of rfl (by simp [zcat]) (Nat.le_of_ble_eq_true rfl) ?_
  show zF G mX12_compileFactor (d + 9) 0 [(0, zR hm)] [] σ _
  refine zF_aload_n 1 dX12_compileFactor_0 rfl rfl ?_
  refine zF_ldcSW 4 (i := 47) dX12_compileFactor_1 rfl rfl ?_
  refine zF_callVi 7 (d2 := (d + 8)) (as := [zR (zbg + 47)]) dX12_compileFactor_4 rfl kX12_378 iX12_isWord (ci := 12) rfl eX12_isWord (Nat.le_refl _) hM.1 hM.2.1 rfl rfl (Nat.le_of_ble_eq_true rfl) (zt_X12_isWord (σ := σ) (i := 47) hM hx hs hG (by decide)) ?_
  refine zF_ifb_eq 44 10 dX12_compileFactor_7 rfl rfl (fun c1 => ?_) (fun c1 => ?_)
  · refine zF_aload_n 45 dX12_compileFactor_44 rfl rfl ?_
    refine zF_bipush 47 dX12_compileFactor_45 rfl (by decide) ?_
    refine zF_callVi 50 (d2 := (d + 8)) (as := [zI 40]) dX12_compileFactor_47 rfl kX12_389 iX12_isSymbol (ci := 12) rfl eX12_isSymbol (Nat.le_refl _) hM.1 hM.2.1 rfl rfl (Nat.le_of_ble_eq_true rfl) (zt_X12_isSymbol (σ := σ) hM hx hs (by omega) (by omega)) ?_
    refine zF_ifb_eq 87 53 dX12_compileFactor_50 rfl rfl (fun c2 => ?_) (fun c2 => ?_)
    · exact (by
        have e : qFac t L 0 s = qCmp t L s := if_neg (fun z => by rcases z with z | z <;> contradiction)
        rw [e]
        exact zq_cmp (d := d) hG hL2 hM hx hs hnm hc h27)
    · have h0 : s.2 = 0 := tSg_0 (by assumption : tSg t L 40 s)
      have htk := tSg_k (by assumption : tSg t L 40 s)
      refine zF_aload_n 54 dX12_compileFactor_53 rfl rfl ?_
      refine zF_callV 57 (d2 := (d + 8)) (as := []) dX12_compileFactor_54 rfl kX12_461 iX12_enter (ci := 12) rfl eX12_enter (Nat.le_refl _) hM.1 hM.2.1 rfl rfl (Nat.le_of_ble_eq_true rfl) (zE.mono (zt_X12_enter (σ := σ) (l := l) (k := 6) hM hx hs h0 h27 (by decide) (by decide)) fun ro σa1 hh1 => ?_)
      obtain ⟨er1, fr1, p1⟩ := hh1
      subst er1
      refine ⟨fr1.1, ?_⟩
      show zF G mX12_compileFactor (d + 9) 57 [(0, zR hm)] [] σa1 _
      have hMa1 := zMo_f2 (σ := σ) fr1 hM
      have hxa1 := mTx_n (σ := σ) hM fr1 hx
      have hs1a : mTs σa1 hm t L (s.1, 3) := mTs_to p1.1 ((if_neg (by decide)).trans (if_pos h0))
      refine zF_aload_n 58 dX12_compileFactor_57 rfl rfl ?_
      refine zF_getI 61 dX12_compileFactor_58 rfl gX12_363 (by decide) (by decide) hMa1.1 hMa1.2.1 hs1a.2.2.2.2.2.1 ?_
      refine zF_if_ne 68 64 dX12_compileFactor_61 rfl rfl (by first | decide | assumption | exact mBy_rg | (constructor <;> omega)) (fun c3 => ?_) (fun c3 => ?_)
      · refine zF_aload_n 69 dX12_compileFactor_68 rfl rfl ?_
        refine zF_bipush 71 dX12_compileFactor_69 rfl (by decide) ?_
        refine zF_callV 74 (d2 := (d + 8)) (as := [zI 41]) dX12_compileFactor_71 rfl kX12_440 iX12_expect (ci := 12) rfl eX12_expect (Nat.le_refl _) hMa1.1 hMa1.2.1 rfl rfl (Nat.le_of_ble_eq_true rfl) (zE.mono (zt_X12_expect (σ := σa1) hMa1 hxa1 hs1a (by decide) (by decide)) fun ro σa2 hh2 => ?_)
        obtain ⟨er2, fr2, p2⟩ := hh2
        subst er2
        refine ⟨fr2.1, ?_⟩
        show zF G mX12_compileFactor (d + 9) 74 [(0, zR hm)] [] σa2 _
        have hMa2 := zMo_f2 (σ := σa1) fr2 hMa1
        have hxa2 := mTx_t (σ := σa1) hMa1 hxa1 fr2
        have hs2a : mTs σa2 hm t L (s.1, 3) := mTs_to p2 (tSgS_e (by show ¬ (3 : Int) = 0; decide))
        refine zF_aload_n 75 dX12_compileFactor_74 rfl rfl ?_
        refine zF_dup 76 dX12_compileFactor_75 rfl rfl ?_
        refine zF_getI 79 dX12_compileFactor_76 rfl gX12_366 (by decide) (by decide) hMa2.1 hMa2.2.1 (mPt_o fr2 (by omega) p1.2.1) ?_
        refine zF_iconst 80 dX12_compileFactor_79 rfl ?_
        refine zF_isub 81 dX12_compileFactor_80 rfl ?_
        refine zF_putI 84 dX12_compileFactor_81 rfl pX12_compileFactor_366 (Or.inl rfl) hMa2.1 hMa2.2.1 ?_
        refine zF_goto 160 dX12_compileFactor_84 rfl ?_
        exact zF_return dX12_compileFactor_160 rfl ((by
          have e : qFac t L 0 s = ([], (s.1, 3)) := (if_pos (Or.inr (by assumption))).trans (congrArg (Prod.mk []) (if_pos h0))
          rw [e]
          exact ⟨rfl, (zFr_si (Or.inr ⟨rfl, rfl⟩) (fr1.tr (mPt_n fr2))), (mTs_27 hs2a), ((zsi_same _ _ _ _).trans (by omega)), fun z => absurd z (by show ¬ (3 : Int) = 0; decide)⟩))
      · exact absurd c3 (by first | decide | simp)
  · have h0 : s.2 = 0 := tWd_0 (by assumption : tWd t L (zsbi 27) s)
    have htk := tWd_k (by assumption : tWd t L (zsbi 27) s)
    refine zF_aload_n 11 dX12_compileFactor_10 rfl rfl ?_
    refine zF_callV 14 (d2 := (d + 8)) (as := []) dX12_compileFactor_11 rfl kX12_461 iX12_enter (ci := 12) rfl eX12_enter (Nat.le_refl _) hM.1 hM.2.1 rfl rfl (Nat.le_of_ble_eq_true rfl) (zE.mono (zt_X12_enter (σ := σ) (l := l) (k := 6) hM hx hs h0 h27 (by decide) (by decide)) fun ro σa3 hh3 => ?_)
    obtain ⟨er3, fr3, p3⟩ := hh3
    subst er3
    refine ⟨fr3.1, ?_⟩
    show zF G mX12_compileFactor (d + 9) 14 [(0, zR hm)] [] σa3 _
    have hMa3 := zMo_f2 (σ := σ) fr3 hM
    have hxa3 := mTx_n (σ := σ) hM fr3 hx
    have hs3a : mTs σa3 hm t L (s.1, 3) := mTs_to p3.1 ((if_neg (by decide)).trans (if_pos h0))
    refine zF_aload_n 15 dX12_compileFactor_14 rfl rfl ?_
    refine zF_getI 18 dX12_compileFactor_15 rfl gX12_363 (by decide) (by decide) hMa3.1 hMa3.2.1 hs3a.2.2.2.2.2.1 ?_
    refine zF_if_ne 25 21 dX12_compileFactor_18 rfl rfl (by first | decide | assumption | exact mBy_rg | (constructor <;> omega)) (fun c4 => ?_) (fun c4 => ?_)
    · refine zF_aload_n 26 dX12_compileFactor_25 rfl rfl ?_
      refine zF_bipush 28 dX12_compileFactor_26 rfl (by decide) ?_
      refine zF_callV 31 (d2 := (d + 8)) (as := [zI (-23)]) dX12_compileFactor_28 rfl kX12_456 iX12_emit (ci := 12) rfl eX12_emit (Nat.le_refl _) hMa3.1 hMa3.2.1 rfl rfl (Nat.le_of_ble_eq_true rfl) (zE.mono (zt_X12_emit (σ := σa3) (l := []) hMa3 hs3a (fun z => absurd z (by show ¬ (3 : Int) = 0; decide)) (fun z => absurd z (by show ¬ (3 : Int) = 0; decide)) (by decide)) fun ro σa4 hh4 => ?_)
      obtain ⟨er4, fr4, p4⟩ := hh4
      subst er4
      refine ⟨fr4.1, ?_⟩
      show zF G mX12_compileFactor (d + 9) 31 [(0, zR hm)] [] σa4 _
      have hMa4 := zMo_f2 (σ := σa3) fr4 hMa3
      refine zF_aload_n 32 dX12_compileFactor_31 rfl rfl ?_
      refine zF_dup 33 dX12_compileFactor_32 rfl rfl ?_
      refine zF_getI 36 dX12_compileFactor_33 rfl gX12_366 (by decide) (by decide) hMa4.1 hMa4.2.1 (mPe_27 (σ := σa3) hMa3 fr4 p3.2.1) ?_
      refine zF_iconst 37 dX12_compileFactor_36 rfl ?_
      refine zF_isub 38 dX12_compileFactor_37 rfl ?_
      refine zF_putI 41 dX12_compileFactor_38 rfl pX12_compileFactor_366 (Or.inl rfl) hMa4.1 hMa4.2.1 ?_
      refine zF_goto 160 dX12_compileFactor_41 rfl ?_
      exact zF_return dX12_compileFactor_160 rfl ((by
        have e : qFac t L 0 s = ([], (s.1, 3)) := (if_pos (Or.inl (by assumption))).trans (congrArg (Prod.mk []) (if_pos h0))
        rw [e]
        exact ⟨rfl, (zFr_si (Or.inr ⟨rfl, rfl⟩) (fr3.tr (mPc_n (mPe_c fr4)))), (mTs_27 (mTs_e (σ := σa3) hMa3 fr4 hs3a)), ((zsi_same _ _ _ _).trans (by omega)), fun z => absurd z (by show ¬ (3 : Int) = 0; decide)⟩))
    · exact absurd c4 (by first | decide | simp)
theorem zq_facS (hG : zOS G) (hL2 : L ≤ 200) (hK : 9 ≤ K) (k0 : 0 ≤ k) (k6 : k < 6) (hI : qI t L F) (hF : qFS G mX12_compileFactor K hm A t L F (k + 1)) : qFS G mX12_compileFactor (K + 3) hm A t L (qFa t L F) k := by
  intro e σ s l he hM hx hs hnm hc h27
  obtain ⟨d, rfl⟩ : ∃ d, e = d + 12 := ⟨e - 12, by omega⟩
  have hT := zq_test hG (qI_conj hI) hL2 (by omega) (zq_conj hG hI hL2 hK hF)
  refine zE_of rfl (by simp [zcat]) (Nat.le_of_ble_eq_true rfl) ?_
  show zF G mX12_compileFactor (d + 12) 0 [(0, zR hm)] [] σ _
  refine zF_aload_n 1 dX12_compileFactor_0 rfl rfl ?_
  refine zF_ldcSW 4 (i := 47) dX12_compileFactor_1 rfl rfl ?_
  refine zF_callVi 7 (d2 := (d + 11)) (as := [zR (zbg + 47)]) dX12_compileFactor_4 rfl kX12_378 iX12_isWord (ci := 12) rfl eX12_isWord (Nat.le_refl _) hM.1 hM.2.1 rfl rfl (Nat.le_of_ble_eq_true rfl) (zt_X12_isWord (σ := σ) (i := 47) hM hx hs hG (by decide)) ?_
  refine zF_ifb_eq 44 10 dX12_compileFactor_7 rfl rfl (fun c1 => ?_) (fun c1 => ?_)
  · refine zF_aload_n 45 dX12_compileFactor_44 rfl rfl ?_
    refine zF_bipush 47 dX12_compileFactor_45 rfl (by decide) ?_
    refine zF_callVi 50 (d2 := (d + 11)) (as := [zI 40]) dX12_compileFactor_47 rfl kX12_389 iX12_isSymbol (ci := 12) rfl eX12_isSymbol (Nat.le_refl _) hM.1 hM.2.1 rfl rfl (Nat.le_of_ble_eq_true rfl) (zt_X12_isSymbol (σ := σ) hM hx hs (by omega) (by omega)) ?_
    refine zF_ifb_eq 87 53 dX12_compileFactor_50 rfl rfl (fun c2 => ?_) (fun c2 => ?_)
    · exact (by
        have e : qFa t L F s = qCmp t L s := (if_neg (by assumption)).trans (if_neg (by assumption))
        rw [e]
        exact zq_cmp (d := d + 3) hG hL2 hM hx hs hnm hc h27)
    · have h0 : s.2 = 0 := tSg_0 (by assumption : tSg t L 40 s)
      have htk := tSg_k (by assumption : tSg t L 40 s)
      refine zF_aload_n 54 dX12_compileFactor_53 rfl rfl ?_
      refine zF_callV 57 (d2 := (d + 11)) (as := []) dX12_compileFactor_54 rfl kX12_461 iX12_enter (ci := 12) rfl eX12_enter (Nat.le_refl _) hM.1 hM.2.1 rfl rfl (Nat.le_of_ble_eq_true rfl) (zE.mono (zt_X12_enter (σ := σ) (l := l) (k := k) hM hx hs h0 h27 k0 (by omega)) fun ro σa1 hh1 => ?_)
      obtain ⟨er1, fr1, p1⟩ := hh1
      subst er1
      refine ⟨fr1.1, ?_⟩
      show zF G mX12_compileFactor (d + 12) 57 [(0, zR hm)] [] σa1 _
      have hMa1 := zMo_f2 (σ := σ) fr1 hM
      have hxa1 := mTx_n (σ := σ) hM fr1 hx
      have hs1a : mTs σa1 hm t L (tAdv t L s) := mTs_to p1.1 (if_pos k6)
      have h1 : (tAdv t L s).2 = 0 := tAdv_2.trans h0
      have hcE : (tAdv t L s).2 = 0 → mCd σa1 hm A l ∧ l.length ≤ (tAdv t L s).1 := fun _ => ⟨p1.2.2 (hc h0).1, by have a1 := (tAdv_p (t := t) hs.1 h0 htk).1; have a2 := (hc h0).2; omega⟩
      refine zF_aload_n 58 dX12_compileFactor_57 rfl rfl ?_
      refine zF_getI 61 dX12_compileFactor_58 rfl gX12_363 (by decide) (by decide) hMa1.1 hMa1.2.1 hs1a.2.2.2.2.2.1 ?_
      refine zF_if_ne 68 64 dX12_compileFactor_61 rfl rfl (by first | decide | assumption | exact mBy_rg | (constructor <;> omega)) (fun c3 => ?_) (fun c3 => ?_)
      · exact absurd c3 (by first | assumption | omega)
      · refine zF_aload_n 65 dX12_compileFactor_64 rfl rfl ?_
        refine zF_callV 68 (d2 := (d + 11)) (as := []) dX12_compileFactor_65 rfl kX12_467 iX12_compileTest (ci := 12) rfl eX12_compileTest (Nat.le_refl _) hMa1.1 hMa1.2.1 rfl rfl (Nat.le_of_ble_eq_true rfl) (zE.mono (hT _ σa1 (tAdv t L s) l (by omega) hMa1 hxa1 hs1a (mNm_fr hnm fr1) hcE p1.2.1) fun ro σa2 hh2 => ?_)
        obtain ⟨er2, fr2, p2⟩ := hh2
        subst er2
        refine ⟨fr2.1, ?_⟩
        show zF G mX12_compileFactor (d + 12) 68 [(0, zR hm)] [] σa2 _
        have hMa2 := zMo_f2 (σ := σa1) fr2 hMa1
        have hxa2 := mTx_n (σ := σa1) hMa1 fr2 hxa1
        replace p2 : mTs σa2 hm t L (qTest t L F (tAdv t L s)).2 ∧ zia σa2 hm ((27 : Nat) : Int) = k + 1 ∧ ((qTest t L F (tAdv t L s)).2.2 = 0 → mCd σa2 hm A (l ++ (qTest t L F (tAdv t L s)).1)) := p2
        have bI := (qI_test hI) (tAdv t L s) (tAdv_p (t := t) hs.1 h0 htk).2
        have hlE : (qTest t L F (tAdv t L s)).2.2 = 0 → (l ++ (qTest t L F (tAdv t L s)).1).length < 200 := fun z => by have b9 := bI.2 z; have a1 := (tAdv_p (t := t) hs.1 h0 htk).1; have a2 := (hc h0).2; have b8 := bI.1; rw [List.length_append]; omega
        refine zF_aload_n 69 dX12_compileFactor_68 rfl rfl ?_
        refine zF_bipush 71 dX12_compileFactor_69 rfl (by decide) ?_
        refine zF_callV 74 (d2 := (d + 11)) (as := [zI 41]) dX12_compileFactor_71 rfl kX12_440 iX12_expect (ci := 12) rfl eX12_expect (Nat.le_refl _) hMa2.1 hMa2.2.1 rfl rfl (Nat.le_of_ble_eq_true rfl) (zE.mono (zt_X12_expect (σ := σa2) hMa2 hxa2 p2.1 (by decide) (by decide)) fun ro σa3 hh3 => ?_)
        obtain ⟨er3, fr3, p3⟩ := hh3
        subst er3
        refine ⟨fr3.1, ?_⟩
        show zF G mX12_compileFactor (d + 12) 74 [(0, zR hm)] [] σa3 _
        have hMa3 := zMo_f2 (σ := σa2) fr3 hMa2
        have hxa3 := mTx_t (σ := σa2) hMa2 hxa2 fr3
        have hs3a : mTs σa3 hm t L (tSgS t L 41 (qTest t L F (tAdv t L s)).2) := p3
        refine zF_aload_n 75 dX12_compileFactor_74 rfl rfl ?_
        refine zF_dup 76 dX12_compileFactor_75 rfl rfl ?_
        refine zF_getI 79 dX12_compileFactor_76 rfl gX12_366 (by decide) (by decide) hMa3.1 hMa3.2.1 (mPt_o fr3 (by omega) p2.2.1) ?_
        refine zF_iconst 80 dX12_compileFactor_79 rfl ?_
        refine zF_isub 81 dX12_compileFactor_80 rfl ?_
        refine zF_putI 84 dX12_compileFactor_81 rfl pX12_compileFactor_366 (Or.inl rfl) hMa3.1 hMa3.2.1 ?_
        refine zF_goto 160 dX12_compileFactor_84 rfl ?_
        exact zF_return dX12_compileFactor_160 rfl ((by
          have e : qFa t L F s = ((qTest t L F (tAdv t L s)).1, tSgS t L 41 (qTest t L F (tAdv t L s)).2) := (if_neg (by assumption)).trans (if_pos (by assumption))
          rw [e]
          exact ⟨rfl, (zFr_si (Or.inr ⟨rfl, rfl⟩) ((fr1.tr fr2).tr (mPt_n fr3))), (mTs_27 hs3a), ((zsi_same _ _ _ _).trans (by omega)), (fun z => mCd_27 hMa3 ((fun z => mCd_t (σ := σa2) hMa2 fr3 (p2.2.2 (tSgS_2 z))) z))⟩))
  · have h0 : s.2 = 0 := tWd_0 (by assumption : tWd t L (zsbi 27) s)
    have htk := tWd_k (by assumption : tWd t L (zsbi 27) s)
    refine zF_aload_n 11 dX12_compileFactor_10 rfl rfl ?_
    refine zF_callV 14 (d2 := (d + 11)) (as := []) dX12_compileFactor_11 rfl kX12_461 iX12_enter (ci := 12) rfl eX12_enter (Nat.le_refl _) hM.1 hM.2.1 rfl rfl (Nat.le_of_ble_eq_true rfl) (zE.mono (zt_X12_enter (σ := σ) (l := l) (k := k) hM hx hs h0 h27 k0 (by omega)) fun ro σa4 hh4 => ?_)
    obtain ⟨er4, fr4, p4⟩ := hh4
    subst er4
    refine ⟨fr4.1, ?_⟩
    show zF G mX12_compileFactor (d + 12) 14 [(0, zR hm)] [] σa4 _
    have hMa4 := zMo_f2 (σ := σ) fr4 hM
    have hxa4 := mTx_n (σ := σ) hM fr4 hx
    have hs4a : mTs σa4 hm t L (tAdv t L s) := mTs_to p4.1 (if_pos k6)
    have h1 : (tAdv t L s).2 = 0 := tAdv_2.trans h0
    have hcE : (tAdv t L s).2 = 0 → mCd σa4 hm A l ∧ l.length ≤ (tAdv t L s).1 := fun _ => ⟨p4.2.2 (hc h0).1, by have a1 := (tAdv_p (t := t) hs.1 h0 htk).1; have a2 := (hc h0).2; omega⟩
    refine zF_aload_n 15 dX12_compileFactor_14 rfl rfl ?_
    refine zF_getI 18 dX12_compileFactor_15 rfl gX12_363 (by decide) (by decide) hMa4.1 hMa4.2.1 hs4a.2.2.2.2.2.1 ?_
    refine zF_if_ne 25 21 dX12_compileFactor_18 rfl rfl (by first | decide | assumption | exact mBy_rg | (constructor <;> omega)) (fun c4 => ?_) (fun c4 => ?_)
    · exact absurd c4 (by first | assumption | omega)
    · refine zF_aload_n 22 dX12_compileFactor_21 rfl rfl ?_
      refine zF_callV 25 (d2 := (d + 11)) (as := []) dX12_compileFactor_22 rfl kX12_464 iX12_compileFactor (ci := 12) rfl eX12_compileFactor (Nat.le_refl _) hMa4.1 hMa4.2.1 rfl rfl (Nat.le_of_ble_eq_true rfl) (zE.mono (hF _ σa4 (tAdv t L s) l (by omega) hMa4 hxa4 hs4a (mNm_fr hnm fr4) hcE p4.2.1) fun ro σa5 hh5 => ?_)
      obtain ⟨er5, fr5, p5⟩ := hh5
      subst er5
      refine ⟨fr5.1, ?_⟩
      show zF G mX12_compileFactor (d + 12) 25 [(0, zR hm)] [] σa5 _
      have hMa5 := zMo_f2 (σ := σa4) fr5 hMa4
      have hxa5 := mTx_n (σ := σa4) hMa4 fr5 hxa4
      replace p5 : mTs σa5 hm t L (F (tAdv t L s)).2 ∧ zia σa5 hm ((27 : Nat) : Int) = k + 1 ∧ ((F (tAdv t L s)).2.2 = 0 → mCd σa5 hm A (l ++ (F (tAdv t L s)).1)) := p5
      have bI := hI (tAdv t L s) (tAdv_p (t := t) hs.1 h0 htk).2
      have hlE : (F (tAdv t L s)).2.2 = 0 → (l ++ (F (tAdv t L s)).1).length < 200 := fun z => by have b9 := bI.2 z; have a1 := (tAdv_p (t := t) hs.1 h0 htk).1; have a2 := (hc h0).2; have b8 := bI.1; rw [List.length_append]; omega
      refine zF_aload_n 26 dX12_compileFactor_25 rfl rfl ?_
      refine zF_bipush 28 dX12_compileFactor_26 rfl (by decide) ?_
      refine zF_callV 31 (d2 := (d + 11)) (as := [zI (-23)]) dX12_compileFactor_28 rfl kX12_456 iX12_emit (ci := 12) rfl eX12_emit (Nat.le_refl _) hMa5.1 hMa5.2.1 rfl rfl (Nat.le_of_ble_eq_true rfl) (zE.mono (zt_X12_emit (σ := σa5) hMa5 p5.1 p5.2.2 hlE (by decide)) fun ro σa6 hh6 => ?_)
      obtain ⟨er6, fr6, p6⟩ := hh6
      subst er6
      refine ⟨fr6.1, ?_⟩
      show zF G mX12_compileFactor (d + 12) 31 [(0, zR hm)] [] σa6 _
      have hMa6 := zMo_f2 (σ := σa5) fr6 hMa5
      refine zF_aload_n 32 dX12_compileFactor_31 rfl rfl ?_
      refine zF_dup 33 dX12_compileFactor_32 rfl rfl ?_
      refine zF_getI 36 dX12_compileFactor_33 rfl gX12_366 (by decide) (by decide) hMa6.1 hMa6.2.1 (mPe_27 (σ := σa5) hMa5 fr6 p5.2.1) ?_
      refine zF_iconst 37 dX12_compileFactor_36 rfl ?_
      refine zF_isub 38 dX12_compileFactor_37 rfl ?_
      refine zF_putI 41 dX12_compileFactor_38 rfl pX12_compileFactor_366 (Or.inl rfl) hMa6.1 hMa6.2.1 ?_
      refine zF_goto 160 dX12_compileFactor_41 rfl ?_
      exact zF_return dX12_compileFactor_160 rfl ((by
        have e : qFa t L F s = ((F (tAdv t L s)).1 ++ [-23], (F (tAdv t L s)).2) := if_pos (by assumption)
        rw [e]
        exact ⟨rfl, (zFr_si (Or.inr ⟨rfl, rfl⟩) ((fr4.tr fr5).tr (mPc_n (mPe_c fr6)))), (mTs_27 (mTs_e (σ := σa5) hMa5 fr6 p5.1)), ((zsi_same _ _ _ _).trans (by omega)), fun z => by rw [← List.append_assoc]; exact (fun z => mCd_27 hMa6 (p6 z)) z⟩))
theorem zq_fac (hG : zOS G) (hL2 : L ≤ 200) : ∀ n : Nat, n ≤ 6 → qFS G mX12_compileFactor (9 + 3 * n) hm A t L (qFac t L n) (6 - (n : Int)) := fun n => by
  induction n with
  | zero => intro _; exact zq_fac0 hG hL2
  | succ n ih =>
    intro h
    have a := ih (by omega)
    rw [show (6 : Int) - (n : Int) = (6 - ((n + 1 : Nat) : Int)) + 1 by push_cast; omega] at a
    exact zq_facS (K := 9 + 3 * n) hG hL2 (by omega) (by omega) (by omega) (qI_fac n) a
/-- a whole test -/
theorem zq_all (hG : zOS G) (hL2 : L ≤ 200) : qFS G mX12_compileTest 29 hm A t L (qTest t L (qFac t L 6)) 0 := zq_test hG (qI_conj (qI_fac 6)) hL2 (by decide) (zq_conj hG (qI_fac 6) hL2 (by decide) (zq_fac hG hL2 6 (by decide)))
end ZMX

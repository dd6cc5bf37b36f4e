/-! the reference: its line -/
section ZMF
variable {G : zG} {d : Nat} {σ σ0 : zMem} {hm : Nat} {A : Nat → Nat} {N : Int → Int} {l : List Int}
def mPw (hm : Nat) (A : Nat → Nat) (h : Nat) (j : Int) : Prop := (h = hm ∧ j = 17) ∨ h = A 16
/-- what the line's writing may change -/
def mFm (hm : Nat) (A : Nat → Nat) (h : Nat) (j : Int) : Prop := mPw hm A h j ∨ mSc hm A h j
/-- the line written so far -/
def mWr (σ : zMem) (hm : Nat) (A : Nat → Nat) (l : List Int) : Prop := zia σ hm ((17 : Nat) : Int) = (l.length : Int) ∧ ∀ j : Nat, j < l.length → zia σ (A 16) j = l.getD j 0
theorem mPw_N {σ1 : zMem} (hM : zMo σ hm A) (f : zFr (mPw hm A) σ σ1) {k : Nat} (hk : k ∈ zmf.map (·.1)) (k16 : k ≠ 16) {f0 : Int → Int} (e : zia σ (A k) = f0) : zia σ1 (A k) = f0 := (f.at fun j q => q.elim (fun q => zMo_hm1 hM hk zMo_h1 q.1) (zMo_ne hM hk (by decide) k16)).trans e
theorem mPw_F {σ1 : zMem} (hM : zMo σ hm A) (f : zFr (mPw hm A) σ σ1) {k v : Int} (hk : k ≠ 17) (e : zia σ hm k = v) : zia σ1 hm k = v := (f.2.2.2.2.2 _ _ fun q => q.elim (fun q => hk q.2) (fun q => zMo_hm1 hM (k := 16) (by decide) zMo_h1 q.symm)).trans e
theorem mPw_fm {σ1 : zMem} (f : zFr (mPw hm A) σ σ1) : zFr (mFm hm A) σ σ1 := f.wk fun _ _ q => Or.inl q
theorem mSc_fm {σ1 : zMem} (f : zFr (mSc hm A) σ σ1) : zFr (mFm hm A) σ σ1 := f.wk fun _ _ q => Or.inr q
theorem mWr_put {n c : Int} (hM : zMo σ hm A) (h : mWr σ hm A l) (e : n = (l.length : Int)) : mWr (zsi (zsi σ (A 16) n c) hm ((17 : Nat) : Int) (n + 1)) hm A (l ++ [c]) := by
  subst e
  have ne := zMo_hm1 hM (k := 16) (by decide) zMo_h1
  refine ⟨by rw [zia_si, if_pos ⟨rfl, rfl⟩, List.length_append]; push_cast; rfl, fun j hj => ?_⟩
  rw [List.length_append] at hj
  have hj1 : j < l.length + 1 := hj
  rw [zia_si, if_neg (fun q => ne q.1), zia_si]
  by_cases q : j = l.length
  · rw [if_pos ⟨rfl, by omega⟩, q]
    simp [List.getD_eq_getElem?_getD]
  · rw [if_neg (fun z => q (by omega)), h.2 j (by omega)]
    simp [List.getD_eq_getElem?_getD, List.getElem?_append_left (show j < l.length by omega)]
theorem mWr_0 {σ1 : zMem} (h : zia σ1 hm ((17 : Nat) : Int) = 0) : mWr σ1 hm A [] := ⟨h, fun j hj => absurd hj (Nat.not_lt_zero _)⟩
theorem mSh_48 {v : Int} : 48 + v = 48 + v := rfl
theorem mFm_N {σ1 : zMem} (hM : zMo σ hm A) (f : zFr (mFm hm A) σ σ1) (hN : zia σ (A 0) = N) : zia σ1 (A 0) = N := by
  refine (f.at fun j q => ?_).trans hN
  have h0 := zMo_hm1 hM (k := 0) (by decide) zMo_h1
  have h1 : ∀ k, k ∈ zmf.map (·.1) → k ≠ 0 → A 0 ≠ A k := fun k hk k0 => zMo_ne hM (j := 0) (k := k) (by decide) hk (Ne.symm k0)
  rcases q with q | q
  · rcases q with q | q
    · exact h0 q.1
    · exact h1 16 (by decide) (by decide) q
  · rcases q with q | q | q | q | q | q | q | q
    · exact h0 q.1
    · exact h1 7 (by decide) (by decide) q
    · exact h1 8 (by decide) (by decide) q
    · exact h1 9 (by decide) (by decide) q
    · exact h1 10 (by decide) (by decide) q
    · exact h1 11 (by decide) (by decide) q
    · exact h1 14 (by decide) (by decide) q
    · exact h1 15 (by decide) (by decide) q
theorem zsb_take {i k : Nat} (h : k < zsl i) : (zsbi i).take (k + 1) = (zsbi i).take k ++ [zsc i k] := by
  have h' : k < (zsbi i).length := h
  rw [List.take_add_one]
  congr 1
  unfold zsc
  rw [List.getD_eq_getElem?_getD, List.getElem?_eq_getElem h']
  rfl
theorem zsb_all {i : Nat} : (zsbi i).take (zsl i) = zsbi i := List.take_length
theorem mWr_tk {i y : Nat} (h : y < zsl i) (hw : mWr σ hm A (l ++ (zsbi i).take y ++ [zsc i y])) : mWr σ hm A (l ++ (zsbi i).take (y + 1)) := by
  rw [zsb_take h, ← List.append_assoc]; exact hw
theorem mWr_t0 {i : Nat} (hw : mWr σ hm A l) : mWr σ hm A (l ++ (zsbi i).take 0) := by
  rw [List.take_zero, List.append_nil]; exact hw
theorem mWr_dy {s c : Int} {x : Nat} (e : (if mSh N s x = -1 then 45 else 48 + mSh N s x) = c) (hw : mWr σ hm A (fmD N s x ++ [32] ++ [c])) : mWr σ hm A (fmD N s (x + 1)) := by
  subst e; exact hw
theorem mWr_d7 {s : Int} {x : Nat} (e : x = 7) (hw : mWr σ hm A (fmD N s x)) : mWr σ hm A (fmD N s 7) := by
  subst e; exact hw
theorem mWr_h39 {s : Int} {y : Nat} (e : y = zsl 39) (h : ¬ mS N s 7 = 0) (hw : mWr σ hm A (fmD N s 7 ++ (zsbi 39).take y)) : mWr σ hm A (fmL N s) ∧ ((fmD N s 7 ++ (zsbi 39).take y).length : Int) = ((fmL N s).length : Int) := by
  have q : fmL N s = fmD N s 7 ++ (zsbi 39).take y := by rw [e, zsb_all]; exact if_neg h
  rw [q]; exact ⟨hw, rfl⟩
theorem mWr_h40 {s : Int} {y : Nat} (e : y = zsl 40) (h : mS N s 7 = 0) (hw : mWr σ hm A (fmD N s 7 ++ (zsbi 40).take y)) : mWr σ hm A (fmL N s) ∧ ((fmD N s 7 ++ (zsbi 40).take y).length : Int) = ((fmL N s).length : Int) := by
  have q : fmL N s = fmD N s 7 ++ (zsbi 40).take y := by rw [e, zsb_all]; exact (if_pos h).trans (List.append_nil _).symm
  rw [q]; exact ⟨hw, rfl⟩
theorem zt_X12_write {c : Int} (hM : zMo σ hm A) (hw : mWr σ hm A l) (hl : l.length < 40) (zc : zrg c) : zE G mX12_write d [zR hm, zI c] σ (fun ro σ1 => ro = .inl none ∧ zFr (mPw hm A) σ σ1 ∧ mWr σ1 hm A (l ++ [c])) := by
  refine zE_of rfl (by simp [zcat]) (Nat.le_of_ble_eq_true rfl) ?_
  show zF G mX12_write d 0 [(0, zR hm), (1, zI c)] [] σ _
  refine zF_aload_n 1 dX12_write_0 rfl rfl ?_
  refine zF_getR 4 dX12_write_1 rfl gX12_44 hM.1 hM.2.1 (zM_16 hM).1 ?_
  refine zF_aload_n 5 dX12_write_4 rfl rfl ?_
  refine zF_getI 8 dX12_write_5 rfl gX12_311 (by decide) (by decide) hM.1 hM.2.1 hw.1 ?_
  refine zF_iload_n 9 dX12_write_8 rfl rfl ?_
  refine zF_iastore 10 dX12_write_9 rfl (zM_16 hM).2.2 (zM_16 hM).2.1 (by omega) (by omega) ?_
  refine zF_aload_n 11 dX12_write_10 rfl rfl ?_
  refine zF_dup 12 dX12_write_11 rfl rfl ?_
  refine zF_getI 15 dX12_write_12 rfl gX12_311 (by decide) (by decide) hM.1 hM.2.1 (zMo_AF (j := 16) hw.1 hM (by decide) zMo_h1) ?_
  refine zF_iconst 16 dX12_write_15 rfl ?_
  refine zF_iadd 17 dX12_write_16 rfl ?_
  refine zF_putI 20 dX12_write_17 rfl pX12_write_311 (Or.inl rfl) hM.1 hM.2.1 ?_
  exact zF_return dX12_write_20 rfl (⟨rfl, zFr_si (Or.inl ⟨rfl, rfl⟩) (zFr_si (Or.inr rfl) zFr.rf), mWr_put hM hw rfl⟩)
theorem zt_X12_format {s : Int} (hG1 : zOS G) (hM : zMo σ hm A) (hN : zia σ (A 0) = N) (hV : mV N) (hX : mX N) (zs : zrg s) (h7 : mS N s 7 = 0 ∨ mS N s 7 = 1) : zE G mX12_format (d + 12) [zR hm, zI s] σ (fun ro σ1 => ∃ x, ro = .inl (some (zI x)) ∧ zFr (mFm hm A) σ σ1 ∧ if 0 ≤ s ∧ s < N 1 then zia σ1 hm ((5 : Nat) : Int) = 0 ∧ x = ((fmL N s).length : Int) ∧ mWr σ1 hm A (fmL N s) else zFr (mSc hm A) σ σ1 ∧ zia σ1 hm ((5 : Nat) : Int) = 1) := by
  refine zE_of rfl (by simp [zcat]) (Nat.le_of_ble_eq_true rfl) ?_
  show zF G mX12_format (d + 12) 0 [(0, zR hm), (1, zI s)] [] σ _
  have hb := hV.b
  have hn := hV.n
  refine zF_aload_n 1 dX12_format_0 rfl rfl ?_
  refine zF_iconst 2 dX12_format_1 rfl ?_
  refine zF_putI 5 dX12_format_2 rfl pX12_format_89 (Or.inl rfl) hM.1 hM.2.1 ?_
  refine zF_aload_n 6 dX12_format_5 rfl rfl ?_
  refine zF_iload_n 7 dX12_format_6 rfl rfl ?_
  refine zF_callVi 10 (d2 := (d + 11)) (as := [zI s]) dX12_format_7 rfl kX12_256 iX12_isScreen (ci := 12) rfl eX12_isScreen (Nat.le_refl _) hM.1 hM.2.1 rfl rfl (Nat.le_of_ble_eq_true rfl) (zn_X12_isScreen hM (zMo_hN (k := 0) hN hM (by decide) zMo_h1) (by first | decide | assumption | exact hb _ | exact mSh_rg hb _ _ | exact zb_rg _ | (constructor <;> omega)) (by omega) (by omega)) ?_
  refine zF_ifb_ne 19 13 dX12_format_10 rfl rfl (fun c1 => ?_) (fun c1 => ?_)
  · refine zF_aload_n 20 dX12_format_19 rfl rfl ?_
    refine zF_iconst 21 dX12_format_20 rfl ?_
    refine zF_putI 24 dX12_format_21 rfl pX12_format_311 (Or.inl rfl) hM.1 hM.2.1 ?_
    refine zF_aload_n 25 dX12_format_24 rfl rfl ?_
    refine zF_bipush 27 dX12_format_25 rfl (by decide) ?_
    refine zF_callV 30 (d2 := (d + 11)) (as := [zI 115]) dX12_format_27 rfl kX12_314 iX12_write (ci := 12) rfl eX12_write (Nat.le_refl _) hM.1 hM.2.1 rfl rfl (Nat.le_of_ble_eq_true rfl) (zE.mono (zt_X12_write (l := ([] : List Int)) hM (mWr_0 (zsi_same _ _ _ _)) (by first | omega | (simp only [List.length_append, List.length_cons, List.length_nil, List.length_take, fmD_len]; omega)) (by first | decide | assumption | exact hb _ | exact mSh_rg hb _ _ | exact zb_rg _ | (constructor <;> omega))) fun ro σa1 hh1 => ?_)
    obtain ⟨er1, fr1, p1⟩ := hh1
    subst er1
    refine ⟨fr1.1, ?_⟩
    show zF G mX12_format (d + 12) 30 [(0, zR hm), (1, zI s)] [] σa1 _
    have hMa1 := zMo_f2 fr1 hM
    have hNa1 : zia σa1 (A 0) = N := mPw_N (σ := (zsi (zsi σ hm ((5 : Nat) : Int) 0) hm ((17 : Nat) : Int) 0)) hM fr1 (by decide) (by decide) (zMo_hN (k := 0) (zMo_hN (k := 0) hN hM (by decide) zMo_h1) hM (by decide) zMo_h1)
    refine zF_aload_n 31 dX12_format_30 rfl rfl ?_
    refine zF_bipush 33 dX12_format_31 rfl (by decide) ?_
    refine zF_iload_n 34 dX12_format_33 rfl rfl ?_
    refine zF_iadd 35 dX12_format_34 rfl ?_
    refine zF_callV 38 (d2 := (d + 11)) (as := [zI (48 + s)]) dX12_format_35 rfl kX12_314 iX12_write (ci := 12) rfl eX12_write (Nat.le_refl _) hMa1.1 hMa1.2.1 rfl rfl (Nat.le_of_ble_eq_true rfl) (zE.mono (zt_X12_write (l := (([] : List Int) ++ [115])) hMa1 p1 (by first | omega | (simp only [List.length_append, List.length_cons, List.length_nil, List.length_take, fmD_len]; omega)) (by first | decide | assumption | exact hb _ | exact mSh_rg hb _ _ | exact zb_rg _ | (constructor <;> omega))) fun ro σa2 hh2 => ?_)
    obtain ⟨er2, fr2, p2⟩ := hh2
    subst er2
    refine ⟨fr2.1, ?_⟩
    show zF G mX12_format (d + 12) 38 [(0, zR hm), (1, zI s)] [] σa2 _
    have hMa2 := zMo_f2 fr2 hMa1
    have hNa2 : zia σa2 (A 0) = N := mPw_N (σ := σa1) hMa1 fr2 (by decide) (by decide) hNa1
    refine zF_aload_n 39 dX12_format_38 rfl rfl ?_
    refine zF_bipush 41 dX12_format_39 rfl (by decide) ?_
    refine zF_callV 44 (d2 := (d + 11)) (as := [zI 58]) dX12_format_41 rfl kX12_314 iX12_write (ci := 12) rfl eX12_write (Nat.le_refl _) hMa2.1 hMa2.2.1 rfl rfl (Nat.le_of_ble_eq_true rfl) (zE.mono (zt_X12_write (l := ((([] : List Int) ++ [115]) ++ [(48 + s)])) hMa2 p2 (by first | omega | (simp only [List.length_append, List.length_cons, List.length_nil, List.length_take, fmD_len]; omega)) (by first | decide | assumption | exact hb _ | exact mSh_rg hb _ _ | exact zb_rg _ | (constructor <;> omega))) fun ro σa3 hh3 => ?_)
    obtain ⟨er3, fr3, p3⟩ := hh3
    subst er3
    refine ⟨fr3.1, ?_⟩
    show zF G mX12_format (d + 12) 44 [(0, zR hm), (1, zI s)] [] σa3 _
    have hMa3 := zMo_f2 fr3 hMa2
    have hNa3 : zia σa3 (A 0) = N := mPw_N (σ := σa2) hMa2 fr3 (by decide) (by decide) hNa2
    refine zF_iconst 45 dX12_format_44 rfl ?_
    refine zF_istore_n 46 (ls' := [(2, zI 0), (0, zR hm), (1, zI s)]) dX12_format_45 rfl (by decide) rfl ?_
    refine zF_locs (ls' := [(2, zI ((0 : Nat) : Int)), (0, zR hm), (1, zI s)]) ⟨zlI rfl (by first | rfl | omega | (push_cast; omega) | exact congrArg (_ + ·) (zbT (by assumption)) | exact congrArg (_ + ·) (zbF (by assumption)) | exact congrArg (_ + ·) (zbT (by omega)) | exact congrArg (_ + ·) (zbF (by omega)) | exact congrArg (_ + ·) (if_pos (by omega)).symm | exact congrArg (_ + ·) (if_neg (by omega)).symm | exact (if_pos (by omega)).symm | exact (if_neg (by omega)).symm | exact zsub_s (if_pos (by omega)).symm | exact zsub_s0 (if_neg (by omega)).symm | exact zadd0 (if_neg (by omega)).symm | exact zadd0 (zbF (by omega)) | exact (Int.sub_zero _).symm), rfl, rfl, trivial⟩ ?_
    refine zF_while (X := Nat) (fun x => 7 - x) (fun x σ2 => x ≤ 7 ∧ zFr (mFm hm A) σ σ2 ∧ zia σ2 hm ((5 : Nat) : Int) = 0 ∧ mWr σ2 hm A (fmD N s x)) (fun x => [(2, zI ((x : Nat) : Int)), (0, zR hm), (1, zI s)]) ?_ 0 σa3 (⟨by omega, (((((((zFr_si (Or.inl (Or.inl ⟨rfl, rfl⟩)) (zFr_si (Or.inr (Or.inl ⟨rfl, by decide⟩)) zFr.rf))).tr (mPw_fm fr1))).tr (mPw_fm fr2))).tr (mPw_fm fr3)), (mPw_F (σ := σa2) hMa2 fr3 (by decide) (mPw_F (σ := σa1) hMa1 fr2 (by decide) (mPw_F (σ := (zsi (zsi σ hm ((5 : Nat) : Int) 0) hm ((17 : Nat) : Int) 0)) hM fr1 (by decide) (zsi_F (by decide) (zsi_same _ _ _ _))))), p3⟩)
    intro x σ2 hI46 ih46
    show zF G mX12_format (d + 12) 46 [(2, zI ((x : Nat) : Int)), (0, zR hm), (1, zI s)] [] σ2 _
    obtain ⟨hx, f2, h52, hw2⟩ := hI46
    have hM2 := zMo_f2 f2 hM
    have hN2 := mFm_N hM f2 hN
    refine zF_iload_n 47 dX12_format_46 rfl rfl ?_
    refine zF_bipush 49 dX12_format_47 rfl (by decide) ?_
    refine zF_icmp_ge 89 52 dX12_format_49 rfl rfl (by first | decide | assumption | exact hb _ | exact mSh_rg hb _ _ | exact zb_rg _ | (constructor <;> omega)) (by first | decide | assumption | exact hb _ | exact mSh_rg hb _ _ | exact zb_rg _ | (constructor <;> omega)) (fun c2 => ?_) (fun c2 => ?_)
    · refine zF_aload_n 90 dX12_format_89 rfl rfl ?_
      refine zF_iload_n 91 dX12_format_90 rfl rfl ?_
      refine zF_callVi 94 (d2 := (d + 11)) (as := [zI s]) dX12_format_91 rfl kX12_208 iX12_isHeld (ci := 12) rfl eX12_isHeld (Nat.le_refl _) hM2.1 hM2.2.1 rfl rfl (Nat.le_of_ble_eq_true rfl) (zn_X12_isHeld hM2 hN2 hb (by omega) (by omega)) ?_
      refine zF_ifb_eq 103 97 dX12_format_94 rfl rfl (fun c3 => ?_) (fun c3 => ?_)
      · have hx7 : x = 7 := by omega
        have zl : zsl 40 = 0 := rfl
        refine zF_ldcSW 106 (i := 40) dX12_format_103 rfl rfl ?_
        refine zF_astore_n 107 (ls' := [(2, zR (zbg + 40)), (0, zR hm), (1, zI s)]) dX12_format_106 rfl (by decide) rfl ?_
        refine zF_iconst 108 dX12_format_107 rfl ?_
        refine zF_istore_n 109 (ls' := [(3, zI 0), (2, zR (zbg + 40)), (0, zR hm), (1, zI s)]) dX12_format_108 rfl (by decide) rfl ?_
        refine zF_locs (ls' := [(3, zI ((0 : Nat) : Int)), (2, zR (zbg + 40)), (0, zR hm), (1, zI s)]) ⟨zlI rfl (by first | rfl | omega | (push_cast; omega) | exact congrArg (_ + ·) (zbT (by assumption)) | exact congrArg (_ + ·) (zbF (by assumption)) | exact congrArg (_ + ·) (zbT (by omega)) | exact congrArg (_ + ·) (zbF (by omega)) | exact congrArg (_ + ·) (if_pos (by omega)).symm | exact congrArg (_ + ·) (if_neg (by omega)).symm | exact (if_pos (by omega)).symm | exact (if_neg (by omega)).symm | exact zsub_s (if_pos (by omega)).symm | exact zsub_s0 (if_neg (by omega)).symm | exact zadd0 (if_neg (by omega)).symm | exact zadd0 (zbF (by omega)) | exact (Int.sub_zero _).symm), rfl, rfl, rfl, trivial⟩ ?_
        refine zF_while (X := Nat) (fun x => zsl 40 - x) (fun x σ3 => x ≤ zsl 40 ∧ zFr (mFm hm A) σ σ3 ∧ zia σ3 hm ((5 : Nat) : Int) = 0 ∧ mWr σ3 hm A (fmD N s 7 ++ (zsbi 40).take x)) (fun x => [(3, zI ((x : Nat) : Int)), (2, zR (zbg + 40)), (0, zR hm), (1, zI s)]) ?_ 0 σ2 (⟨Nat.zero_le _, f2, h52, mWr_t0 (mWr_d7 hx7 hw2)⟩)
        intro y σ3 hI109 ih109
        show zF G mX12_format (d + 12) 109 [(3, zI ((y : Nat) : Int)), (2, zR (zbg + 40)), (0, zR hm), (1, zI s)] [] σ3 _
        obtain ⟨hy, f3, h53, hw3⟩ := hI109
        have hM3 := zMo_f2 f3 hM
        have hN3 := mFm_N hM f3 hN
        refine zF_iload_n 110 dX12_format_109 rfl rfl ?_
        refine zF_aload_n 111 dX12_format_110 rfl rfl ?_
        refine zF_callOi 114 (d2 := (d + 11)) (as := []) dX12_format_111 rfl kX12_321 iJ0_length_8abf5 (hG1.1 40 (by decide)).1 eJ0_length_8abf5 (Nat.le_refl _) rfl rfl (Nat.le_of_ble_eq_true rfl) (zt_J0_length (i := 40) hG1 (by decide)) ?_
        refine zF_icmp_ge 132 117 dX12_format_114 rfl rfl (by first | decide | assumption | exact hb _ | exact mSh_rg hb _ _ | exact zb_rg _ | (constructor <;> omega)) (by first | decide | assumption | exact hb _ | exact mSh_rg hb _ _ | exact zb_rg _ | (constructor <;> omega)) (fun c4 => ?_) (fun c4 => ?_)
        · refine zF_aload_n 133 dX12_format_132 rfl rfl ?_
          refine zF_getI 136 dX12_format_133 rfl gX12_311 (by decide) (by decide) hM3.1 hM3.2.1 hw3.1 ?_
          exact zF_ireturn dX12_format_136 rfl ((by
    have q := mWr_h40 (by omega) (by omega) hw3
    exact ⟨_, rfl, f3, by rw [if_pos (by omega)]; exact ⟨h53, q.2, q.1⟩⟩))
        · refine zF_aload_n 118 dX12_format_117 rfl rfl ?_
          refine zF_aload_n 119 dX12_format_118 rfl rfl ?_
          refine zF_iload_n 120 dX12_format_119 rfl rfl ?_
          refine zF_callOi 123 (d2 := (d + 11)) (as := [zI ((y : Nat) : Int)]) dX12_format_120 rfl kX12_324 iJ0_charAt_5068e (hG1.1 40 (by decide)).1 eJ0_charAt_5068e (Nat.le_refl _) rfl rfl (Nat.le_of_ble_eq_true rfl) (zt_J0_charAt (i := 40) hG1 (by decide) (k := y) (by omega)) ?_
          have zq := zsc_b 40 (by decide) y (by omega)
          refine zF_callV 126 (d2 := (d + 11)) (as := [zI (zsc 40 y)]) dX12_format_123 rfl kX12_314 iX12_write (ci := 12) rfl eX12_write (Nat.le_refl _) hM3.1 hM3.2.1 rfl rfl (Nat.le_of_ble_eq_true rfl) (zE.mono (zt_X12_write (l := (fmD N s 7 ++ (zsbi 40).take y)) hM3 hw3 (by first | omega | (simp only [List.length_append, List.length_cons, List.length_nil, List.length_take, fmD_len]; omega)) (by first | decide | assumption | exact hb _ | exact mSh_rg hb _ _ | exact zb_rg _ | (constructor <;> omega))) fun ro σa4 hh4 => ?_)
          obtain ⟨er4, fr4, p4⟩ := hh4
          subst er4
          refine ⟨fr4.1, ?_⟩
          show zF G mX12_format (d + 12) 126 [(3, zI ((y : Nat) : Int)), (2, zR (zbg + 40)), (0, zR hm), (1, zI s)] [] σa4 _
          have hMa4 := zMo_f2 fr4 hM3
          have hNa4 : zia σa4 (A 0) = N := mPw_N (σ := σ3) hM3 fr4 (by decide) (by decide) hN3
          refine zF_iinc 129 (ls' := [(3, zI (((y : Nat) : Int) + 1)), (2, zR (zbg + 40)), (0, zR hm), (1, zI s)]) dX12_format_126 rfl rfl rfl (by decide) rfl ?_
          refine zF_goto 109 dX12_format_129 rfl ?_
          exact zF_locs (ls' := [(3, zI (((y + 1) : Nat) : Int)), (2, zR (zbg + 40)), (0, zR hm), (1, zI s)]) ⟨zlI rfl (by first | rfl | omega | (push_cast; omega) | exact congrArg (_ + ·) (zbT (by assumption)) | exact congrArg (_ + ·) (zbF (by assumption)) | exact congrArg (_ + ·) (zbT (by omega)) | exact congrArg (_ + ·) (zbF (by omega)) | exact congrArg (_ + ·) (if_pos (by omega)).symm | exact congrArg (_ + ·) (if_neg (by omega)).symm | exact (if_pos (by omega)).symm | exact (if_neg (by omega)).symm | exact zsub_s (if_pos (by omega)).symm | exact zsub_s0 (if_neg (by omega)).symm | exact zadd0 (if_neg (by omega)).symm | exact zadd0 (zbF (by omega)) | exact (Int.sub_zero _).symm), rfl, rfl, rfl, trivial⟩ (ih109 (y + 1) _ (by omega) (⟨by omega, ((f3).tr (mPw_fm fr4)), (mPw_F (σ := σ3) hM3 fr4 (by decide) h53), mWr_tk (by omega) p4⟩))
      · have hx7 : x = 7 := by omega
        have zl : zsl 39 = 5 := rfl
        refine zF_ldcSW 100 (i := 39) dX12_format_97 rfl rfl ?_
        refine zF_goto 106 dX12_format_100 rfl ?_
        refine zF_astore_n 107 (ls' := [(2, zR (zbg + 39)), (0, zR hm), (1, zI s)]) dX12_format_106 rfl (by decide) rfl ?_
        refine zF_iconst 108 dX12_format_107 rfl ?_
        refine zF_istore_n 109 (ls' := [(3, zI 0), (2, zR (zbg + 39)), (0, zR hm), (1, zI s)]) dX12_format_108 rfl (by decide) rfl ?_
        refine zF_locs (ls' := [(3, zI ((0 : Nat) : Int)), (2, zR (zbg + 39)), (0, zR hm), (1, zI s)]) ⟨zlI rfl (by first | rfl | omega | (push_cast; omega) | exact congrArg (_ + ·) (zbT (by assumption)) | exact congrArg (_ + ·) (zbF (by assumption)) | exact congrArg (_ + ·) (zbT (by omega)) | exact congrArg (_ + ·) (zbF (by omega)) | exact congrArg (_ + ·) (if_pos (by omega)).symm | exact congrArg (_ + ·) (if_neg (by omega)).symm | exact (if_pos (by omega)).symm | exact (if_neg (by omega)).symm | exact zsub_s (if_pos (by omega)).symm | exact zsub_s0 (if_neg (by omega)).symm | exact zadd0 (if_neg (by omega)).symm | exact zadd0 (zbF (by omega)) | exact (Int.sub_zero _).symm), rfl, rfl, rfl, trivial⟩ ?_
        refine zF_while (X := Nat) (fun x => zsl 39 - x) (fun x σ3 => x ≤ zsl 39 ∧ zFr (mFm hm A) σ σ3 ∧ zia σ3 hm ((5 : Nat) : Int) = 0 ∧ mWr σ3 hm A (fmD N s 7 ++ (zsbi 39).take x)) (fun x => [(3, zI ((x : Nat) : Int)), (2, zR (zbg + 39)), (0, zR hm), (1, zI s)]) ?_ 0 σ2 (⟨Nat.zero_le _, f2, h52, mWr_t0 (mWr_d7 hx7 hw2)⟩)
        intro y σ3 hI109 ih109
        show zF G mX12_format (d + 12) 109 [(3, zI ((y : Nat) : Int)), (2, zR (zbg + 39)), (0, zR hm), (1, zI s)] [] σ3 _
        obtain ⟨hy, f3, h53, hw3⟩ := hI109
        have hM3 := zMo_f2 f3 hM
        have hN3 := mFm_N hM f3 hN
        refine zF_iload_n 110 dX12_format_109 rfl rfl ?_
        refine zF_aload_n 111 dX12_format_110 rfl rfl ?_
        refine zF_callOi 114 (d2 := (d + 11)) (as := []) dX12_format_111 rfl kX12_321 iJ0_length_8abf5 (hG1.1 39 (by decide)).1 eJ0_length_8abf5 (Nat.le_refl _) rfl rfl (Nat.le_of_ble_eq_true rfl) (zt_J0_length (i := 39) hG1 (by decide)) ?_
        refine zF_icmp_ge 132 117 dX12_format_114 rfl rfl (by first | decide | assumption | exact hb _ | exact mSh_rg hb _ _ | exact zb_rg _ | (constructor <;> omega)) (by first | decide | assumption | exact hb _ | exact mSh_rg hb _ _ | exact zb_rg _ | (constructor <;> omega)) (fun c5 => ?_) (fun c5 => ?_)
        · refine zF_aload_n 133 dX12_format_132 rfl rfl ?_
          refine zF_getI 136 dX12_format_133 rfl gX12_311 (by decide) (by decide) hM3.1 hM3.2.1 hw3.1 ?_
          exact zF_ireturn dX12_format_136 rfl ((by
    have q := mWr_h39 (by omega) (by omega) hw3
    exact ⟨_, rfl, f3, by rw [if_pos (by omega)]; exact ⟨h53, q.2, q.1⟩⟩))
        · refine zF_aload_n 118 dX12_format_117 rfl rfl ?_
          refine zF_aload_n 119 dX12_format_118 rfl rfl ?_
          refine zF_iload_n 120 dX12_format_119 rfl rfl ?_
          refine zF_callOi 123 (d2 := (d + 11)) (as := [zI ((y : Nat) : Int)]) dX12_format_120 rfl kX12_324 iJ0_charAt_5068e (hG1.1 39 (by decide)).1 eJ0_charAt_5068e (Nat.le_refl _) rfl rfl (Nat.le_of_ble_eq_true rfl) (zt_J0_charAt (i := 39) hG1 (by decide) (k := y) (by omega)) ?_
          have zq := zsc_b 39 (by decide) y (by omega)
          refine zF_callV 126 (d2 := (d + 11)) (as := [zI (zsc 39 y)]) dX12_format_123 rfl kX12_314 iX12_write (ci := 12) rfl eX12_write (Nat.le_refl _) hM3.1 hM3.2.1 rfl rfl (Nat.le_of_ble_eq_true rfl) (zE.mono (zt_X12_write (l := (fmD N s 7 ++ (zsbi 39).take y)) hM3 hw3 (by first | omega | (simp only [List.length_append, List.length_cons, List.length_nil, List.length_take, fmD_len]; omega)) (by first | decide | assumption | exact hb _ | exact mSh_rg hb _ _ | exact zb_rg _ | (constructor <;> omega))) fun ro σa5 hh5 => ?_)
          obtain ⟨er5, fr5, p5⟩ := hh5
          subst er5
          refine ⟨fr5.1, ?_⟩
          show zF G mX12_format (d + 12) 126 [(3, zI ((y : Nat) : Int)), (2, zR (zbg + 39)), (0, zR hm), (1, zI s)] [] σa5 _
          have hMa5 := zMo_f2 fr5 hM3
          have hNa5 : zia σa5 (A 0) = N := mPw_N (σ := σ3) hM3 fr5 (by decide) (by decide) hN3
          refine zF_iinc 129 (ls' := [(3, zI (((y : Nat) : Int) + 1)), (2, zR (zbg + 39)), (0, zR hm), (1, zI s)]) dX12_format_126 rfl rfl rfl (by decide) rfl ?_
          refine zF_goto 109 dX12_format_129 rfl ?_
          exact zF_locs (ls' := [(3, zI (((y + 1) : Nat) : Int)), (2, zR (zbg + 39)), (0, zR hm), (1, zI s)]) ⟨zlI rfl (by first | rfl | omega | (push_cast; omega) | exact congrArg (_ + ·) (zbT (by assumption)) | exact congrArg (_ + ·) (zbF (by assumption)) | exact congrArg (_ + ·) (zbT (by omega)) | exact congrArg (_ + ·) (zbF (by omega)) | exact congrArg (_ + ·) (if_pos (by omega)).symm | exact congrArg (_ + ·) (if_neg (by omega)).symm | exact (if_pos (by omega)).symm | exact (if_neg (by omega)).symm | exact zsub_s (if_pos (by omega)).symm | exact zsub_s0 (if_neg (by omega)).symm | exact zadd0 (if_neg (by omega)).symm | exact zadd0 (zbF (by omega)) | exact (Int.sub_zero _).symm), rfl, rfl, rfl, trivial⟩ (ih109 (y + 1) _ (by omega) (⟨by omega, ((f3).tr (mPw_fm fr5)), (mPw_F (σ := σ3) hM3 fr5 (by decide) h53), mWr_tk (by omega) p5⟩))
    · refine zF_aload_n 53 dX12_format_52 rfl rfl ?_
      refine zF_iload_n 54 dX12_format_53 rfl rfl ?_
      refine zF_iload_n 55 dX12_format_54 rfl rfl ?_
      refine zF_callVi 58 (d2 := (d + 11)) (as := [zI s, zI ((x : Nat) : Int)]) dX12_format_55 rfl kX12_129 iX12_shownOn (ci := 12) rfl eX12_shownOn (Nat.le_refl _) hM2.1 hM2.2.1 rfl rfl (Nat.le_of_ble_eq_true rfl) (zn_X12_shownOn hM2 hN2 hb (by omega) (by omega) (by first | decide | assumption | exact hb _ | exact mSh_rg hb _ _ | exact zb_rg _ | (constructor <;> omega))) ?_
      refine zF_istore_n 59 (ls' := [(3, zI (mSh N s ((x : Nat) : Int))), (2, zI ((x : Nat) : Int)), (0, zR hm), (1, zI s)]) dX12_format_58 rfl (by decide) rfl ?_
      refine zF_aload_n 60 dX12_format_59 rfl rfl ?_
      refine zF_bipush 62 dX12_format_60 rfl (by decide) ?_
      refine zF_callV 65 (d2 := (d + 11)) (as := [zI 32]) dX12_format_62 rfl kX12_314 iX12_write (ci := 12) rfl eX12_write (Nat.le_refl _) hM2.1 hM2.2.1 rfl rfl (Nat.le_of_ble_eq_true rfl) (zE.mono (zt_X12_write (l := (fmD N s x)) hM2 hw2 (by first | omega | (simp only [List.length_append, List.length_cons, List.length_nil, List.length_take, fmD_len]; omega)) (by first | decide | assumption | exact hb _ | exact mSh_rg hb _ _ | exact zb_rg _ | (constructor <;> omega))) fun ro σa6 hh6 => ?_)
      obtain ⟨er6, fr6, p6⟩ := hh6
      subst er6
      refine ⟨fr6.1, ?_⟩
      show zF G mX12_format (d + 12) 65 [(3, zI (mSh N s ((x : Nat) : Int))), (2, zI ((x : Nat) : Int)), (0, zR hm), (1, zI s)] [] σa6 _
      have hMa6 := zMo_f2 fr6 hM2
      have hNa6 : zia σa6 (A 0) = N := mPw_N (σ := σ2) hM2 fr6 (by decide) (by decide) hN2
      refine zF_aload_n 66 dX12_format_65 rfl rfl ?_
      have bm := mSh_b hV (s := s) (by omega) (by omega) (x : Int)
      refine zF_iload_n 67 dX12_format_66 rfl rfl ?_
      refine zF_iconst 68 dX12_format_67 rfl ?_
      refine zF_icmp_ne 76 71 dX12_format_68 rfl rfl (by first | decide | assumption | exact hb _ | exact mSh_rg hb _ _ | exact zb_rg _ | (constructor <;> omega)) (by first | decide | assumption | exact hb _ | exact mSh_rg hb _ _ | exact zb_rg _ | (constructor <;> omega)) (fun c6 => ?_) (fun c6 => ?_)
      · refine zF_bipush 78 dX12_format_76 rfl (by decide) ?_
        refine zF_iload_n 79 dX12_format_78 rfl rfl ?_
        refine zF_iadd 80 dX12_format_79 rfl ?_
        refine zF_callV 83 (d2 := (d + 11)) (as := [zI (48 + (mSh N s ((x : Nat) : Int)))]) dX12_format_80 rfl kX12_314 iX12_write (ci := 12) rfl eX12_write (Nat.le_refl _) hMa6.1 hMa6.2.1 rfl rfl (Nat.le_of_ble_eq_true rfl) (zE.mono (zt_X12_write (l := ((fmD N s x) ++ [32])) hMa6 p6 (by first | omega | (simp only [List.length_append, List.length_cons, List.length_nil, List.length_take, fmD_len]; omega)) (by first | decide | assumption | exact hb _ | exact mSh_rg hb _ _ | exact zb_rg _ | (constructor <;> omega))) fun ro σa7 hh7 => ?_)
        obtain ⟨er7, fr7, p7⟩ := hh7
        subst er7
        refine ⟨fr7.1, ?_⟩
        show zF G mX12_format (d + 12) 83 [(3, zI (mSh N s ((x : Nat) : Int))), (2, zI ((x : Nat) : Int)), (0, zR hm), (1, zI s)] [] σa7 _
        have hMa7 := zMo_f2 fr7 hMa6
        have hNa7 : zia σa7 (A 0) = N := mPw_N (σ := σa6) hMa6 fr7 (by decide) (by decide) hNa6
        refine zF_iinc 86 (ls' := [(2, zI (((x : Nat) : Int) + 1)), (3, zI (mSh N s ((x : Nat) : Int))), (0, zR hm), (1, zI s)]) dX12_format_83 rfl rfl rfl (by decide) rfl ?_
        refine zF_goto 46 dX12_format_86 rfl ?_
        exact zF_locs (ls' := [(2, zI (((x + 1) : Nat) : Int)), (0, zR hm), (1, zI s)]) ⟨zlI rfl (by first | rfl | omega | (push_cast; omega) | exact congrArg (_ + ·) (zbT (by assumption)) | exact congrArg (_ + ·) (zbF (by assumption)) | exact congrArg (_ + ·) (zbT (by omega)) | exact congrArg (_ + ·) (zbF (by omega)) | exact congrArg (_ + ·) (if_pos (by omega)).symm | exact congrArg (_ + ·) (if_neg (by omega)).symm | exact (if_pos (by omega)).symm | exact (if_neg (by omega)).symm | exact zsub_s (if_pos (by omega)).symm | exact zsub_s0 (if_neg (by omega)).symm | exact zadd0 (if_neg (by omega)).symm | exact zadd0 (zbF (by omega)) | exact (Int.sub_zero _).symm), rfl, rfl, trivial⟩ (ih46 (x + 1) _ (by omega) (⟨by omega, ((((f2).tr (mPw_fm fr6))).tr (mPw_fm fr7)), (mPw_F (σ := σa6) hMa6 fr7 (by decide) (mPw_F (σ := σ2) hM2 fr6 (by decide) h52)), mWr_dy (if_neg (by omega)) p7⟩))
      · refine zF_bipush 73 dX12_format_71 rfl (by decide) ?_
        refine zF_goto 80 dX12_format_73 rfl ?_
        refine zF_callV 83 (d2 := (d + 11)) (as := [zI 45]) dX12_format_80 rfl kX12_314 iX12_write (ci := 12) rfl eX12_write (Nat.le_refl _) hMa6.1 hMa6.2.1 rfl rfl (Nat.le_of_ble_eq_true rfl) (zE.mono (zt_X12_write (l := ((fmD N s x) ++ [32])) hMa6 p6 (by first | omega | (simp only [List.length_append, List.length_cons, List.length_nil, List.length_take, fmD_len]; omega)) (by first | decide | assumption | exact hb _ | exact mSh_rg hb _ _ | exact zb_rg _ | (constructor <;> omega))) fun ro σa8 hh8 => ?_)
        obtain ⟨er8, fr8, p8⟩ := hh8
        subst er8
        refine ⟨fr8.1, ?_⟩
        show zF G mX12_format (d + 12) 83 [(3, zI (mSh N s ((x : Nat) : Int))), (2, zI ((x : Nat) : Int)), (0, zR hm), (1, zI s)] [] σa8 _
        have hMa8 := zMo_f2 fr8 hMa6
        have hNa8 : zia σa8 (A 0) = N := mPw_N (σ := σa6) hMa6 fr8 (by decide) (by decide) hNa6
        refine zF_iinc 86 (ls' := [(2, zI (((x : Nat) : Int) + 1)), (3, zI (mSh N s ((x : Nat) : Int))), (0, zR hm), (1, zI s)]) dX12_format_83 rfl rfl rfl (by decide) rfl ?_
        refine zF_goto 46 dX12_format_86 rfl ?_
        exact zF_locs (ls' := [(2, zI (((x + 1) : Nat) : Int)), (0, zR hm), (1, zI s)]) ⟨zlI rfl (by first | rfl | omega | (push_cast; omega) | exact congrArg (_ + ·) (zbT (by assumption)) | exact congrArg (_ + ·) (zbF (by assumption)) | exact congrArg (_ + ·) (zbT (by omega)) | exact congrArg (_ + ·) (zbF (by omega)) | exact congrArg (_ + ·) (if_pos (by omega)).symm | exact congrArg (_ + ·) (if_neg (by omega)).symm | exact (if_pos (by omega)).symm | exact (if_neg (by omega)).symm | exact zsub_s (if_pos (by omega)).symm | exact zsub_s0 (if_neg (by omega)).symm | exact zadd0 (if_neg (by omega)).symm | exact zadd0 (zbF (by omega)) | exact (Int.sub_zero _).symm), rfl, rfl, trivial⟩ (ih46 (x + 1) _ (by omega) (⟨by omega, ((((f2).tr (mPw_fm fr6))).tr (mPw_fm fr8)), (mPw_F (σ := σa6) hMa6 fr8 (by decide) (mPw_F (σ := σ2) hM2 fr6 (by decide) h52)), mWr_dy (if_pos (by omega)) p8⟩))
  · refine zF_aload_n 14 dX12_format_13 rfl rfl ?_
    refine zF_iconst 15 dX12_format_14 rfl ?_
    refine zF_callV 18 (d2 := (d + 11)) (as := [zI 1]) dX12_format_15 rfl kX12_238 iX12_raise (ci := 12) rfl eX12_raise (Nat.le_refl _) hM.1 hM.2.1 rfl rfl (Nat.le_of_ble_eq_true rfl) (zE.mono (zt_X12_raise hM) fun ro σx9 hh9 => ?_)
    obtain ⟨er9, es9⟩ := hh9
    subst er9
    subst es9
    refine ⟨rfl, ?_⟩
    exact zF_ireturn dX12_format_18 rfl (⟨_, rfl, mSc_fm (mSc_hm5 (mSc_hm5 zFr.rf)), by rw [if_neg (by omega)]; exact ⟨mSc_hm5 (mSc_hm5 zFr.rf), (zsi_same _ _ _ _)⟩⟩)
end ZMF

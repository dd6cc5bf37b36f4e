/-! the reference: load -/
section ZMV
variable {G : zG} {d : Nat} {σ σ0 : zMem} {hm : Nat} {A : Nat → Nat} {t : Int → Int} {L : Nat} {s : tS} {D : Int → Int}
theorem zt_X12_clear {r : Nat} (hk : zkd σ r = (1, 312)) (hr : r < zn σ) : zE G mX12_clear d [zR r] σ (fun ro σ1 => ro = .inl none ∧ zFr (fun h j => h = r ∧ 0 ≤ j ∧ j < 312) σ σ1 ∧ zia σ1 r = zcz (zia σ r)) := by
  refine zE_of rfl (by simp [zcat]) (Nat.le_of_ble_eq_true rfl) ?_
  show zF G mX12_clear d 0 [(0, zR r)] [] σ _
  refine zF_iconst 1 dX12_clear_0 rfl ?_
  refine zF_istore_n 2 (ls' := [(1, zI 0), (0, zR r)]) dX12_clear_1 rfl (by decide) rfl ?_
  refine zF_locs (ls' := [(1, zI ((0 : Nat) : Int)), (0, zR r)]) ⟨zlI rfl (by first | rfl | omega | (push_cast; omega) | exact congrArg (_ + ·) (zbT (by assumption)) | exact congrArg (_ + ·) (zbF (by assumption)) | exact congrArg (_ + ·) (zbT (by omega)) | exact congrArg (_ + ·) (zbF (by omega)) | exact congrArg (_ + ·) (if_pos (by omega)).symm | exact congrArg (_ + ·) (if_neg (by omega)).symm | exact (if_pos (by omega)).symm | exact (if_neg (by omega)).symm | exact zsub_s (if_pos (by omega)).symm | exact zsub_s0 (if_neg (by omega)).symm | exact zadd0 (if_neg (by omega)).symm | exact zadd0 (zbF (by omega)) | exact (Int.sub_zero _).symm), rfl, trivial⟩ ?_
  refine zF_while (X := Nat) (fun x => 312 - x) (fun x σ2 => x ≤ 312 ∧ zFr (fun h j => h = r ∧ 0 ≤ j ∧ j < 312) σ σ2 ∧ ∀ j, zia σ2 r j = if 0 ≤ j ∧ j < (x : Int) then 0 else zia σ r j) (fun x => [(1, zI ((x : Nat) : Int)), (0, zR r)]) ?_ 0 σ (⟨by omega, zFr.rf, fun j => by rw [if_neg (by omega)]⟩)
  intro x σ2 hI2 ih2
  show zF G mX12_clear d 2 [(1, zI ((x : Nat) : Int)), (0, zR r)] [] σ2 _
  obtain ⟨hx, f2, g2⟩ := hI2
  have hk2 : zkd σ2 r = (1, 312) := by rw [f2.2.1]; exact hk
  have hr2 : r < zn σ2 := by rw [f2.1]; exact hr
  refine zF_iload_n 3 dX12_clear_2 rfl rfl ?_
  refine zF_sipush 6 dX12_clear_3 rfl (by decide) ?_
  refine zF_icmp_ge 19 9 dX12_clear_6 rfl rfl (by first | decide | assumption | (constructor <;> omega)) (by first | decide | assumption | (constructor <;> omega)) (fun c1 => ?_) (fun c1 => ?_)
  · exact zF_return dX12_clear_19 rfl ((by
    have hx9 : x = 312 := by omega
    subst hx9
    exact ⟨rfl, f2, funext g2⟩))
  · refine zF_aload_n 10 dX12_clear_9 rfl rfl ?_
    refine zF_iload_n 11 dX12_clear_10 rfl rfl ?_
    refine zF_iconst 12 dX12_clear_11 rfl ?_
    refine zF_iastore 13 dX12_clear_12 rfl hk2 hr2 (by omega) (by omega) ?_
    refine zF_iinc 16 (ls' := [(1, zI (((x : Nat) : Int) + 1)), (0, zR r)]) dX12_clear_13 rfl rfl rfl (by decide) rfl ?_
    refine zF_goto 2 dX12_clear_16 rfl ?_
    exact zF_locs (ls' := [(1, zI (((x + 1) : Nat) : Int)), (0, zR r)]) ⟨zlI rfl (by first | rfl | omega | (push_cast; omega) | exact congrArg (_ + ·) (zbT (by assumption)) | exact congrArg (_ + ·) (zbF (by assumption)) | exact congrArg (_ + ·) (zbT (by omega)) | exact congrArg (_ + ·) (zbF (by omega)) | exact congrArg (_ + ·) (if_pos (by omega)).symm | exact congrArg (_ + ·) (if_neg (by omega)).symm | exact (if_pos (by omega)).symm | exact (if_neg (by omega)).symm | exact zsub_s (if_pos (by omega)).symm | exact zsub_s0 (if_neg (by omega)).symm | exact zadd0 (if_neg (by omega)).symm | exact zadd0 (zbF (by omega)) | exact (Int.sub_zero _).symm), rfl, trivial⟩ (ih2 (x + 1) _ (by omega) (⟨by omega, zFr_si ⟨rfl, by omega, by omega⟩ f2, fun j => by
          rw [zia_si, g2]
          by_cases q : j = (x : Int)
          · rw [if_pos ⟨rfl, q⟩, if_pos ⟨by omega, by omega⟩]
          · rw [if_neg (fun z => q z.2)]
            by_cases q2 : 0 ≤ j ∧ j < (x : Int)
            · rw [if_pos q2, if_pos ⟨by omega, by omega⟩]
            · rw [if_neg q2, if_neg (fun z => q2 ⟨z.1, by have := z.2; omega⟩)]⟩))
/-- what a load may change -/
def mPq (hm : Nat) (A : Nat → Nat) (h : Nat) (j : Int) : Prop := mPl hm A h j ∨ (h = hm ∧ (j = 4 ∨ j = 5 ∨ j = 6 ∨ j = 19 ∨ j = 26 ∨ j = 27)) ∨ (h = A 0 ∧ 0 ≤ j ∧ j < 312)
theorem mPl_q {σ1 : zMem} (f : zFr (mPl hm A) σ σ1) : zFr (mPq hm A) σ σ1 := f.wk fun _ _ q => Or.inl q
/-- the same without what is put at the end -/
def mPr (hm : Nat) (A : Nat → Nat) (h : Nat) (j : Int) : Prop := mPl hm A h j ∨ (h = hm ∧ (j = 5 ∨ (26 ≤ j ∧ j ≤ 27)))
theorem mP7_r {σ1 : zMem} (f : zFr (mP7 hm) σ σ1) : zFr (mPr hm A) σ σ1 := f.wk fun _ j q => if c : j ≤ 25 then Or.inl (Or.inl ⟨q.1, q.2.1, c⟩) else Or.inr ⟨q.1, Or.inr ⟨by omega, q.2.2⟩⟩
theorem mPr_q {σ1 : zMem} (f : zFr (mPr hm A) σ σ1) : zFr (mPq hm A) σ σ1 := f.wk fun _ _ q => q.elim Or.inl fun q => Or.inr (Or.inl ⟨q.1, by have := q.2; omega⟩)
theorem mPr_F {σ1 : zMem} {k v : Int} (hM : zMo σ hm A) (f : zFr (mPr hm A) σ σ1) (hk : k < 20 ∨ 27 < k) (k5 : k ≠ 5) (e : zia σ hm k = v) : zia σ1 hm k = v := (f.2.2.2.2.2 _ _ fun q => q.elim (fun q => q.elim (fun q => by have := q.2; omega) (fun q => zMo_hm1 hM (k := 1) (by decide) zMo_h1 q.1.symm)) (fun q => by have := q.2; omega)).trans e
theorem mPr_A {σ1 : zMem} (hM : zMo σ hm A) (f : zFr (mPr hm A) σ σ1) {k : Nat} (hk : k ∈ zmf.map (·.1)) (k1 : k ≠ 1) : zia σ1 (A k) = zia σ (A k) := f.at fun j q => q.elim (fun q => q.elim (fun q => zMo_hm1 hM hk zMo_h1 q.1) (fun q => zMo_ne hM hk (by decide) k1 q.1)) (fun q => zMo_hm1 hM hk zMo_h1 q.1)
theorem mPl_F {σ1 : zMem} {k v : Int} (hM : zMo σ hm A) (f : zFr (mPl hm A) σ σ1) (hk : k < 20 ∨ 27 < k) (e : zia σ hm k = v) : zia σ1 hm k = v := (f.2.2.2.2.2 _ _ fun q => q.elim (fun q => by have := q.2; omega) (fun q => zMo_hm1 hM (k := 1) (by decide) zMo_h1 q.1.symm)).trans e
theorem zMo_hN2 (hM : zMo σ hm A) {k : Nat} (hk : k ∈ zmf.map (·.1)) {i v j w : Int} : zia (zsi (zsi σ hm i v) hm j w) (A k) = zia σ (A k) := (zMo_hN (σ := zsi σ hm i v) rfl hM hk zMo_h1).trans (zMo_hN rfl hM hk zMo_h1)
theorem mPl_r {σ1 : zMem} (f : zFr (mPl hm A) σ σ1) : zFr (mPr hm A) σ σ1 := f.wk fun _ _ q => Or.inl q
/-- how far a reading still has to go -/
def ldM (t : Int → Int) (L : Nat) (x : ldS) (n : Nat) : Nat := if (ldI t L x n).1.2 = 0 then L + 1 - (ldI t L x n).1.1 else 0
theorem ldM_dec {x : ldS} {n : Nat} (h : x.1.1 ≤ L) (h0 : (ldI t L x n).1.2 = 0) : ldM t L x (n + 1) < ldM t L x n := by
  unfold ldM
  have hp := (ldI_p (t := t) h n).resolve_right (fun y => y h0)
  rw [if_pos h0]
  by_cases e : (ldI t L x (n + 1)).1.2 = 0
  · rw [if_pos e]
    have := ldC_p (D := (ldI t L x n).2) hp h0 e
    have e2 : (ldI t L x (n + 1)).1.1 = (ldC t L ((ldI t L x n).1, (ldI t L x n).2)).1.1 := rfl
    omega
  · rw [if_neg e]; omega
/-- the texts read up to here -/
def ldW (t : Int → Int) (L : Nat) (x : ldS) (n : Nat) : Prop := (∀ m, m < n → tKd t L (ldI t L x m).1 ≠ 0) ∧ ((ldI t L x n).1.2 = 0 → ldV (ldI t L x n).2)
theorem zt_X12_load {c : Int} (hG : zOS G) (hM : zMo σ hm A) (hx : mTx σ A t L) (hc : zia σ hm ((19 : Nat) : Int) = c) (c1 : c ≤ 700) (hL : (L : Int) ≤ c) (hb : ∀ j, zrg (zia σ (A 1) j)) : zE G mX12_load (d + 10) [zR hm, zI (L : Int)] σ (fun ro σ1 => ∃ x k, ro = .inl (some (zI x)) ∧ zFr (mPq hm A) σ σ1 ∧ zia σ1 hm ((5 : Nat) : Int) = 0 ∧ zia σ1 hm ((19 : Nat) : Int) = 0 ∧ ldT t L ((0, 0), zcz (zia σ (A 1))) k ∧ zia σ1 hm ((26 : Nat) : Int) = (if (ldI t L ((0, 0), zcz (zia σ (A 1))) k).1.2 = 0 then -1 else ((tbg t L (ldI t L ((0, 0), zcz (zia σ (A 1))) k).1.1 : Nat) : Int)) ∧ if (ldI t L ((0, 0), zcz (zia σ (A 1))) k).1.2 = 0 then ldV (ldI t L ((0, 0), zcz (zia σ (A 1))) k).2 ∧ x = (ldI t L ((0, 0), zcz (zia σ (A 1))) k).2 1 ∧ (∀ j, 0 ≤ j → j < 312 → zia σ1 (A 0) j = (ldI t L ((0, 0), zcz (zia σ (A 1))) k).2 j) ∧ zia σ1 hm ((4 : Nat) : Int) = 0 ∧ zia σ1 hm ((6 : Nat) : Int) = 0 else x = -10 - (ldI t L ((0, 0), zcz (zia σ (A 1))) k).1.2 ∧ zia σ1 (A 0) = zia σ (A 0) ∧ zia σ1 hm ((4 : Nat) : Int) = zia σ hm ((4 : Nat) : Int) ∧ zia σ1 hm ((6 : Nat) : Int) = zia σ hm ((6 : Nat) : Int)) := by
  refine zE_of rfl (by simp [zcat]) (Nat.le_of_ble_eq_true rfl) ?_
  show zF G mX12_load (d + 10) 0 [(0, zR hm), (1, zI (L : Int))] [] σ _
  have hl7 := hx.1
  refine zF_aload_n 1 dX12_load_0 rfl rfl ?_
  refine zF_iconst 2 dX12_load_1 rfl ?_
  refine zF_putI 5 dX12_load_2 rfl pX12_load_89 (Or.inl rfl) hM.1 hM.2.1 ?_
  refine zF_iload_n 6 dX12_load_5 rfl rfl ?_
  refine zF_iconst 7 dX12_load_6 rfl ?_
  refine zF_aload_n 8 dX12_load_7 rfl rfl ?_
  refine zF_getI 11 dX12_load_8 rfl gX12_339 (by decide) (by decide) hM.1 hM.2.1 (zsi_F (by decide) hc) ?_
  refine zF_callSi 14 (d2 := (d + 9)) (as := [zI (L : Int), zI 0, zI c]) dX12_load_11 rfl kX12_109 sX12_inRange (Nat.le_refl _) rfl rfl (Nat.le_of_ble_eq_true rfl) (zt_X12_inRange (by first | decide | assumption | (constructor <;> omega)) (by first | decide | assumption | (constructor <;> omega)) (by first | decide | assumption | (constructor <;> omega))) ?_
  refine zF_ifb_ne 23 17 dX12_load_14 rfl rfl (fun c1 => ?_) (fun c1 => ?_)
  · refine zF_aload_n 24 dX12_load_23 rfl rfl ?_
    refine zF_getR 27 dX12_load_24 rfl gX12_13 hM.1 hM.2.1 (zM_1 hM).1 ?_
    refine zF_callS 30 (d2 := (d + 9)) (as := [zR (A 1)]) dX12_load_27 rfl kX12_85 sX12_clear (Nat.le_refl _) rfl rfl (Nat.le_of_ble_eq_true rfl) (zE.mono (zt_X12_clear (σ := (zsi σ hm ((5 : Nat) : Int) 0)) (zM_1 hM).2.2 (zM_1 hM).2.1) fun ro σa1 hh1 => ?_)
    obtain ⟨er1, fr1, p1⟩ := hh1
    subst er1
    refine ⟨fr1.1, ?_⟩
    show zF G mX12_load (d + 10) 30 [(0, zR hm), (1, zI (L : Int))] [] σa1 _
    have hMa1 := zMo_f2 (σ := (zsi σ hm ((5 : Nat) : Int) 0)) fr1 hM
    have hxa1 : mTx σa1 A t L := mTx_fr (σ := (zsi σ hm ((5 : Nat) : Int) 0)) (mTx_si hM hx) fr1 fun j q => zMo_ne (σ := (zsi σ hm ((5 : Nat) : Int) 0)) hM (j := 18) (k := 1) (by decide) (by decide) (by decide) q.1
    have hD1a : zia σa1 (A 1) = zcz (zia σ (A 1)) := p1.trans (congrArg zcz (zsi_at (zMo_hm1 hM (k := 1) (by decide) zMo_h1) rfl))
    refine zF_aload_n 31 dX12_load_30 rfl rfl ?_
    refine zF_iload_n 32 dX12_load_31 rfl rfl ?_
    refine zF_callV 35 (d2 := (d + 9)) (as := [zI (L : Int)]) dX12_load_32 rfl kX12_443 iX12_startText (ci := 12) rfl eX12_startText (Nat.le_refl _) hMa1.1 hMa1.2.1 rfl rfl (Nat.le_of_ble_eq_true rfl) (zE.mono (zt_X12_startText (σ := σa1) hMa1 hxa1) fun ro σa2 hh2 => ?_)
    obtain ⟨er2, fr2, p2⟩ := hh2
    subst er2
    refine ⟨fr2.1, ?_⟩
    show zF G mX12_load (d + 10) 35 [(0, zR hm), (1, zI (L : Int))] [] σa2 _
    have hMa2 := zMo_f2 fr2 hMa1
    have hxa2 := mTx_7 hMa1 hxa1 fr2
    refine zF_locs (ls' := [(0, zR hm), (1, zI (L : Int))]) ⟨rfl, rfl, trivial⟩ ?_
    refine zF_while (X := Nat) (fun n => ldM t L ((0, 0), zcz (zia σ (A 1))) n) (fun n σ2 => zFr (mPr hm A) σ σ2 ∧ mTs σ2 hm t L (ldI t L ((0, 0), zcz (zia σ (A 1))) n).1 ∧ ((ldI t L ((0, 0), zcz (zia σ (A 1))) n).1.2 = 0 → zia σ2 (A 1) = (ldI t L ((0, 0), zcz (zia σ (A 1))) n).2) ∧ ldW t L ((0, 0), zcz (zia σ (A 1))) n ∧ zia σ2 hm ((5 : Nat) : Int) = 0) (fun n => [(0, zR hm), (1, zI (L : Int))]) ?_ 0 σa2 (⟨(((zFr_si (Or.inr ⟨rfl, Or.inl rfl⟩) zFr.rf).tr (fr1.wk fun _ _ q => Or.inl (Or.inr q))).tr (mP7_r fr2)), p2.1, fun _ => ((mP7_A hMa1 fr2 (k := 1) (by decide)).trans hD1a), ⟨fun m hm9 => absurd hm9 (Nat.not_lt_zero _), fun _ => ldV_0 hb⟩, (mP7_o fr2 (by omega) (zFr_F (σ1 := (zsi σ hm ((5 : Nat) : Int) 0)) fr1 (fun q => zMo_hm1 (σ := (zsi σ hm ((5 : Nat) : Int) 0)) hM (k := 1) (by decide) zMo_h1 q.1.symm) (zsi_same _ _ _ _)))⟩)
    intro n σ2 hI35 ih35
    show zF G mX12_load (d + 10) 35 [(0, zR hm), (1, zI (L : Int))] [] σ2 _
    obtain ⟨f2, hs2, hd2, hw2, h52⟩ := hI35
    have hM2 := zMo_f2 f2 hM
    have hx2 : mTx σ2 A t L := mTx_fr hx f2 fun j q => q.elim (fun q => q.elim (fun q => zMo_hm1 hM (k := 18) (by decide) zMo_h1 q.1) (fun q => zMo_ne hM (j := 18) (k := 1) (by decide) (by decide) (by decide) q.1)) (fun q => zMo_hm1 hM (k := 18) (by decide) zMo_h1 q.1)
    have ebn := hs2.2.2.2.2.2.2.2
    have kbn := tk_b t L (ldI t L ((0, 0), zcz (zia σ (A 1))) n).1.1
    refine zF_aload_n 36 dX12_load_35 rfl rfl ?_
    refine zF_getI 39 dX12_load_36 rfl gX12_363 (by decide) (by decide) hM2.1 hM2.2.1 hs2.2.2.2.2.2.1 ?_
    refine zF_if_ne 56 42 dX12_load_39 rfl rfl (by first | decide | assumption | (constructor <;> omega)) (fun c2 => ?_) (fun c2 => ?_)
    · have hK : tKd t L (ldI t L ((0, 0), zcz (zia σ (A 1))) n).1 = 0 := by first | exact tKd_e (by omega) | (rw [tKd_0 (by omega)]; omega)
      refine zF_aload_n 57 dX12_load_56 rfl rfl ?_
      refine zF_callV 60 (d2 := (d + 9)) (as := []) dX12_load_57 rfl kX12_449 iX12_finish (ci := 12) rfl eX12_finish (Nat.le_refl _) hM2.1 hM2.2.1 rfl rfl (Nat.le_of_ble_eq_true rfl) (zE.mono (zt_X12_finish hM2 hx2 hs2) fun ro σa3 hh3 => ?_)
      obtain ⟨er3, fr3, p3⟩ := hh3
      subst er3
      refine ⟨fr3.1, ?_⟩
      show zF G mX12_load (d + 10) 60 [(0, zR hm), (1, zI (L : Int))] [zI ((ldI t L ((0, 0), zcz (zia σ (A 1))) n).1.2)] σa3 _
      have hMa3 := zMo_f2 fr3 hM2
      have A0a3 : zia σa3 (A 0) = zia σ (A 0) := (fr3.at fun j q => zMo_hm1 hM2 (k := 0) (by decide) zMo_h1 q.1).trans (mPr_A hM f2 (by decide) (by decide))
      have h5a3 : zia σa3 hm ((5 : Nat) : Int) = 0 := zFr_F fr3 (fun q => absurd q.2 (by decide)) h52
      have h4a3 : zia σa3 hm ((4 : Nat) : Int) = zia σ hm ((4 : Nat) : Int) := zFr_F fr3 (fun q => absurd q.2 (by decide)) (mPr_F hM f2 (by omega) (by omega) rfl)
      have h6a3 : zia σa3 hm ((6 : Nat) : Int) = zia σ hm ((6 : Nat) : Int) := zFr_F fr3 (fun q => absurd q.2 (by decide)) (mPr_F hM f2 (by omega) (by omega) rfl)
      have A1a3 : (ldI t L ((0, 0), zcz (zia σ (A 1))) n).1.2 = 0 → zia σa3 (A 1) = (ldI t L ((0, 0), zcz (zia σ (A 1))) n).2 := fun z => (fr3.at fun j q => zMo_hm1 hM2 (k := 1) (by decide) zMo_h1 q.1).trans (hd2 z)
      refine zF_if_eq 71 63 dX12_load_60 rfl rfl (by first | decide | assumption | (constructor <;> omega)) (fun c3 => ?_) (fun c3 => ?_)
      · exact absurd c3 (by first | assumption | omega)
      · refine zF_bipush 65 dX12_load_63 rfl (by decide) ?_
        refine zF_aload_n 66 dX12_load_65 rfl rfl ?_
        refine zF_getI 69 dX12_load_66 rfl gX12_363 (by decide) (by decide) hMa3.1 hMa3.2.1 (zFr_F fr3 (fun q => absurd q.2 (by decide)) hs2.2.2.2.2.2.1) ?_
        refine zF_isub 70 dX12_load_69 rfl ?_
        exact zF_ireturn dX12_load_70 rfl (⟨_, n, rfl, ((mPr_q f2).tr (fr3.wk fun _ _ q => Or.inr (Or.inl ⟨q.1, by have := q.2; omega⟩))), h5a3, p3.1, ⟨hK, hw2.1⟩, p3.2, by rw [if_neg (by omega)]; exact ⟨rfl, A0a3, h4a3, h6a3⟩⟩)
    · refine zF_aload_n 43 dX12_load_42 rfl rfl ?_
      refine zF_getI 46 dX12_load_43 rfl gX12_354 (by decide) (by decide) hM2.1 hM2.2.1 hs2.2.2.2.2.1 ?_
      refine zF_if_eq 56 49 dX12_load_46 rfl rfl (by first | decide | assumption | (constructor <;> omega)) (fun c4 => ?_) (fun c4 => ?_)
      · have hK : tKd t L (ldI t L ((0, 0), zcz (zia σ (A 1))) n).1 = 0 := by first | exact tKd_e (by omega) | (rw [tKd_0 (by omega)]; omega)
        refine zF_aload_n 57 dX12_load_56 rfl rfl ?_
        refine zF_callV 60 (d2 := (d + 9)) (as := []) dX12_load_57 rfl kX12_449 iX12_finish (ci := 12) rfl eX12_finish (Nat.le_refl _) hM2.1 hM2.2.1 rfl rfl (Nat.le_of_ble_eq_true rfl) (zE.mono (zt_X12_finish hM2 hx2 hs2) fun ro σa4 hh4 => ?_)
        obtain ⟨er4, fr4, p4⟩ := hh4
        subst er4
        refine ⟨fr4.1, ?_⟩
        show zF G mX12_load (d + 10) 60 [(0, zR hm), (1, zI (L : Int))] [zI ((ldI t L ((0, 0), zcz (zia σ (A 1))) n).1.2)] σa4 _
        have hMa4 := zMo_f2 fr4 hM2
        have A0a4 : zia σa4 (A 0) = zia σ (A 0) := (fr4.at fun j q => zMo_hm1 hM2 (k := 0) (by decide) zMo_h1 q.1).trans (mPr_A hM f2 (by decide) (by decide))
        have h5a4 : zia σa4 hm ((5 : Nat) : Int) = 0 := zFr_F fr4 (fun q => absurd q.2 (by decide)) h52
        have h4a4 : zia σa4 hm ((4 : Nat) : Int) = zia σ hm ((4 : Nat) : Int) := zFr_F fr4 (fun q => absurd q.2 (by decide)) (mPr_F hM f2 (by omega) (by omega) rfl)
        have h6a4 : zia σa4 hm ((6 : Nat) : Int) = zia σ hm ((6 : Nat) : Int) := zFr_F fr4 (fun q => absurd q.2 (by decide)) (mPr_F hM f2 (by omega) (by omega) rfl)
        have A1a4 : (ldI t L ((0, 0), zcz (zia σ (A 1))) n).1.2 = 0 → zia σa4 (A 1) = (ldI t L ((0, 0), zcz (zia σ (A 1))) n).2 := fun z => (fr4.at fun j q => zMo_hm1 hM2 (k := 1) (by decide) zMo_h1 q.1).trans (hd2 z)
        refine zF_if_eq 71 63 dX12_load_60 rfl rfl (by first | decide | assumption | (constructor <;> omega)) (fun c5 => ?_) (fun c5 => ?_)
        · refine zF_aload_n 72 dX12_load_71 rfl rfl ?_
          refine zF_getR 75 dX12_load_72 rfl gX12_13 hMa4.1 hMa4.2.1 (zM_1 hMa4).1 ?_
          refine zF_iconst 76 dX12_load_75 rfl ?_
          refine zF_aload_n 77 dX12_load_76 rfl rfl ?_
          refine zF_getR 80 dX12_load_77 rfl gX12_9 hMa4.1 hMa4.2.1 (zM_0 hMa4).1 ?_
          refine zF_iconst 81 dX12_load_80 rfl ?_
          refine zF_callS 84 (d2 := (d + 9)) (as := [zR (A 1), zI 0, zR (A 0), zI 0]) dX12_load_81 rfl kX12_331 sX12_copy (Nat.le_refl _) rfl rfl (Nat.le_of_ble_eq_true rfl) (zE.mono (zt_X12_copy (σ := σa4) (zM_1 hMa4).2.2 (zM_1 hMa4).2.1 (zM_0 hMa4).2.2 (zM_0 hMa4).2.1 (by decide) (by decide) (by decide) (by decide) (fun q => absurd q (zMo_ne hMa4 (j := 1) (k := 0) (by decide) (by decide) (by decide)))) fun ro σa5 hh5 => ?_)
          obtain ⟨er5, fr5, p5⟩ := hh5
          subst er5
          refine ⟨fr5.1, ?_⟩
          show zF G mX12_load (d + 10) 84 [(0, zR hm), (1, zI (L : Int))] [] σa5 _
          have hMa5 := zMo_f2 fr5 hMa4
          have A0b : ∀ j, 0 ≤ j → j < 312 → zia σa5 (A 0) j = (ldI t L ((0, 0), zcz (zia σ (A 1))) n).2 j := fun j a b => by have z := p5 j a b; rw [show 312 * 0 + j = j by omega, A1a4 (by omega)] at z; exact z
          have g5 : zia σa5 hm ((5 : Nat) : Int) = 0 := zFr_F fr5 (fun q => zMo_hm1 hMa4 (k := 0) (by decide) zMo_h1 q.1.symm) h5a4
          have g19 : zia σa5 hm ((19 : Nat) : Int) = 0 := zFr_F fr5 (fun q => zMo_hm1 hMa4 (k := 0) (by decide) zMo_h1 q.1.symm) p4.1
          have g26 := zFr_F fr5 (fun q => zMo_hm1 hMa4 (k := 0) (by decide) zMo_h1 q.1.symm) p4.2
          refine zF_aload_n 85 dX12_load_84 rfl rfl ?_
          refine zF_iconst 86 dX12_load_85 rfl ?_
          refine zF_putI 89 dX12_load_86 rfl pX12_load_328 (Or.inl rfl) hMa5.1 hMa5.2.1 ?_
          refine zF_aload_n 90 dX12_load_89 rfl rfl ?_
          refine zF_iconst 91 dX12_load_90 rfl ?_
          refine zF_putI 94 dX12_load_91 rfl pX12_load_335 (Or.inr ⟨rfl, by omega⟩) hMa5.1 hMa5.2.1 ?_
          have scr9 : zP1 G mX12_screens (d + 9) [zR hm] (zsi (zsi σa5 hm ((4 : Nat) : Int) 0) hm ((6 : Nat) : Int) 0) ((ldI t L ((0, 0), zcz (zia σ (A 1))) n).2 1) := by have z := zt_X12_screens (G := G) (d := d + 9) (σ := (zsi (zsi σa5 hm ((4 : Nat) : Int) 0) hm ((6 : Nat) : Int) 0)) hMa5; rw [show zia (zsi (zsi σa5 hm ((4 : Nat) : Int) 0) hm ((6 : Nat) : Int) 0) (A 0) 1 = (ldI t L ((0, 0), zcz (zia σ (A 1))) n).2 1 from (congrFun (zMo_hN2 (σ := σa5) hMa5 (k := 0) (by decide)) 1).trans (A0b 1 (by decide) (by decide))] at z; exact z
          refine zF_aload_n 95 dX12_load_94 rfl rfl ?_
          refine zF_callVi 98 (d2 := (d + 9)) (as := []) dX12_load_95 rfl kX12_113 iX12_screens (ci := 12) rfl eX12_screens (Nat.le_refl _) hMa5.1 hMa5.2.1 rfl rfl (Nat.le_of_ble_eq_true rfl) (scr9) ?_
          exact zF_ireturn dX12_load_98 rfl (⟨_, n, rfl, (zFr_si (Or.inr (Or.inl ⟨rfl, by decide⟩)) (zFr_si (Or.inr (Or.inl ⟨rfl, by decide⟩)) (((mPr_q f2).tr (fr4.wk fun _ _ q => Or.inr (Or.inl ⟨q.1, by have := q.2; omega⟩))).tr (fr5.wk fun _ _ q => Or.inr (Or.inr ⟨q.1, by have := q.2; omega, by have := q.2; omega⟩))))), (zsi_F (by decide) (zsi_F (by decide) g5)), (zsi_F (by decide) (zsi_F (by decide) g19)), ⟨hK, hw2.1⟩, (zsi_F (by decide) (zsi_F (by decide) g26)), by rw [if_pos (by omega)]; exact ⟨hw2.2 (by omega), rfl, fun j a b => (congrFun (zMo_hN2 (σ := σa5) hMa5 (k := 0) (by decide)) j).trans (A0b j a b), zsi_F (by decide) (zsi_same _ _ _ _), zsi_same _ _ _ _⟩⟩)
        · exact absurd c5 (by first | assumption | omega)
      · have h0 : (ldI t L ((0, 0), zcz (zia σ (A 1))) n).1.2 = 0 := by omega
        refine zF_aload_n 50 dX12_load_49 rfl rfl ?_
        refine zF_callV 53 (d2 := (d + 9)) (as := []) dX12_load_50 rfl kX12_446 iX12_readClause (ci := 12) rfl eX12_readClause (Nat.le_refl _) hM2.1 hM2.2.1 rfl rfl (Nat.le_of_ble_eq_true rfl) (zE.mono (zt_X12_readClause (s := (ldI t L ((0, 0), zcz (zia σ (A 1))) n).1) (D := (ldI t L ((0, 0), zcz (zia σ (A 1))) n).2) hG hM2 hx2 hs2 (hd2 h0) (hw2.2 h0) h0) fun ro σa6 hh6 => ?_)
        obtain ⟨er6, fr6, p6⟩ := hh6
        subst er6
        refine ⟨fr6.1, ?_⟩
        show zF G mX12_load (d + 10) 53 [(0, zR hm), (1, zI (L : Int))] [] σa6 _
        have hMa6 := zMo_f2 fr6 hM2
        have hxa6 := mTx_l hM2 hx2 fr6
        refine zF_goto 35 dX12_load_53 rfl ?_
        exact zF_locs (ls' := [(0, zR hm), (1, zI (L : Int))]) ⟨rfl, rfl, trivial⟩ (ih35 (n + 1) _ (ldM_dec (Nat.zero_le _) h0) (⟨(f2.tr (mPl_r fr6)), p6.1, p6.2, ⟨fun m hm9 => by
          by_cases q : m = n
          · subst q; rw [tKd_0 h0]; omega
          · exact hw2.1 m (by omega), fun z => ldC_V (hw2.2 h0) z⟩, (mPl_F hM2 fr6 (by omega) h52)⟩))
  · exact absurd c1 (by omega)
theorem zt_X12_load_bad {n c : Int} (hM : zMo σ hm A) (hc : zia σ hm ((19 : Nat) : Int) = c) (c0 : 0 ≤ c) (c1 : c ≤ 700) (zn : zrg n) (h : ¬ (0 ≤ n ∧ n ≤ c)) : zE G mX12_load (d + 10) [zR hm, zI n] σ (fun ro σ1 => ro = .inl (some (zI 0)) ∧ σ1 = zsi (zsi σ hm ((5 : Nat) : Int) 0) hm ((5 : Nat) : Int) 1) := by
  refine zE_of rfl (by simp [zcat]) (Nat.le_of_ble_eq_true rfl) ?_
  show zF G mX12_load (d + 10) 0 [(0, zR hm), (1, zI n)] [] σ _
  refine zF_aload_n 1 dX12_load_0 rfl rfl ?_
  refine zF_iconst 2 dX12_load_1 rfl ?_
  refine zF_putI 5 dX12_load_2 rfl pX12_load_89 (Or.inl rfl) hM.1 hM.2.1 ?_
  refine zF_iload_n 6 dX12_load_5 rfl rfl ?_
  refine zF_iconst 7 dX12_load_6 rfl ?_
  refine zF_aload_n 8 dX12_load_7 rfl rfl ?_
  refine zF_getI 11 dX12_load_8 rfl gX12_339 (by decide) (by decide) hM.1 hM.2.1 (zsi_F (by decide) hc) ?_
  refine zF_callSi 14 (d2 := (d + 9)) (as := [zI n, zI 0, zI c]) dX12_load_11 rfl kX12_109 sX12_inRange (Nat.le_refl _) rfl rfl (Nat.le_of_ble_eq_true rfl) (zt_X12_inRange (by first | decide | assumption | (constructor <;> omega)) (by first | decide | assumption | (constructor <;> omega)) (by first | decide | assumption | (constructor <;> omega))) ?_
  refine zF_ifb_ne 23 17 dX12_load_14 rfl rfl (fun c1 => ?_) (fun c1 => ?_)
  · exact absurd c1 (by omega)
  · refine zF_aload_n 18 dX12_load_17 rfl rfl ?_
    refine zF_iconst 19 dX12_load_18 rfl ?_
    refine zF_callV 22 (d2 := (d + 9)) (as := [zI 1]) dX12_load_19 rfl kX12_238 iX12_raise (ci := 12) rfl eX12_raise (Nat.le_refl _) hM.1 hM.2.1 rfl rfl (Nat.le_of_ble_eq_true rfl) (zE.mono (zt_X12_raise hM) fun ro σx1 hh1 => ?_)
    obtain ⟨er1, es1⟩ := hh1
    subst er1
    subst es1
    refine ⟨rfl, ?_⟩
    exact zF_ireturn dX12_load_22 rfl (⟨rfl, rfl⟩)
end ZMV
